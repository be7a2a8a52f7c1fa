/-- the list of the search: its roots, then each behind the first that goes to it -/
def LIs (v : Nu) (r j m : Nat) (od : Nat → Nat) (bf : Nat → Option Nat) (dp pi : Nat → Nat) : Prop :=
  r ≤ m ∧ (∀ i, i < r → v 0 (od i) = 2 ∧ bf (od i) = none ∧ dp (od i) = 0) ∧
  (∀ i1 i2, i1 < i2 → i2 < r → od i1 < od i2) ∧ (∀ x, x < v 9 0 → v 0 x = 2 → ∃ i, i < r ∧ od i = x) ∧
  (∀ i, r ≤ i → i < m → pi i < j ∧ pi i < i ∧ GE v (od (pi i)) (od i) ∧ v 7 (od i) = 0 ∧ bf (od i) = some (od (pi i)) ∧ dp (od i) = dp (od (pi i)) + 1 ∧ ∀ i', i' < pi i → ¬ GE v (od i') (od i)) ∧
  (∀ i1 i2, r ≤ i1 → i1 < i2 → i2 < m → pi i1 < pi i2 ∨ (pi i1 = pi i2 ∧ od i1 < od i2)) ∧
  ∀ i y, i < j → i < m → GE v (od i) y → y < v 9 0 → v 7 y = 0 → In m od y
section TD
variable {d : AD} {c0 c c' : CH} {v : Nu} {u : Mu} {w : Me} {m x y t r j : Nat} {od dp pi : Nat → Nat} {bf : Nat → Option Nat} {M : Nat → Bool}
theorem GE.lt (hT : iT v) (hL : iL v) (hW : iW v) (hx : x < v 9 0) (h : GE v x y) : y < v 9 0 := by
  rcases h with ⟨h1, h2⟩ | ⟨h1, h2 | ⟨h3, ⟨l, l1, l2, l3, l4, l5⟩ | ⟨k, k1, k2, k3⟩⟩⟩
  · obtain ⟨⟨mm, m1, m2, -⟩, -⟩ := hT.g hx h1
    omega
  · obtain ⟨q, q1, q2, q3⟩ := h2.at
    have := ((hT.pl hx q1).2.1 q2).1
    omega
  · have := (hL.2.1 l l1).2.2.2.1
    omega
  · have := (hW.2 k k1).1
    omega
theorem LIs.step {m' : Nat} {od' dp' : Nat → Nat} {bf' : Nat → Option Nat} (hlt : ∀ i, i < m → od i < v 9 0) (hinj : ∀ a b, a < m' → b < m' → od' a = od' b → a = b) (h : LIs v r j m od bf dp pi) (hj : j < m) (hM : ∀ n, M n = true ↔ v 7 n = 0 ∧ GE v (od j) n) (hA : AddP (od j) m od bf dp M (v 9 0) m' od' bf' dp') : LIs v r (j + 1) m' od' bf' dp' (fun i => if i < m then pi i else j) := by
  obtain ⟨l1, l2, l3, l4, l5, l6, l7⟩ := h
  have hle := hA.le
  have ho := hA.old
  have pin : ∀ i, i < m → In m od (od i) := fun i hi => ⟨i, hi, rfl⟩
  refine ⟨by omega, fun i hi => ?_, fun i1 i2 g1 g2 => ?_, fun x hx h2 => ?_, fun i i1 i2 => ?_, fun i1 i2 g1 g2 g3 => ?_, fun i y i1 i2 hg hy h7 => ?_⟩
  · rw [ho i (by omega)]
    obtain ⟨a1, a2, a3⟩ := l2 i hi
    obtain ⟨b1, b2⟩ := hA.keep _ (pin i (by omega))
    exact ⟨a1, by rw [b1]; exact a2, by rw [b2]; exact a3⟩
  · rw [ho i1 (by omega), ho i2 (by omega)]
    exact l3 i1 i2 g1 g2
  · obtain ⟨i, i1, i2⟩ := l4 x hx h2
    exact ⟨i, i1, by rw [ho i (by omega)]; exact i2⟩
  · dsimp only
    by_cases e : i < m
    · obtain ⟨a1, a2, a3, a4, a5, a6, a7⟩ := l5 i i1 e
      obtain ⟨b1, b2⟩ := hA.keep _ (pin i e)
      obtain ⟨b3, b4⟩ := hA.keep _ (pin (pi i) (by omega))
      rw [if_pos e, ho i e, ho (pi i) (by omega), b1, b2, b4]
      refine ⟨by omega, a2, a3, a4, a5, a6, fun i' hi' => ?_⟩
      rw [ho i' (by omega)]
      exact a7 i' hi'
    · obtain ⟨a1, a2, a3, a4, a5⟩ := hA.new i (by omega) i2
      obtain ⟨b1, b2⟩ := hA.keep _ (pin j hj)
      obtain ⟨c1, c2⟩ := (hM _).mp a1
      rw [if_neg e, ho j hj, a3, a4, b2]
      refine ⟨by omega, by omega, c2, c1, rfl, rfl, fun i' hi' hg => ?_⟩
      rw [ho i' (by omega)] at hg
      exact a2 (l7 i' _ hi' (by omega) hg (by omega) c1)
  · dsimp only
    by_cases e2 : i2 < m
    · rw [if_pos e2, if_pos (show i1 < m by omega), ho i1 (by omega), ho i2 e2]
      exact l6 i1 i2 g1 g2 e2
    · rw [if_neg e2]
      by_cases e1 : i1 < m
      · rw [if_pos e1]
        exact Or.inl (l5 i1 g1 e1).1
      · rw [if_neg e1]
        exact Or.inr ⟨rfl, hA.ord i1 i2 (by omega) g2 g3⟩
  · by_cases e : i < m
    · rw [ho i e] at hg
      by_cases ej : i = j
      · rw [ej] at hg
        exact (hA.iff y).mpr (Or.inr ⟨(hM y).mpr ⟨h7, hg⟩, hy⟩)
      · exact (hA.iff y).mpr (Or.inl (l7 i y (by omega) e hg hy h7))
    · omega
theorem TS.acc (h : TS d c0 c v m od bf dp (fun _ => false)) : Acc d c0 c v m od bf dp (fun _ => False) := ⟨_, h, fun n => ⟨fun g => (by cases g), fun g => g.2.elim⟩⟩
/-- the search's main loop -/
theorem e_trace57 (R : RC d c0 v u w) (hT : iT v) (hL : iL v) (hW : iW v) : ∀ (g n j : Nat) (c : CH) (m : Nat) (od : Nat → Nat) (bf : Nat → Option Nat) (dp pi : Nat → Nat), j + g = 300 → g < n → j ≤ m → TS d c0 c v m od bf dp (fun _ => false) → LIs v r j m od bf dp pi → ∃ c' m' od' bf' dp' pi', fX1_trace_57 n (da d 117 0) (da d 101 0) (some (da d 103 0)) (some (da d 105 0)) (nI j) (cB d c) = some ((), cB d c') ∧ TS d c0 c' v m' od' bf' dp' (fun _ => false) ∧ LIs v r m' m' od' bf' dp' pi' := by
  have hb := hT.1
  intro g
  induction g with
  | zero =>
    intro n j c m od bf dp pi e1 e2 e3 h hI
    obtain ⟨n, rfl⟩ : ∃ n', n = n' + 1 := ⟨n - 1, by omega⟩
    have RW := h.rv R
    have hm := h.2.2.1.1
    have : j = m := by omega
    subst this
    refine ⟨c, j, od, bf, dp, pi, ?_, h, hI⟩
    rw [fX1_trace_57, qa_117_0 RW.2.1 RW.2.2.1, b1_s, qt_118 RW.2.1, b1_s, e_rsize (rr_118 RW.2.1 RW.2.2.1) h.2.2.1, b2_s, if_pos (Int32.le_refl _)]
  | succ g ih =>
    intro n j c m od bf dp pi e1 e2 e3 h hI
    obtain ⟨n, rfl⟩ : ∃ n', n = n' + 1 := ⟨n - 1, by omega⟩
    have RW := h.rv R
    have hm := h.2.2.1.1
    rcases Nat.lt_or_ge j m with hj | hj
    · have hlt : ∀ i, i < m → od i < v 9 0 := fun i hi => (h.2.2.1.2.2.1 i hi).1
      obtain ⟨c1, a1, M, a2, a3⟩ := e_markNext R hT hL hW h.acc (hlt j hj)
      have RW1 := a2.rv R
      obtain ⟨c2, m2, od2, bf2, dp2, b1', b2', b3⟩ := e_addNext R hT a2 (fun n hn => ⟨GE.lt hT hL hW (hlt j hj) ((a3 n).mp hn).2, ((a3 n).mp hn).1⟩) ⟨j, hj, rfl⟩
      have hI2 := hI.step hlt b2'.2.2.1.2.2.2.1 hj a3 b3
      have es : fX1_trace_57 (n + 1) (da d 117 0) (da d 101 0) (some (da d 103 0)) (some (da d 105 0)) (nI j) (cB d c) = fX1_trace_57 n (da d 117 0) (da d 101 0) (some (da d 103 0)) (some (da d 105 0)) (nI (j + 1)) (cB d c2) := by
        rw [fX1_trace_57, qa_117_0 RW.2.1 RW.2.2.1, b1_s, qt_118 RW.2.1, b1_s, e_rsize (rr_118 RW.2.1 RW.2.2.1) h.2.2.1, b2_s, nI_ifle (by omega) (by omega), if_neg (by omega), show (300 : Int32) = nI 300 from rfl, nI_ifle (by omega) (by omega), if_neg (by omega), qa_117_0 RW.2.1 RW.2.2.1, b1_s, qt_118 RW.2.1, b1_s, e_rat (rr_118 RW.2.1 RW.2.2.1) h.2.2.1 hj, b2_s, oe_1, qt_117 RW.2.1, b1_s, a1, b2_s, qt_117 RW1.2.1, b1_s, b1', b2_s, nI_1]
      rw [es]
      exact ih n (j + 1) c2 m2 od2 bf2 dp2 _ (by omega) (by omega) (by have := b3.le; omega) b2' hI2
    · have : j = m := by omega
      subst this
      refine ⟨c, j, od, bf, dp, pi, ?_, h, hI⟩
      rw [fX1_trace_57, qa_117_0 RW.2.1 RW.2.2.1, b1_s, qt_118 RW.2.1, b1_s, e_rsize (rr_118 RW.2.1 RW.2.2.1) h.2.2.1, b2_s, if_pos (Int32.le_refl _)]
/-- the search -/
theorem e_trace (R : RC d c v u w) (hT : iT v) (hL : iL v) (hW : iW v) : ∃ c' m od bf dp pi r, fX1_trace (da d 117 0) (some (da d 101 0)) (some (da d 103 0)) (some (da d 105 0)) (cB d c) = some ((), cB d c') ∧ RC d c' v u w ∧ SR c' 118 (v 9 0) m od ∧ (∀ x, In m od x → cQ c' 122 0 x = (bf x).map (fun p => (1, p)) ∧ cI c' 123 0 x = nI (dp x)) ∧ LIs v r m m od bf dp pi := by
  have hb := hT.1
  obtain ⟨c1, od1, a1, a2, R1, a4⟩ := e_restart2 R hb (Or.inr (Or.inr rfl))
  obtain ⟨-, -, -, s4, s5⟩ := R1.2.2.2.2.2.2.2.2
  have fb0 : fb_ct (fun _ => false) 300 = 0 := fb_ct_zero.mpr (fun _ _ => rfl)
  have ts0 : TS d c1 c1 v 0 od1 (fun _ => none) (fun _ => 0) (fun _ => false) := ⟨tr_rfl, R1.1, a4, fun n hn => s5 n hn, by rw [fb0]; exact s4, fun x ⟨i, hi, _⟩ => by omega⟩
  have key := zlp (F := fun n i (c' : CH) => fX1_trace_10 n (da d 117 0) (some (da d 101 0)) (some (da d 103 0)) (some (da d 105 0)) i (cB d c')) (N := v 9 0)
    (fun i c' => ∃ m od bf dp, TS d c1 c' v m od bf dp (fun _ => false) ∧ (∀ x, In m od x ↔ x < i ∧ v 0 x = 2) ∧ (∀ j, j < m → bf (od j) = none ∧ dp (od j) = 0) ∧ ∀ j1 j2, j1 < j2 → j2 < m → od j1 < od j2)
    (fun y => ∃ c' m' od' bf' dp' pi' r, y = some ((), cB d c') ∧ TS d c1 c' v m' od' bf' dp' (fun _ => false) ∧ LIs v r m' m' od' bf' dp' pi')
    (by
      rintro n i c' hi ⟨m, od, bf, dp, h, h1, h2, h3⟩
      left
      have RW := h.rv R1
      have hF := RW.2.1
      obtain ⟨k0, k1, k3, k7, -⟩ := hT.k hi
      have e0 : fX1_trace_10 (n + 1) (da d 117 0) (some (da d 101 0)) (some (da d 103 0)) (some (da d 105 0)) (nI i) (cB d c') = if v 0 i = 2 then (b2 (fX1_addBehind (da d 117 0) (some (da d 1 i)) none (cB d c')) fun _ s14 => fX1_trace_10 n (da d 117 0) (some (da d 101 0)) (some (da d 103 0)) (some (da d 105 0)) (nI (i + 1)) s14) else fX1_trace_10 n (da d 117 0) (some (da d 101 0)) (some (da d 103 0)) (some (da d 105 0)) (nI (i + 1)) (cB d c') := by
        rw [fX1_trace_10, b1_s, qt_101 hF, b1_s, re_size RW, b2_s, nI_ifle (by omega) (by omega), if_neg (by omega), qt_101 hF, b1_s, re_find RW hb hi k7, b2_s, nI_1]
        by_cases e7 : v 7 i = 0
        · rw [if_pos e7, oe_1, rg_kind RW hi, b1_s, nI_if2 (by omega)]
          by_cases e2 : v 0 i = 2
          · rw [if_pos e2, if_pos e2, qt_117 hF, b1_s]
          · rw [if_neg e2, if_neg e2]
        · rw [if_neg e7, oe_0, if_neg (fun e2 => e7 (hT.rt hi e2))]
      by_cases e2 : v 0 i = 2
      · have hn : ¬ In m od i := fun g => by have := ((h1 i).mp g).1; omega
        obtain ⟨c3, od3, s1, s2, s3, s4⟩ := e_addBehind (p := none) R1 hb h hi hn (fun q hq => by cases hq)
        have s1' : fX1_addBehind (da d 117 0) (some (da d 1 i)) none (cB d c') = some ((), cB d c3) := s1
        rw [if_pos e2, s1', b2_s] at e0
        have hold : ∀ j, j < m → od j < i := fun j hj => ((h1 _).mp ⟨j, hj, rfl⟩).1
        refine ⟨c3, e0, m + 1, od3, _, _, s2, fun x => ?_, fun j hj => ?_, fun j1 j2 g1 g2 => ?_⟩
        · constructor
          · rintro ⟨j, j1, j2⟩
            by_cases e : j = m
            · rw [← j2, e, s3]
              exact ⟨by omega, e2⟩
            · have := (h1 x).mp ⟨j, by omega, by rw [← s4 j (by omega)]; exact j2⟩
              exact ⟨by omega, this.2⟩
          · rintro ⟨g1, g2⟩
            by_cases e : x = i
            · exact ⟨m, by omega, by rw [s3, e]⟩
            · obtain ⟨j, j1, j2⟩ := (h1 x).mpr ⟨by omega, g2⟩
              exact ⟨j, by omega, by rw [s4 j j1]; exact j2⟩
        · by_cases e : j = m
          · rw [e, s3, fup_s, fup_s]
            exact ⟨rfl, rfl⟩
          · have := hold j (by omega)
            rw [s4 j (by omega), fup_n (by omega), fup_n (by omega)]
            exact h2 j (by omega)
        · by_cases e : j2 = m
          · rw [e, s3, s4 j1 (by omega)]
            exact hold j1 (by omega)
          · rw [s4 j1 (by omega), s4 j2 (by omega)]
            exact h3 j1 j2 g1 (by omega)
      · rw [if_neg e2] at e0
        refine ⟨c', e0, m, od, bf, dp, h, fun x => (h1 x).trans ⟨fun g => ⟨by omega, g.2⟩, fun g => ⟨?_, g.2⟩⟩, h2, h3⟩
        by_cases e : x = i
        · rw [e] at g; exact absurd g.2 e2
        · omega)
    (by
      rintro n c' ⟨m, od, bf, dp, h, h1, h2, h3⟩
      have RW := h.rv R1
      have hF := RW.2.1
      have hLI : LIs v m 0 m od bf dp (fun _ => 0) := ⟨Nat.le_refl _, fun i hi => ⟨((h1 _).mp ⟨i, hi, rfl⟩).2, h2 i hi⟩, h3, fun x hx hk => by
        obtain ⟨i, i1, i2⟩ := (h1 x).mpr ⟨hx, hk⟩
        exact ⟨i, i1, i2⟩, fun i i1 i2 => by omega, fun i1 i2 g1 g2 g3 => by omega, fun i y hi => by omega⟩
      obtain ⟨c2, m2, od2, bf2, dp2, pi2, e1, e2, e3⟩ := e_trace57 R1 hT hL hW 300 100000 0 c' m od bf dp _ (by omega) (by omega) (by omega) h hLI
      refine ⟨c2, m2, od2, bf2, dp2, pi2, m, ?_, e2, e3⟩
      show fX1_trace_10 (n + 1) (da d 117 0) (some (da d 101 0)) (some (da d 103 0)) (some (da d 105 0)) (nI (v 9 0)) (cB d c') = _
      rw [fX1_trace_10, b1_s, qt_101 hF, b1_s, re_size RW, b2_s, if_pos (Int32.le_refl _)]
      exact e1)
  obtain ⟨c2, m2, od2, bf2, dp2, pi2, r, e1, e2, e3⟩ := key (v 9 0) 100000 0 c1 (by omega) (by omega) ⟨0, od1, _, _, ts0, fun x => ⟨fun ⟨i, hi, _⟩ => by omega, fun g => by omega⟩, fun j hj => by omega, fun j1 j2 g1 g2 => by omega⟩
  obtain ⟨t1, t2, t3, t4, t5, t6⟩ := e2
  refine ⟨c2, m2, od2, bf2, dp2, pi2, r, ?_, t1.rc R1 t2 t3 (by rw [t5, fb0]; rfl) (fun n hn => t4 n hn), t3, t6, e3⟩
  unfold fX1_trace
  rw [qa_117_0 R.2.1 R.2.2.1, b1_s, qt_118 R.2.1, b1_s, a1, b2_s]
  exact e1
end TD
