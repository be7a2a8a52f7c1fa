section GT
variable {d : AD} {c : CH} {v : Nu} {u : Mu} {w : Me} {n m r t : Nat} {od : Nat → Nat}
theorem g_tg (R : RC d c v u w) (hn : n < v 9 0) : tg 5 (da d 1 n) (cB d c) = some (da d 1 n) := ctg (R.t hn).1 rfl
theorem g_num (R : RC d c v u w) (hn : n < v 9 0) : gI 5 0 (da d 1 n) (cB d c) = some (nI n) := by
  rw [cgI (t := 5) (R.t hn).1 rfl, (R.t hn).2.2.2.2.1.1]
theorem g_kind (R : RC d c v u w) (hn : n < v 9 0) : gI 5 1 (da d 1 n) (cB d c) = some (nI (v 0 n)) := by
  rw [cgI (t := 5) (R.t hn).1 rfl, (R.t hn).2.2.2.2.1.2.1]
theorem g_host (R : RC d c v u w) (hn : n < v 9 0) : gI 5 2 (da d 1 n) (cB d c) = some (nI (v 1 n)) := by
  rw [cgI (t := 5) (R.t hn).1 rfl, (R.t hn).2.2.2.2.1.2.2.1]
theorem g_mark (R : RC d c v u w) (hn : n < v 9 0) : gI 5 5 (da d 1 n) (cB d c) = some (u 2 n) := by
  rw [cgI (t := 5) (R.t hn).1 rfl, (R.t hn).2.2.2.2.1.2.2.2.2.2.1]
theorem g_named (R : RC d c v u w) (hn : n < v 9 0) : gP 5 6 (da d 1 n) (cB d c) = some (if v 5 n = 0 then none else some (da d 1 (v 5 n - 1))) := by
  rw [cgP (t := 5) (R.t hn).1 rfl, (R.t hn).2.2.2.2.1.2.2.2.2.2.2.1]
  simp only [qe]
  by_cases h : v 5 n = 0
  · rw [if_pos h, if_pos h]; rfl
  · rw [if_neg h, if_neg h]; rfl
theorem g_weight (R : RC d c v u w) (hn : n < v 9 0) : gI 5 7 (da d 1 n) (cB d c) = some (nI (v 6 n)) := by
  rw [cgI (t := 5) (R.t hn).1 rfl, (R.t hn).2.2.2.2.1.2.2.2.2.2.2.2.1]
theorem g_exit (R : RC d c v u w) (hn : n < v 9 0) : gI 5 8 (da d 1 n) (cB d c) = some (nI (v 4 n)) := by
  rw [cgI (t := 5) (R.t hn).1 rfl, (R.t hn).2.2.2.2.1.2.2.2.2.2.2.2.2.1]
theorem g_broken (R : RC d c v u w) (hn : n < v 9 0) : gI 5 9 (da d 1 n) (cB d c) = some (nI (v 8 n)) := by
  rw [cgI (t := 5) (R.t hn).1 rfl, (R.t hn).2.2.2.2.1.2.2.2.2.2.2.2.2.2.1]
theorem g_there (R : RC d c v u w) (hn : n < v 9 0) : gI 5 10 (da d 1 n) (cB d c) = some (nI (1 - v 7 n)) := by
  rw [cgI (t := 5) (R.t hn).1 rfl, (R.t hn).2.2.2.2.1.2.2.2.2.2.2.2.2.2.2.1]
theorem nI_ifle {a b : Nat} (ha : a < 2147483648) (hb : b < 2147483648) {α : Type} {x y : α} : (if nI a ≤ nI b then x else y) = if a ≤ b then x else y := by
  by_cases h : a ≤ b
  · rw [if_pos h, if_pos ((nI_leI (by omega) (by omega)).mpr h)]
  · rw [if_neg h, if_neg (fun h2 => h ((nI_leI (by omega) (by omega)).mp h2))]
theorem nI_iflt {a b : Nat} (ha : a < 2147483648) (hb : b < 2147483648) {α : Type} {x y : α} : (if nI a < nI b then x else y) = if a < b then x else y := by
  by_cases h : a < b
  · rw [if_pos h, if_pos ((nI_ltI (by omega) (by omega)).mpr h)]
  · rw [if_neg h, if_neg (fun h2 => h ((nI_ltI (by omega) (by omega)).mp h2))]
theorem nI_ifeq {a b : Nat} (ha : a < 2147483648) (hb : b < 2147483648) {α : Type} {x y : α} : (if nI a = nI b then x else y) = if a = b then x else y := by
  by_cases h : a = b
  · rw [if_pos h, if_pos ((nI_eq (by omega) (by omega)).mpr h)]
  · rw [if_neg h, if_neg (fun h2 => h ((nI_eq (by omega) (by omega)).mp h2))]
theorem nI_if0 {a : Nat} (ha : a < 2147483648) {α : Type} {x y : α} : (if nI a = 0 then x else y) = if a = 0 then x else y := nI_ifeq (b := 0) ha (by decide)
theorem nI_if1 {a : Nat} (ha : a < 2147483648) {α : Type} {x y : α} : (if nI a = 1 then x else y) = if a = 1 then x else y := nI_ifeq (b := 1) ha (by decide)
theorem nI_if2 {a : Nat} (ha : a < 2147483648) {α : Type} {x y : α} : (if nI a = 2 then x else y) = if a = 2 then x else y := nI_ifeq (b := 2) ha (by decide)
theorem nI_if3 {a : Nat} (ha : a < 2147483648) {α : Type} {x y : α} : (if nI a = 3 then x else y) = if a = 3 then x else y := nI_ifeq (b := 3) ha (by decide)
/-- numbers of things within bounds -/
def iT (v : Nu) : Prop := v 9 0 ≤ 300 ∧ ∀ t, t < v 9 0 → v 0 t ≤ 3 ∧ v 1 t < 8 ∧ v 3 t ≤ 8 ∧ v 7 t ≤ 1 ∧ v 8 t ≤ 1 ∧ v 4 t ≤ 40000 ∧ v 6 t ≤ 40000 ∧ (v 0 t = 2 → v 7 t = 0) ∧ (v 0 t = 1 ∨ v 0 t = 2 → 1 ≤ v 3 t) ∧ (v 0 t = 0 ∨ v 0 t = 3 → v 3 t = 0) ∧ (v 0 t = 3 → (∃ m, v 5 t = m + 1 ∧ m < v 9 0 ∧ v 0 m ≠ 3 ∧ v 1 m ≠ v 1 t) ∧ v 4 t = 0 ∧ v 8 t = 0 ∧ 1 ≤ v 6 t) ∧ (v 0 t ≠ 3 → v 5 t = 0 ∧ v 6 t = 0) ∧ ∀ p, p < v 3 t → v 10 (8 * t + p) ≤ 2 ∧ (v 10 (8 * t + p) = 1 → v 11 (8 * t + p) < v 9 0 ∧ v 1 (v 11 (8 * t + p)) = v 1 t ∧ (v 7 t = 0 → v 7 (v 11 (8 * t + p)) = 0)) ∧ (v 10 (8 * t + p) = 2 → v 11 (8 * t + p) ≤ 3 ∧ v 12 (8 * t + p) ≤ 32)
theorem iT.tb (h : iT v) : TB v := ⟨h.1, fun n hn => ⟨(h.2 n hn).2.2.1, fun p hp e => (((h.2 n hn).2.2.2.2.2.2.2.2.2.2.2.2 p hp).2.1 e).1⟩⟩
/-- the ROOTS of a HOST -/
def Rt (v : Nu) (h k : Nat) : Prop := k < v 9 0 ∧ v 7 k = 0 ∧ v 1 k = h ∧ v 0 k = 2
def Near (v : Nu) (t : Nat) : Prop := Cl (LEv v) (Rt v (v 1 t)) t
theorem e_addRoots {h : Nat} [∀ k, Decidable (Rt v h k)] (R : RC d c v u w) (hI : iT v) (hh : h < 8) (hS : SR c 111 (v 9 0) 0 od) : ∃ (c' : CH) (m' : Nat) (od' : Nat → Nat), fX10_addRoots (da d 100 0) (nI h) (cB d c) = some ((), cB d c') ∧ Scc 111 c c' ∧ RC d c' v u w ∧ SR c' 111 (v 9 0) m' od' ∧ ∀ x, In m' od' x ↔ Rt v h x := by
  have hb := hI.1
  have key := zlp (F := fun n k (c' : CH) => fX10_addRoots_2 n (da d 100 0) (nI h) k (cB d c')) (N := v 9 0)
    (fun k c' => ∃ (m' : Nat) (od' : Nat → Nat), Scc 111 c c' ∧ RC d c' v u w ∧ SR c' 111 (v 9 0) m' od' ∧ ∀ x, In m' od' x ↔ Rt v h x ∧ x < k)
    (fun y => ∃ (c' : CH) (m' : Nat) (od' : Nat → Nat), y = some ((), cB d c') ∧ Scc 111 c c' ∧ RC d c' v u w ∧ SR c' 111 (v 9 0) m' od' ∧ ∀ x, In m' od' x ↔ Rt v h x)
    (by
      rintro n k c' hk ⟨m', od', p1, p2, p3, p4⟩
      left
      obtain ⟨b0, b1', b3, b7, -⟩ := hI.2 k hk
      have hF := p2.2.1
      have hX := p2.2.2.1
      have e1 : fX10_addRoots_2 (n + 1) (da d 100 0) (nI h) (nI k) (cB d c') = if Rt v h k then (b2 (fX3_add (da d 111 0) (some (da d 1 k)) (cB d c')) fun _ s18 => fX10_addRoots_2 n (da d 100 0) (nI h) (nI (k + 1)) s18) else fX10_addRoots_2 n (da d 100 0) (nI h) (nI (k + 1)) (cB d c') := by
        rw [fX10_addRoots_2]
        simp only [qa_100_0 hF hX, qt_101 hF, b1_s, b2_s, e_size p2, e_find p2 hb hk b7, nI_1]
        rw [nI_ifle (by omega) (by omega), if_neg (by omega)]
        by_cases g : v 7 k = 0
        · simp only [if_pos g, oe_1, g_host p2 hk, g_kind p2 hk, b1_s, qa_100_7 hF hX, qt_111 hF]
          rw [nI_ifeq (by omega) (by omega), nI_if2 (by omega)]
          by_cases g1 : v 1 k = h
          · rw [if_pos g1]
            by_cases g2 : v 0 k = 2
            · rw [if_pos g2, if_pos ⟨hk, g, g1, g2⟩]
            · rw [if_neg g2, if_neg (fun h => g2 h.2.2.2)]
          · rw [if_neg g1, if_neg (fun h => g1 h.2.2.1)]
        · simp only [if_neg g, oe_0]
          rw [if_neg (fun h => g h.2.1)]
      by_cases g : Rt v h k
      · obtain ⟨c2, m2, od2, q1, q2, q3, q4, q5, q6, q7⟩ := e_add p2.1 (p2.rr (Or.inl rfl)) (p2.tn hb) p3 hk
        rw [if_pos g, q1, b2_s] at e1
        refine ⟨c2, e1, m2, od2, p1.trans q2, p2.sc (Or.inl rfl) q2 q3 q4, q4, fun x => ?_⟩
        rw [q7, p4]
        constructor
        · rintro (⟨h1, h2⟩ | h)
          · exact ⟨h1, by omega⟩
          · rw [h]; exact ⟨g, by omega⟩
        · rintro ⟨h1, h2⟩
          by_cases e2 : x = k
          · exact Or.inr e2
          · exact Or.inl ⟨h1, by omega⟩
      · rw [if_neg g] at e1
        refine ⟨c', e1, m', od', p1, p2, p3, fun x => ?_⟩
        rw [p4]
        constructor
        · rintro ⟨h1, h2⟩
          exact ⟨h1, by omega⟩
        · rintro ⟨h1, h2⟩
          refine ⟨h1, ?_⟩
          by_cases e2 : x = k
          · rw [e2] at h1; exact absurd h1 g
          · omega)
    (by
      rintro n c' ⟨m', od', p1, p2, p3, p4⟩
      have hF := p2.2.1
      have hX := p2.2.2.1
      refine ⟨c', m', od', ?_, p1, p2, p3, fun x => ⟨fun h => ((p4 x).mp h).1, fun h => (p4 x).mpr ⟨h, h.1⟩⟩⟩
      show fX10_addRoots_2 (n + 1) (da d 100 0) (nI h) (nI (v 9 0)) (cB d c') = _
      rw [fX10_addRoots_2]
      simp only [qa_100_0 hF hX, qt_101 hF, b1_s, b2_s, e_size p2]
      rw [if_pos (Int32.le_refl _)])
  exact key (v 9 0) 100000 0 c (by omega) (by omega) ⟨0, od, Scc.rfl, R, hS, fun x => ⟨fun ⟨i, hi, _⟩ => by omega, fun h => by omega⟩⟩
theorem SR.mark {x : Nat} (hS : SR c r (v 9 0) m od) (hx : x < 300) {P : Prop} [Decidable P] (h : In m od x ↔ P) : cI c (r + 1) 0 x = if P then 1 else 0 := by
  rcases hS.2.2.2.2 x hx with ⟨a1, a2⟩ | ⟨a1, a2⟩
  · rw [a1, if_pos (h.mp a2)]
  · rw [a1, if_neg (fun h2 => a2 (h.mpr h2))]

theorem e_isNear [Decidable (Near v t)] (R : RC d c v u w) (hI : iT v) (ht : t < v 9 0) : ∃ c', fX10_isNear (da d 100 0) (some (da d 1 t)) (cB d c) = some (if Near v t then 1 else 0, cB d c') ∧ Scc 111 c c' ∧ RC d c' v u w := by
  have hb := hI.1
  obtain ⟨c1, od1, q1, q2, q3, q4⟩ := e_restart2 R hb (Or.inl rfl)
  have := fun k => Classical.propDecidable (Rt v (v 1 t) k)
  obtain ⟨c2, m2, od2, r1, r2, r3, r4, r5⟩ := e_addRoots q3 hI (hI.2 t ht).2.1 q4
  obtain ⟨c3, m3, od3, s1, s2, s3, s4, s5⟩ := e_spread r3 hI.tb (Or.inl rfl) r4
  refine ⟨c3, ?_, (q2.trans r2).trans s2, s3⟩
  have hh := e_has (s3.rr (Or.inl rfl)) (s3.tn hb) s4 ht
  have hx : In m3 od3 t ↔ Near v t := by
    rw [s5]
    constructor
    · exact fun h => h.mono (fun b hB => (r5 b).mp hB)
    · exact fun h => h.mono (fun b hB => (r5 b).mpr hB)
  have hm := s4.mark (x := t) (by omega) hx
  unfold fX10_isNear
  simp only [qa_100_7 R.2.1 R.2.2.1, qt_111 R.2.1, b1_s, q1, b2_s, g_host q3 ht, qt_100 q3.2.1, r1, qa_100_7 r3.2.1 r3.2.2.1, qt_111 r3.2.1, s1, qa_100_7 s3.2.1 s3.2.2.1, qt_111 s3.2.1, hh, hm]
  by_cases h : Near v t
  · rw [if_pos h]; rfl
  · rw [if_neg h]; rfl
end GT
