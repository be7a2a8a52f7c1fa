section AY
variable {d d' : AD} {c c' : CH} {v v' : Nu} {u u' : Mu} {w w' : Me} {n q z m r t k l b0 g wt x y h m1 m2 i s : Nat} {A : Nat → Bool} {S S' : Nat → Prop}
theorem RB.from (hh : RB v k S x) : ∃ b, OB v k S b ∧ Led v b x := hh (fun x => ∃ b, OB v k S b ∧ Led v b x) (fun b hb => ⟨b, hb, Cl.base rfl⟩) (fun x y ⟨b, h1, h2⟩ hxy => ⟨b, h1, Cl.step h2 hxy⟩)
/-- all notes are as things are -/
def aN (v : Nu) (w : Me) (k : Nat) : Prop := ∀ x, x < 300 → v 42 (300 * k + x) = 1 → x < v 9 0 ∧ nOK v w k x
theorem aN.p (h : aN v w k) : iP v k := fun x hx e => ⟨(h x hx e).1, (h x hx e).2.1⟩
theorem NA.rb (hb : v 9 0 ≤ 300) (ha : aN v w k) (hs : ∀ y, A y = true → S y) (hx : x < 300) (h42 : v 42 (300 * k + x) = 1) (hn : NA v w k A x) : RB v k S x := by
  obtain ⟨hx9, n1, n2, n3, n4⟩ := ha x hx h42
  rcases hn with hn | ⟨y, y1, y2, y3⟩
  · rcases n3.mp hn with hw | hr
    · exact Cl.base ⟨hx9, n1, Or.inr (Or.inl hw)⟩
    · exact Cl.mono hr (fun b hB => ⟨hB.1, hB.2.1, Or.inl hB.2.2.2⟩)
  · obtain ⟨e1, e2, e3, e4, e5⟩ := (n4 y (by omega)).mp y2
    refine Cl.mono e5 (fun b hB => ?_)
    subst hB
    refine ⟨e1, e4.1, Or.inr (Or.inr ⟨e4, ?_⟩)⟩
    rcases y3 with h | h
    · left
      simp [pas, h]
    · exact Or.inr (hs _ h)
theorem led_gate (hT : iT v) (hy : y < v 9 0) (h3 : v 0 y = 3) (hl : Led v y x) : x = y := hl (fun x => x = y) (fun b hb => hb) (fun a b ha hab => by
  obtain ⟨q, q1, -⟩ := hab.at
  rw [ha, hT.np hy (Or.inr h3)] at q1
  omega)
theorem RB.na (hT : iT v) (hW : iW v) (h42b : ∀ x, x < 300 → v 42 (300 * k + x) ≤ 1) (ha : aN v w k) (hx : x < 300) (h42 : v 42 (300 * k + x) = 1) (hr : RB v k (fun y => A y = true) x) (hnA : v 0 x = 3 ∨ A x ≠ true) : NA v w k A x := by
  have hb := hT.1
  obtain ⟨hx9, n1, n2, n3, n4⟩ := ha x hx h42
  obtain ⟨b, ⟨b1, b2', b3⟩, bl⟩ := hr.from
  obtain ⟨-, l2, l3⟩ := led_there hT b1 b2' bl
  rcases b3 with b3 | b3 | ⟨b3, b4⟩
  · left
    exact n3.mpr (Or.inr (Cl.mono bl (fun y hy => by subst hy; exact ⟨b1, b2', by rw [l3], b3⟩)))
  · left
    obtain ⟨j, j1, j2⟩ := b3
    have := (hW.2 j j1).2.1
    rw [j2] at this
    have e := led_gate hT b1 this bl
    rw [n3, e]
    exact Or.inl ⟨j, j1, j2⟩
  · have hne : b ≠ x := fun e => by
      subst e
      rcases b4 with h | h
      · simp [pas, h42, b3.2.1] at h
      · exact hnA.elim b3.2.1 (fun g => g h)
    right
    refine ⟨b, b1, (n4 b (by omega)).mpr ⟨b1, hne, l3.symm, b3, bl⟩, ?_⟩
    rcases b4 with h | h
    · left
      have h4 := h42b b (by omega)
      have : v 42 (300 * k + b) ≠ 1 := fun e => by simp [pas, e, b3.2.1] at h
      omega
    · exact Or.inr h
theorem BA.ac (hb : v 9 0 ≤ 300) (ha : aN v w k) (hs : ∀ y, A y = true → S y) (hx : x < 300) (hp : pas v k x = true) (hn : BA v w k A x) : AC v k S x := by
  obtain ⟨p1, p2⟩ := pas_iff.mp hp
  rcases hn with h | ⟨g, g1, g2, g3, g4⟩ | h
  · exact Or.inr (Or.inl (NA.rb hb ha hs hx p1 h))
  · exact Or.inr (Or.inr ⟨g, g1, g2, g3, NA.rb hb ha hs (by omega) (met_iff.mp g2).1 g4⟩)
  · left
    have := (ha x hx p1).2.2.1
    rw [if_neg p2] at this
    omega
theorem AC.ba (hT : iT v) (hW : iW v) (h42b : ∀ x, x < 300 → v 42 (300 * k + x) ≤ 1) (ha : aN v w k) (hx : x < 300) (hp : pas v k x = true) (hA : A x ≠ true) (hn : AC v k (fun y => A y = true) x) : BA v w k A x := by
  have hb := hT.1
  obtain ⟨p1, p2⟩ := pas_iff.mp hp
  rcases hn with h | h | ⟨g, g1, g2, g3, g4⟩
  · right; right
    have := (ha x hx p1).2.2.1
    rw [if_neg p2] at this
    omega
  · exact Or.inl (RB.na hT hW h42b ha hx p1 h (Or.inr hA))
  · exact Or.inr (Or.inl ⟨g, g1, g2, g3, RB.na hT hW h42b ha (by omega) (met_iff.mp g2).1 g4 (Or.inl (met_iff.mp g2).2)⟩)
def S47 (u u' : Mu) : Prop := ∀ f i, f ≠ 47 → u' f i = u f i
theorem S47.sc (h : S47 u u') : Sc u u' := fun f i hf => h f i (by omega)
theorem x_pass {K : Nat → Int32 → Int32 → Int32 → Hz → Option (Int32 × Hz)} (hN : Nv v u) (hT : iT v) (hk : k < 20) (h42 : ∀ x, x < 300 → v 42 (300 * k + x) ≤ 1 ∧ v 43 (300 * k + x) ≤ 1 ∧ v 44 (300 * k + x) ≤ 40000 ∧ (v 42 (300 * k + x) = 1 → x < v 9 0)) (ha : aN v w k) (hA : T47 A u) (hal : ∀ x, A x = true → AL v k x) : ∃ u' A' fl, fX11_isAlive_33 K 100000 q (nI k) (nI s) 0 0 (mB q z u w) = K q (nI k) (nI s) (nI fl) (mB q z u' w) ∧ T47 A' u' ∧ S47 u u' ∧ (∀ x, A' x = true → AL v k x) ∧ fl ≤ 1 ∧ fb_ct A 300 + fl ≤ fb_ct A' 300 ∧ (fl = 0 → ∀ x, x < v 9 0 → A' x ≠ true → pas v k x = true → ¬ BA v w k A' x) := by
  have hb := hT.1
  have key := zlp (F := fun n j (s' : Mu × (Nat → Bool) × Nat) => fX11_isAlive_33 K n q (nI k) (nI s) (nI s'.2.2) j (mB q z s'.1 w)) (N := v 9 0)
    (fun j s' => T47 s'.2.1 s'.1 ∧ S47 u s'.1 ∧ (∀ x, s'.2.1 x = true → AL v k x) ∧ s'.2.2 ≤ 1 ∧ fb_ct A 300 + s'.2.2 ≤ fb_ct s'.2.1 300 ∧ (s'.2.2 = 0 → ∀ x, x < j → s'.2.1 x ≠ true → pas v k x = true → ¬ BA v w k s'.2.1 x))
    (fun y => ∃ u' A' fl, y = K q (nI k) (nI s) (nI fl) (mB q z u' w) ∧ T47 A' u' ∧ S47 u u' ∧ (∀ x, A' x = true → AL v k x) ∧ fl ≤ 1 ∧ fb_ct A 300 + fl ≤ fb_ct A' 300 ∧ (fl = 0 → ∀ x, x < v 9 0 → A' x ≠ true → pas v k x = true → ¬ BA v w k A' x))
    (by
      rintro n j ⟨u1, A1, fl⟩ hj ⟨p1, p2, p3, p4, p5, p6⟩
      left
      dsimp only at p1 p2 p3 p4 p5 p6
      have hN1 := hN.sc p2.sc
      haveI := Classical.propDecidable (BA v w k A1 j)
      obtain ⟨k0, -⟩ := hT.k hj
      obtain ⟨i1, i2, i3, -⟩ := h42 j (by omega)
      have skip : (A1 j ≠ true → pas v k j = true → ¬ BA v w k A1 j) → ∃ s' : Mu × (Nat → Bool) × Nat, fX11_isAlive_33 K n q (nI k) (nI s) (nI fl) (nI (j + 1)) (mB q z u1 w) = fX11_isAlive_33 K n q (nI k) (nI s) (nI s'.2.2) (nI (j + 1)) (mB q z s'.1 w) ∧ T47 s'.2.1 s'.1 ∧ S47 u s'.1 ∧ (∀ x, s'.2.1 x = true → AL v k x) ∧ s'.2.2 ≤ 1 ∧ fb_ct A 300 + s'.2.2 ≤ fb_ct s'.2.1 300 ∧ (s'.2.2 = 0 → ∀ x, x < j + 1 → s'.2.1 x ≠ true → pas v k x = true → ¬ BA v w k s'.2.1 x) := fun hne => ⟨(u1, A1, fl), rfl, p1, p2, p3, p4, p5, fun h x hx => by
        by_cases e : x = j
        · rw [e]; exact hne
        · exact p6 h x (by omega)⟩
      show ∃ s' : Mu × (Nat → Bool) × Nat, fX11_isAlive_33 K (n + 1) q (nI k) (nI s) (nI fl) (nI j) (mB q z u1 w) = _ ∧ _
      rw [fX11_isAlive_33, mG9, b1_s, hN1.k9, nI_ifle (by omega) (by omega), if_neg (by omega), mA47, b1_s, mX47, mI_n (by omega) (by decide), b1_s, p1 j (by omega), nI_1]
      by_cases ea : A1 j = true
      · rw [if_pos ea, if_neg (show ¬ (1 : Int32) = 0 by decide)]
        exact skip (fun h => absurd ea h)
      · rw [if_neg ea, if_pos rfl, mA0, b1_s, mX0, mI_n (by omega) (by decide), b1_s, hN1.k0, nI_if3 (by omega)]
        by_cases e3 : v 0 j = 3
        · rw [if_pos e3]
          exact skip (fun _ h => absurd e3 (pas_iff.mp h).2)
        · rw [if_neg e3, mA42, b1_s, n300, mX42, mI_n (by omega) (by decide), b1_s, hN1.k42, nI_if0 (by omega)]
          by_cases e42 : v 42 (300 * k + j) = 0
          · rw [if_pos e42]
            exact skip (fun _ h => by have := (pas_iff.mp h).1; omega)
          · have hp : pas v k j = true := pas_iff.mpr ⟨by omega, e3⟩
            rw [if_neg e42, mtg, b1_s, x_becomes hN1 hT hk hj h42 p1, b2_s]
            by_cases eb : BA v w k A1 j
            · rw [if_pos eb, if_neg (show ¬ (1 : Int32) = 0 by decide), mA47, b1_s, mY47 (mC_n (by omega) (by decide)), b1_s, nI_c (by omega)]
              refine ⟨(zu u1 47 j 1, fun x => if x = j then true else A1 x, 1), rfl, fun x hx => ?_, fun f i hf => ?_, fun x hx => ?_, Nat.le_refl _, ?_, fun h => by cases h⟩
              · show zu u1 47 j 1 47 x = if (if x = j then true else A1 x) = true then 1 else 0
                by_cases e : x = j
                · rw [e, zu_s, if_pos (show (if j = j then true else A1 j) = true from if_pos rfl)]
                · rw [zu_n (by omega), p1 x hx]
                  by_cases ex : A1 x = true
                  · rw [if_pos ex, if_pos (show (if x = j then true else A1 x) = true by rw [if_neg e]; exact ex)]
                  · rw [if_neg ex, if_neg (show ¬ (if x = j then true else A1 x) = true by rw [if_neg e]; exact ex)]
              · dsimp only
                rw [zu_n (by omega)]
                exact p2 f i hf
              · dsimp only at hx
                by_cases e : x = j
                · rw [e]
                  exact AL.mk hj hp (BA.ac hb ha p3 (by omega) hp eb)
                · rw [if_neg e] at hx
                  exact p3 x hx
              · dsimp only
                have := fb_ct_upd A1 true (i := j) (n := 300) (by omega)
                rw [if_neg ea, if_pos rfl] at this
                omega
            · rw [if_neg eb, if_pos rfl]
              exact skip (fun _ _ => eb))
    (by
      rintro n ⟨u1, A1, fl⟩ ⟨p1, p2, p3, p4, p5, p6⟩
      dsimp only at p2
      have hN1 := hN.sc p2.sc
      refine ⟨u1, A1, fl, ?_, p1, p2, p3, p4, p5, p6⟩
      show fX11_isAlive_33 K (n + 1) q (nI k) (nI s) (nI fl) (nI (v 9 0)) (mB q z u1 w) = _
      rw [fX11_isAlive_33, mG9, b1_s, hN1.k9, if_pos (Int32.le_refl _)])
  exact key (v 9 0) 100000 0 (u, A, 0) (by omega) (by omega) ⟨hA, fun _ _ _ => rfl, hal, by dsimp only; omega, by dsimp only; omega, fun _ x hx => by omega⟩
theorem x_isAlive [Decidable (AL v k s)] (hN : Nv v u) (hT : iT v) (hW : iW v) (hk : k < 20) (h42 : ∀ x, x < 300 → v 42 (300 * k + x) ≤ 1 ∧ v 43 (300 * k + x) ≤ 1 ∧ v 44 (300 * k + x) ≤ 40000 ∧ (v 42 (300 * k + x) = 1 → x < v 9 0)) (ha : aN v w k) (hs : s < v 9 0) : ∃ u', fX11_isAlive q (nI k) (nI s) (mB q z u w) = some (if AL v k s then 1 else 0, mB q z u' w) ∧ S47 u u' := by
  have hb := hT.1
  have fin : ∀ (A : Nat → Bool) (u1 : Mu), T47 A u1 → (∀ x, A x = true → AL v k x) → (∀ x, x < v 9 0 → A x ≠ true → pas v k x = true → ¬ BA v w k A x) → u1 47 s = if AL v k s then 1 else 0 := by
    intro A u1 h1 h2 h3
    rw [h1 s (by omega)]
    have : A s = true ↔ AL v k s := ⟨h2 s, fun h => h (fun y => A y = true) (fun x hx hp hc => by
      by_cases e : A x = true
      · exact e
      · exact absurd (AC.ba hT hW (fun x hx => (h42 x hx).1) ha (by omega) hp e hc) (h3 x hx e hp))⟩
    by_cases e : AL v k s
    · rw [if_pos (this.mpr e), if_pos e]
    · rw [if_neg (fun h => e (this.mp h)), if_neg e]
  have pass : ∀ (m n : Nat) (A : Nat → Bool) (u1 : Mu), T47 A u1 → S47 u u1 → (∀ x, A x = true → AL v k x) → 300 ≤ fb_ct A 300 + m → m + 1 < n → ∃ u', fX11_isAlive_24 n q (nI k) (nI s) 1 (mB q z u1 w) = some (if AL v k s then 1 else 0, mB q z u' w) ∧ S47 u u' := by
    intro m
    induction m with
    | zero =>
      intro n A u1 h1 h2 h3 h4 h5
      obtain ⟨n, rfl⟩ : ∃ n', n = n' + 1 := ⟨n - 1, by omega⟩
      obtain ⟨u2, A2, fl, e1, e2, e3, e4, e5, e6, e7⟩ := x_pass (K := fX11_isAlive_24 n) (q := q) (z := z) (s := s) (hN.sc h2.sc) hT hk h42 ha h1 h3
      have := fb_ct_le A2 300
      have hfl : fl = 0 := by omega
      obtain ⟨n, rfl⟩ : ∃ n', n = n' + 1 := ⟨n - 1, by omega⟩
      refine ⟨u2, ?_, fun f i hf => (e3 f i hf).trans (h2 f i hf)⟩
      rw [fX11_isAlive_24, if_neg (show ¬ (1 : Int32) = 0 by decide), e1, hfl, fX11_isAlive_24, if_pos (show nI 0 = 0 from rfl), mA47, b1_s, mX47, mI_n (by omega) (by decide), b1_s, fin A2 u2 e2 e4 (e7 hfl)]
      split <;> rfl
    | succ m ih =>
      intro n A u1 h1 h2 h3 h4 h5
      obtain ⟨n, rfl⟩ : ∃ n', n = n' + 1 := ⟨n - 1, by omega⟩
      obtain ⟨u2, A2, fl, e1, e2, e3, e4, e5, e6, e7⟩ := x_pass (K := fX11_isAlive_24 n) (q := q) (z := z) (s := s) (hN.sc h2.sc) hT hk h42 ha h1 h3
      by_cases hfl : fl = 0
      · obtain ⟨n, rfl⟩ : ∃ n', n = n' + 1 := ⟨n - 1, by omega⟩
        refine ⟨u2, ?_, fun f i hf => (e3 f i hf).trans (h2 f i hf)⟩
        rw [fX11_isAlive_24, if_neg (show ¬ (1 : Int32) = 0 by decide), e1, hfl, fX11_isAlive_24, if_pos (show nI 0 = 0 from rfl), mA47, b1_s, mX47, mI_n (by omega) (by decide), b1_s, fin A2 u2 e2 e4 (e7 hfl)]
        split <;> rfl
      · have : fl = 1 := by omega
        rw [fX11_isAlive_24, if_neg (show ¬ (1 : Int32) = 0 by decide), e1, this]
        exact ih n A2 u2 e2 (fun f i hf => (e3 f i hf).trans (h2 f i hf)) e4 (by omega) (by omega)
  have clr := zlp (F := fun n j (u1 : Mu) => fX11_isAlive_2 n q (nI k) (nI s) j (mB q z u1 w)) (N := 300)
    (fun j u1 => S47 u u1 ∧ ∀ x, x < j → u1 47 x = 0)
    (fun y => ∃ u', y = some (if AL v k s then 1 else 0, mB q z u' w) ∧ S47 u u')
    (by
      rintro n j u1 hj ⟨p1, p2⟩
      left
      refine ⟨zu u1 47 j 0, ?_, fun f i hf => ?_, fun x hx => ?_⟩
      · show fX11_isAlive_2 (n + 1) q (nI k) (nI s) (nI j) (mB q z u1 w) = _
        rw [fX11_isAlive_2, show (300 : Int32) = nI 300 from rfl, nI_ifle (by omega) (by omega), if_neg (by omega), mA47, b1_s, mY47 (mC_n (by omega) (by decide)), b1_s, nI_c (by omega), nI_1]
        rfl
      · rw [zu_n (by omega)]
        exact p1 f i hf
      · by_cases e : x = j
        · rw [e, zu_s]
        · rw [zu_n (by omega)]
          exact p2 x (by omega))
    (by
      rintro n u1 ⟨p1, p2⟩
      show ∃ u', fX11_isAlive_2 (n + 1) q (nI k) (nI s) (nI 300) (mB q z u1 w) = _ ∧ _
      rw [fX11_isAlive_2, show (300 : Int32) = nI 300 from rfl, if_pos (Int32.le_refl _)]
      exact pass 300 100000 (fun _ => false) u1 (fun x hx => by rw [p2 x hx]; rfl) p1 (fun x hx => by cases hx) (by omega) (by omega))
  exact clr 300 100000 0 u (by omega) (by omega) ⟨fun _ _ _ => rfl, fun x hx => by omega⟩
end AY
