def uc (u : Mu) : Nat := fb_ct (fun y => u 34 y == 0) 300
/-- the search's state: marks, the stack of what is not looked at yet -/
def LI (u : Mu) (nT : Nat) (E : Nat → Nat → Prop) (S O P : Nat → Prop) (top : Nat) : Prop :=
  (∀ y, y < 300 → u 34 y = 0 ∨ u 34 y = 1) ∧ (∀ i, i < top → ∃ x, x < nT ∧ u 36 i = nI x ∧ u 34 x = 1) ∧ (∀ y, y < 300 → u 34 y = 1 → y < nT ∧ S y) ∧ (∀ y, O y → u 34 y = 1) ∧ top + uc u ≤ 300 ∧ ∀ x, x < nT → u 34 x = 1 → P x ∨ (∃ i, i < top ∧ u 36 i = nI x) ∨ ∀ y, E x y → u 34 y = 1
theorem uc_set {u : Mu} {y : Nat} (hy : y < 300) (h0 : u 34 y = 0) : uc (zu u 34 y 1) + 1 = uc u := by
  have e : (fun y' => zu u 34 y 1 34 y' == 0) = fun k => if k = y then false else (u 34 k == 0) := by
    funext k
    by_cases hk : k = y
    · subst hk; simp [zu]
    · simp [zu, hk]
  have h := fb_ct_upd (fun k => u 34 k == 0) false hy
  simp only [h0, beq_self_eq_true, if_true] at h
  simp only [uc, e]
  have h2 : (if false = true then 1 else 0) = 0 := rfl
  omega
theorem uc_36 {u : Mu} {i : Nat} {x : Int32} : uc (zu u 36 i x) = uc u := by
  simp only [uc, zu]
  rfl
theorem zu_s {α : Type} {f : Nat → Nat → α} {a k : Nat} {v : α} : zu f a k v a k = v := by simp [zu]
theorem zu_n {α : Type} {f : Nat → Nat → α} {a k b j : Nat} {v : α} (h : ¬ (b = a ∧ j = k)) : zu f a k v b j = f b j := by simp only [zu, if_neg h]
section LD2
variable {o z nT : Nat} {w : Me} {pl : Nat → Nat} {hd : Nat → Nat → Option Nat} {S O : Nat → Prop}
theorem s_lead_46 {K : Nat → Int32 → Hz → Option (Unit × Hz)} {x : Nat} (hS : ∀ x y, S x → gE pl hd x y → S y) : ∀ (m p top : Nat) (u : Mu), pl x < p + m → gOK u nT pl hd → x < nT → u 34 x = 1 → (∀ p', p' < p → ∀ y, hd x p' = some y → u 34 y = 1) → p ≤ pl x → LI u nT (gE pl hd) S O (fun y => y = x) top →
    ∃ (top' : Nat) (v : Mu), fX11_lead_46 K m o (nI top) (nI x) (nI p) (mB o z u w) = K o (nI top') (mB o z v w) ∧ Sc u v ∧ LI v nT (gE pl hd) S O (fun _ => False) top' ∧ top' + 2 * uc v ≤ top + 2 * uc u := by
  intro m
  induction m with
  | zero => intro p top u h1 _ _ _ _ h2 _; omega
  | succ m ih =>
    intro p top u h1 hG hx hmx hdone hp hL
    obtain ⟨hn, hG2⟩ := id hG
    obtain ⟨g1, g2, g3⟩ := hG2 x hx
    rw [fX11_lead_46]
    simp (disch := omega) only [mA3, b1_s, mX3, mI_n, g1]
    by_cases hpp : pl x ≤ p
    · rw [if_pos (show nI (pl x) ≤ nI p from nI_le hpp (by omega))]
      obtain ⟨l1, l2, l3, l4, l5, l6⟩ := hL
      refine ⟨top, u, rfl, Sc.rfl, ⟨l1, l2, l3, l4, l5, fun x' hx' hm' => ?_⟩, Nat.le_refl _⟩
      rcases l6 x' hx' hm' with e | e | e
      · subst e
        exact Or.inr (Or.inr (fun y hy => by
          obtain ⟨p', hp', hy'⟩ := hy
          exact hdone p' (by omega) y hy'))
      · exact Or.inr (Or.inl e)
      · exact Or.inr (Or.inr e)
    · rw [if_neg (show ¬ nI (pl x) ≤ nI p from by rw [nI_leI (by omega) (by omega)]; exact hpp)]
      have hp2 : p < pl x := by omega
      obtain ⟨q1, q2⟩ := g3 p hp2
      have e8 : (8 : Int32) * nI x + nI p = nI (8 * x + p) := by
        show nI 8 * nI x + nI p = _
        rw [pk_mul, nI_add]
      simp (disch := omega) only [mA10, mA11, b1_s, e8, mX10, mX11, mI_n]
      obtain ⟨l1, l2, l3, l4, l5, l6⟩ := id hL
      -- the marks' step, for what is looked at
      have go : ∀ y, y < nT → S y → (∀ y', hd x p = some y' → y' = y ∨ u 34 y' = 1) → ∃ (top' : Nat) (v : Mu), fX11_lead_89 K (fX11_lead_46 K m) o (nI top) (nI x) (nI p) (nI y) (mB o z u w) = K o (nI top') (mB o z v w) ∧ Sc u v ∧ LI v nT (gE pl hd) S O (fun _ => False) top' ∧ top' + 2 * uc v ≤ top + 2 * uc u := by
        intro y hy hSy hhd
        unfold fX11_lead_89
        simp (disch := omega) only [mA34, mA36, b1_s, mX34, mI_n]
        rcases l1 y (by omega) with h0 | h1'
        · have huc := uc_set (u := u) (y := y) (by omega) h0
          have htop : top < 300 := by omega
          have hxy : x ≠ y := fun e => by subst e; rw [h0] at hmx; cases hmx
          rw [if_pos h0]
          simp (disch := omega) only [mY34 (mC_n (show y < 300 by omega) (by decide)), mY36 (mC_n htop (by decide)), mA36, b1_s, nI_c, nar1, nI_1]
          have hsc : Sc u (zu (zu u 34 y 1) 36 top (nI y)) := (Sc.rfl.wr (Or.inl rfl)).wr (Or.inr (Or.inr (Or.inl rfl)))
          have r34 : ∀ t, zu (zu u 34 y 1) 36 top (nI y) 34 t = if t = y then 1 else u 34 t := by
            intro t
            by_cases ht : t = y
            · subst ht; simp [zu]
            · simp [zu, ht]
          have r36 : ∀ t, zu (zu u 34 y 1) 36 top (nI y) 36 t = if t = top then nI y else u 36 t := by
            intro t
            by_cases ht : t = top
            · subst ht; simp [zu]
            · simp [zu, ht]
          obtain ⟨top', v, k1, k2, k3, k4⟩ := ih (p + 1) (top + 1) (zu (zu u 34 y 1) 36 top (nI y)) (by omega) (hG.sc hsc) hx (by rw [r34]; simp [hmx]) (by
            intro p' hp' y' hy'
            rw [r34]
            by_cases e : y' = y
            · simp [e]
            · rw [if_neg e]
              rcases Nat.lt_or_ge p' p with h | h
              · exact hdone p' h y' hy'
              · have : p' = p := by omega
                subst this
                exact (hhd y' hy').resolve_left e) (by omega) (by
            refine ⟨?_, ?_, ?_, ?_, ?_, ?_⟩
            · intro t ht
              rw [r34]
              by_cases e : t = y
              · simp [e]
              · rw [if_neg e]; exact l1 t ht
            · intro i hi
              by_cases e : i = top
              · subst e
                exact ⟨y, hy, by rw [r36]; simp, by rw [r34]; simp⟩
              · obtain ⟨x', a1, a2, a3⟩ := l2 i (by omega)
                exact ⟨x', a1, by rw [r36, if_neg e]; exact a2, by rw [r34]; by_cases e2 : x' = y <;> simp [e2, a3]⟩
            · intro t ht
              rw [r34]
              by_cases e : t = y
              · subst e; intro _; exact ⟨hy, hSy⟩
              · rw [if_neg e]; exact l3 t ht
            · intro t ht
              rw [r34]
              by_cases e : t = y
              · simp [e]
              · rw [if_neg e]; exact l4 t ht
            · rw [uc_36]; omega
            · intro x' hx' hm'
              rw [r34] at hm'
              by_cases e : x' = y
              · subst e
                exact Or.inr (Or.inl ⟨top, by omega, by rw [r36]; simp⟩)
              · rw [if_neg e] at hm'
                rcases l6 x' hx' hm' with a | ⟨i, a1, a2⟩ | a
                · exact Or.inl a
                · exact Or.inr (Or.inl ⟨i, by omega, by rw [r36, if_neg (by omega)]; exact a2⟩)
                · exact Or.inr (Or.inr (fun t ht => by rw [r34]; by_cases e2 : t = y <;> simp [e2, a t ht])))
          rw [uc_36] at k4
          exact ⟨top', v, k1, hsc.trans k2, k3, by omega⟩
        · rw [if_neg (show ¬ u 34 y = 0 by rw [h1']; decide)]
          simp only [nI_1]
          exact ih (p + 1) top u (by omega) hG hx hmx (by
            intro p' hp' y' hy'
            rcases Nat.lt_or_ge p' p with h | h
            · exact hdone p' h y' hy'
            · have : p' = p := by omega
              subst this
              rcases hhd y' hy' with e | e
              · rw [e]; exact h1'
              · exact e) (by omega) hL
      have hSx : S x := (l3 x (by omega) hmx).2
      cases hh : hd x p with
      | none =>
        rw [if_neg (q2 hh)]
        exact go x hx hSx (fun y' e => by rw [hh] at e; cases e)
      | some y =>
        obtain ⟨a1, a2, a3⟩ := q1 y hh
        rw [if_pos a1, a2]
        exact go y a3 (hS x y hSx ⟨p, hp2, hh⟩) (fun y' e => by rw [hh] at e; exact Or.inl (Option.some.inj e).symm)
theorem s_lead_29 (hS : ∀ x y, S x → gE pl hd x y → S y) : ∀ (n top : Nat) (u : Mu), top + 2 * uc u < n → gOK u nT pl hd → LI u nT (gE pl hd) S O (fun _ => False) top →
    ∃ v : Mu, fX11_lead_29 n o (nI top) (mB o z u w) = some ((), mB o z v w) ∧ Sc u v ∧ LI v nT (gE pl hd) S O (fun _ => False) 0 := by
  intro n
  induction n with
  | zero => intro top u h; omega
  | succ n ih =>
    intro top u h hG hL
    rw [fX11_lead_29]
    have htop : top ≤ 300 := by have := hL.2.2.2.2.1; omega
    by_cases h0 : top = 0
    · subst h0
      rw [if_pos (show nI 0 ≤ 0 from Int32.le_refl _)]
      exact ⟨u, rfl, Sc.rfl, hL⟩
    · obtain ⟨t, rfl⟩ : ∃ t, top = t + 1 := ⟨top - 1, by omega⟩
      rw [if_neg (show ¬ nI (t + 1) ≤ 0 from nI_nle (by omega) (by omega))]
      obtain ⟨l1, l2, l3, l4, l5, l6⟩ := id hL
      obtain ⟨x, a1, a2, a3⟩ := l2 t (by omega)
      simp (disch := omega) only [mA36, b1_s, pk_m1, mX36, mI_n, a2]
      obtain ⟨top', v, k1, k2, k3, k4⟩ := s_lead_46 (o := o) (z := z) (w := w) (K := fX11_lead_29 n) (x := x) (O := O) hS 100000 0 t u (by have := (hG.2 x a1).2.1; omega) hG a1 a3 (fun p' hp' => by omega) (by omega) (by
        refine ⟨l1, fun i hi => l2 i (by omega), l3, l4, by omega, fun x' hx' hm' => ?_⟩
        rcases l6 x' hx' hm' with a | ⟨i, b1, b2⟩ | a
        · exact absurd a id
        · by_cases e : i = t
          · subst e
            rw [a2] at b2
            exact Or.inl ((nI_eq (by have := hG.1; omega) (by have := hG.1; omega)).mp b2).symm
          · exact Or.inr (Or.inl ⟨i, by omega, b2⟩)
        · exact Or.inr (Or.inr a))
      obtain ⟨v2, m1, m2, m3⟩ := ih top' v (by omega) (hG.sc k2) k3
      refine ⟨v2, ?_, k2.trans m2, m3⟩
      have e0 : (0 : Int32) = nI 0 := rfl
      rw [e0, k1]
      exact m1
/-- lead(t): marked is what was, and all to which t leads -/
theorem s_lead {t : Nat} {u : Mu} (hG : gOK u nT pl hd) (ht : t < nT) (h01 : ∀ y, y < 300 → u 34 y = 0 ∨ u 34 y = 1) (hlt : ∀ y, y < 300 → u 34 y = 1 → y < nT ∧ S y) (hcl : ∀ x y, x < nT → u 34 x = 1 → gE pl hd x y → u 34 y = 1) (hS : ∀ x y, S x → gE pl hd x y → S y) (hSt : S t) :
    ∃ v : Mu, fX11_lead o (nI t) (mB o z u w) = some ((), mB o z v w) ∧ Sc u v ∧ (∀ y, y < 300 → v 34 y = 0 ∨ v 34 y = 1) ∧ (∀ y, y < 300 → v 34 y = 1 → y < nT ∧ S y) ∧ (∀ y, u 34 y = 1 → v 34 y = 1) ∧ v 34 t = 1 ∧ (∀ x y, x < nT → v 34 x = 1 → gE pl hd x y → v 34 y = 1) := by
  have hn := hG.1
  unfold fX11_lead
  simp (disch := omega) only [mA34, mA36, b1_s, mX34, mI_n]
  rcases h01 t (by omega) with h0 | h1
  · rw [if_pos h0]
    have e0 : (0 : Int32) = nI 0 := rfl
    have e1 : (0 : Int32) + 1 = nI 1 := rfl
    have y36 : yI (o + 32) 0 (nI t) (mB o z u w) = some (mB o z (zu u 36 0 (nI t)) w) := by
      have := mY36 (o := o) (z := z) (u := u) (w := w) (v := nI t) (mC_n (show 0 < 300 by omega) (by decide))
      rw [nI_c (by omega)] at this
      exact this
    simp (disch := omega) only [y36, mA34, b1_s, mY34 (mC_n (show t < 300 by omega) (by decide)), nI_c, nar1, e1]
    have r34 : ∀ y, zu (zu u 36 0 (nI t)) 34 t 1 34 y = if y = t then 1 else u 34 y := by
      intro y
      by_cases hy : y = t
      · subst hy; simp [zu]
      · simp [zu, hy]
    have r36 : zu (zu u 36 0 (nI t)) 34 t 1 36 0 = nI t := by simp [zu]
    have hsc : Sc u (zu (zu u 36 0 (nI t)) 34 t 1) := (Sc.rfl.wr (Or.inr (Or.inr (Or.inl rfl)))).wr (Or.inl rfl)
    have huc : uc (zu (zu u 36 0 (nI t)) 34 t 1) + 1 = uc u := by
      have := uc_set (u := zu u 36 0 (nI t)) (y := t) (by omega) (by simp [zu, h0])
      rw [uc_36] at this
      exact this
    have hle : uc u ≤ 300 := fb_ct_le _ _
    obtain ⟨v, k1, k2, k3⟩ := s_lead_29 (o := o) (z := z) (w := w) (O := fun y => u 34 y = 1 ∨ y = t) hS 100000 1 (zu (zu u 36 0 (nI t)) 34 t 1) (by omega) (hG.sc hsc) (by
      refine ⟨?_, ?_, ?_, ?_, ?_, ?_⟩
      · intro y hy
        rw [r34]
        by_cases e : y = t
        · simp [e]
        · rw [if_neg e]; exact h01 y hy
      · intro i hi
        have : i = 0 := by omega
        subst this
        exact ⟨t, ht, r36, by rw [r34]; simp⟩
      · intro y hy
        rw [r34]
        by_cases e : y = t
        · subst e; intro _; exact ⟨ht, hSt⟩
        · rw [if_neg e]; exact hlt y hy
      · intro y hy
        rw [r34]
        by_cases e : y = t
        · simp [e]
        · rw [if_neg e]; exact hy.resolve_right e
      · omega
      · intro x hx hm
        rw [r34] at hm
        by_cases e : x = t
        · subst e
          exact Or.inr (Or.inl ⟨0, by omega, r36⟩)
        · rw [if_neg e] at hm
          exact Or.inr (Or.inr (fun y hy => by rw [r34]; by_cases e2 : y = t <;> simp [e2, hcl x y hx hm hy])))
    obtain ⟨l1, l2, l3, l4, l5, l6⟩ := k3
    refine ⟨v, k1, hsc.trans k2, l1, l3, fun y hy => l4 y (Or.inl hy), l4 t (Or.inr rfl), fun x y hx hm hy => ?_⟩
    rcases l6 x hx hm with a | ⟨i, a, -⟩ | a
    · exact absurd a id
    · omega
    · exact a y hy
  · rw [if_neg (show ¬ u 34 t = 0 by rw [h1]; decide)]
    exact ⟨u, rfl, Sc.rfl, h01, hlt, fun y hy => hy, h1, hcl⟩
end LD2
