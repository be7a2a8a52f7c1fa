/-! The search once more: nothing but the marks and the stack is touched. -/
def Sx (u u' : Mu) : Prop := ∀ k i, (k ≠ 34 ∧ k ≠ 36) → u' k i = u k i
theorem Sx.rfl {u : Mu} : Sx u u := fun _ _ _ => Eq.refl _
theorem Sx.trans {u v x : Mu} (h1 : Sx u v) (h2 : Sx v x) : Sx u x := fun k i hk => (h2 k i hk).trans (h1 k i hk)
theorem Sx.sc {u v : Mu} (h : Sx u v) : Sc u v := fun k i hk => h k i ⟨hk.1, hk.2.2.1⟩
theorem Sx.wr {u v : Mu} {k i : Nat} {x : Int32} (h : Sx u v) (hk : k = 34 ∨ k = 35 ∨ k = 36 ∨ k = 47) (h2 : k = 34 ∨ k = 36 := by omega) : Sx u (zu v k i x) := by
  intro k' i' h'
  have hne : ¬ (k' = k ∧ i' = i) := by omega
  simp only [zu, if_neg hne]
  exact h k' i' h'
theorem gOK.sx {u v : Mu} {nT : Nat} {pl : Nat → Nat} {hd : Nat → Nat → Option Nat} (h : gOK u nT pl hd) (hs : Sx u v) : gOK v nT pl hd := h.sc hs.sc
section LD5
variable {o z : Nat} {u : Mu} {w : Me}
theorem x_noLeads : ∃ v, fX11_noLeads o (mB o z u w) = some ((), mB o z v w) ∧ Sx u v ∧ (∀ y, y < 300 → v 34 y = 0) ∧ (∀ k i, k ≠ 34 → v k i = u k i) := by
  refine ⟨_, (by
    have h := s_noLeads_2 (o := o) (z := z) (u := u) (w := w) 300 100000 0 (by omega) (by omega)
    have e : (fun k' i => if k' = 34 ∧ i < 0 then (0 : Int32) else u k' i) = u := by funext k' i; simp
    rw [e] at h
    exact h), ?_, ?_, ?_⟩
  · intro k i hk
    simp [hk.1]
  · intro y hy
    simp [hy]
  · intro k i hk
    simp [hk]
end LD5
section LD6
variable {o z nT : Nat} {w : Me} {pl : Nat → Nat} {hd : Nat → Nat → Option Nat} {S O : Nat → Prop}
theorem x_lead_46 {K : Nat → Int32 → Hz → Option (Unit × Hz)} {x : Nat} (hS : ∀ x y, S x → gE pl hd x y → S y) : ∀ (m p top : Nat) (u : Mu), pl x < p + m → gOK u nT pl hd → x < nT → u 34 x = 1 → (∀ p', p' < p → ∀ y, hd x p' = some y → u 34 y = 1) → p ≤ pl x → LI u nT (gE pl hd) S O (fun y => y = x) top →
    ∃ (top' : Nat) (v : Mu), fX11_lead_46 K m o (nI top) (nI x) (nI p) (mB o z u w) = K o (nI top') (mB o z v w) ∧ Sx u v ∧ LI v nT (gE pl hd) S O (fun _ => False) top' ∧ top' + 2 * uc v ≤ top + 2 * uc u := by
  intro m
  induction m with
  | zero => intro p top u h1 _ _ _ _ h2 _; omega
  | succ m ih =>
    intro p top u h1 hG hx hmx hdone hp hL
    obtain ⟨hn, hG2⟩ := id hG
    obtain ⟨g1, g2, g3⟩ := hG2 x hx
    rw [fX11_lead_46]
    simp (disch := omega) only [mA3, b1_s, mX3, mI_n, g1]
    by_cases hpp : pl x ≤ p
    · rw [if_pos (show nI (pl x) ≤ nI p from nI_le hpp (by omega))]
      obtain ⟨l1, l2, l3, l4, l5, l6⟩ := hL
      refine ⟨top, u, rfl, Sx.rfl, ⟨l1, l2, l3, l4, l5, fun x' hx' hm' => ?_⟩, Nat.le_refl _⟩
      rcases l6 x' hx' hm' with e | e | e
      · subst e
        exact Or.inr (Or.inr (fun y hy => by
          obtain ⟨p', hp', hy'⟩ := hy
          exact hdone p' (by omega) y hy'))
      · exact Or.inr (Or.inl e)
      · exact Or.inr (Or.inr e)
    · rw [if_neg (show ¬ nI (pl x) ≤ nI p from by rw [nI_leI (by omega) (by omega)]; exact hpp)]
      have hp2 : p < pl x := by omega
      obtain ⟨q1, q2⟩ := g3 p hp2
      have e8 : (8 : Int32) * nI x + nI p = nI (8 * x + p) := by
        show nI 8 * nI x + nI p = _
        rw [pk_mul, nI_add]
      simp (disch := omega) only [mA10, mA11, b1_s, e8, mX10, mX11, mI_n]
      obtain ⟨l1, l2, l3, l4, l5, l6⟩ := id hL
      -- the marks' step, for what is looked at
      have go : ∀ y, y < nT → S y → (∀ y', hd x p = some y' → y' = y ∨ u 34 y' = 1) → ∃ (top' : Nat) (v : Mu), fX11_lead_89 K (fX11_lead_46 K m) o (nI top) (nI x) (nI p) (nI y) (mB o z u w) = K o (nI top') (mB o z v w) ∧ Sx u v ∧ LI v nT (gE pl hd) S O (fun _ => False) top' ∧ top' + 2 * uc v ≤ top + 2 * uc u := by
        intro y hy hSy hhd
        unfold fX11_lead_89
        simp (disch := omega) only [mA34, mA36, b1_s, mX34, mI_n]
        rcases l1 y (by omega) with h0 | h1'
        · have huc := uc_set (u := u) (y := y) (by omega) h0
          have htop : top < 300 := by omega
          have hxy : x ≠ y := fun e => by subst e; rw [h0] at hmx; cases hmx
          rw [if_pos h0]
          simp (disch := omega) only [mY34 (mC_n (show y < 300 by omega) (by decide)), mY36 (mC_n htop (by decide)), mA36, b1_s, nI_c, nar1, nI_1]
          have hsc : Sx u (zu (zu u 34 y 1) 36 top (nI y)) := (Sx.rfl.wr (Or.inl rfl)).wr (Or.inr (Or.inr (Or.inl rfl)))
          have r34 : ∀ t, zu (zu u 34 y 1) 36 top (nI y) 34 t = if t = y then 1 else u 34 t := by
            intro t
            by_cases ht : t = y
            · subst ht; simp [zu]
            · simp [zu, ht]
          have r36 : ∀ t, zu (zu u 34 y 1) 36 top (nI y) 36 t = if t = top then nI y else u 36 t := by
            intro t
            by_cases ht : t = top
            · subst ht; simp [zu]
            · simp [zu, ht]
          obtain ⟨top', v, k1, k2, k3, k4⟩ := ih (p + 1) (top + 1) (zu (zu u 34 y 1) 36 top (nI y)) (by omega) (hG.sx hsc) hx (by rw [r34]; simp [hmx]) (by
            intro p' hp' y' hy'
            rw [r34]
            by_cases e : y' = y
            · simp [e]
            · rw [if_neg e]
              rcases Nat.lt_or_ge p' p with h | h
              · exact hdone p' h y' hy'
              · have : p' = p := by omega
                subst this
                exact (hhd y' hy').resolve_left e) (by omega) (by
            refine ⟨?_, ?_, ?_, ?_, ?_, ?_⟩
            · intro t ht
              rw [r34]
              by_cases e : t = y
              · simp [e]
              · rw [if_neg e]; exact l1 t ht
            · intro i hi
              by_cases e : i = top
              · subst e
                exact ⟨y, hy, by rw [r36]; simp, by rw [r34]; simp⟩
              · obtain ⟨x', a1, a2, a3⟩ := l2 i (by omega)
                exact ⟨x', a1, by rw [r36, if_neg e]; exact a2, by rw [r34]; by_cases e2 : x' = y <;> simp [e2, a3]⟩
            · intro t ht
              rw [r34]
              by_cases e : t = y
              · subst e; intro _; exact ⟨hy, hSy⟩
              · rw [if_neg e]; exact l3 t ht
            · intro t ht
              rw [r34]
              by_cases e : t = y
              · simp [e]
              · rw [if_neg e]; exact l4 t ht
            · rw [uc_36]; omega
            · intro x' hx' hm'
              rw [r34] at hm'
              by_cases e : x' = y
              · subst e
                exact Or.inr (Or.inl ⟨top, by omega, by rw [r36]; simp⟩)
              · rw [if_neg e] at hm'
                rcases l6 x' hx' hm' with a | ⟨i, a1, a2⟩ | a
                · exact Or.inl a
                · exact Or.inr (Or.inl ⟨i, by omega, by rw [r36, if_neg (by omega)]; exact a2⟩)
                · exact Or.inr (Or.inr (fun t ht => by rw [r34]; by_cases e2 : t = y <;> simp [e2, a t ht])))
          rw [uc_36] at k4
          exact ⟨top', v, k1, hsc.trans k2, k3, by omega⟩
        · rw [if_neg (show ¬ u 34 y = 0 by rw [h1']; decide)]
          simp only [nI_1]
          exact ih (p + 1) top u (by omega) hG hx hmx (by
            intro p' hp' y' hy'
            rcases Nat.lt_or_ge p' p with h | h
            · exact hdone p' h y' hy'
            · have : p' = p := by omega
              subst this
              rcases hhd y' hy' with e | e
              · rw [e]; exact h1'
              · exact e) (by omega) hL
      have hSx : S x := (l3 x (by omega) hmx).2
      cases hh : hd x p with
      | none =>
        rw [if_neg (q2 hh)]
        exact go x hx hSx (fun y' e => by rw [hh] at e; cases e)
      | some y =>
        obtain ⟨a1, a2, a3⟩ := q1 y hh
        rw [if_pos a1, a2]
        exact go y a3 (hS x y hSx ⟨p, hp2, hh⟩) (fun y' e => by rw [hh] at e; exact Or.inl (Option.some.inj e).symm)
theorem x_lead_29 (hS : ∀ x y, S x → gE pl hd x y → S y) : ∀ (n top : Nat) (u : Mu), top + 2 * uc u < n → gOK u nT pl hd → LI u nT (gE pl hd) S O (fun _ => False) top →
    ∃ v : Mu, fX11_lead_29 n o (nI top) (mB o z u w) = some ((), mB o z v w) ∧ Sx u v ∧ LI v nT (gE pl hd) S O (fun _ => False) 0 := by
  intro n
  induction n with
  | zero => intro top u h; omega
  | succ n ih =>
    intro top u h hG hL
    rw [fX11_lead_29]
    have htop : top ≤ 300 := by have := hL.2.2.2.2.1; omega
    by_cases h0 : top = 0
    · subst h0
      rw [if_pos (show nI 0 ≤ 0 from Int32.le_refl _)]
      exact ⟨u, rfl, Sx.rfl, hL⟩
    · obtain ⟨t, rfl⟩ : ∃ t, top = t + 1 := ⟨top - 1, by omega⟩
      rw [if_neg (show ¬ nI (t + 1) ≤ 0 from nI_nle (by omega) (by omega))]
      obtain ⟨l1, l2, l3, l4, l5, l6⟩ := id hL
      obtain ⟨x, a1, a2, a3⟩ := l2 t (by omega)
      simp (disch := omega) only [mA36, b1_s, pk_m1, mX36, mI_n, a2]
      obtain ⟨top', v, k1, k2, k3, k4⟩ := x_lead_46 (o := o) (z := z) (w := w) (K := fX11_lead_29 n) (x := x) (O := O) hS 100000 0 t u (by have := (hG.2 x a1).2.1; omega) hG a1 a3 (fun p' hp' => by omega) (by omega) (by
        refine ⟨l1, fun i hi => l2 i (by omega), l3, l4, by omega, fun x' hx' hm' => ?_⟩
        rcases l6 x' hx' hm' with a | ⟨i, b1, b2⟩ | a
        · exact absurd a id
        · by_cases e : i = t
          · subst e
            rw [a2] at b2
            exact Or.inl ((nI_eq (by have := hG.1; omega) (by have := hG.1; omega)).mp b2).symm
          · exact Or.inr (Or.inl ⟨i, by omega, b2⟩)
        · exact Or.inr (Or.inr a))
      obtain ⟨v2, m1, m2, m3⟩ := ih top' v (by omega) (hG.sx k2) k3
      refine ⟨v2, ?_, k2.trans m2, m3⟩
      have e0 : (0 : Int32) = nI 0 := rfl
      rw [e0, k1]
      exact m1
/-- lead(t): marked is what was, and all to which t leads -/
theorem x_lead {t : Nat} {u : Mu} (hG : gOK u nT pl hd) (ht : t < nT) (h01 : ∀ y, y < 300 → u 34 y = 0 ∨ u 34 y = 1) (hlt : ∀ y, y < 300 → u 34 y = 1 → y < nT ∧ S y) (hcl : ∀ x y, x < nT → u 34 x = 1 → gE pl hd x y → u 34 y = 1) (hS : ∀ x y, S x → gE pl hd x y → S y) (hSt : S t) :
    ∃ v : Mu, fX11_lead o (nI t) (mB o z u w) = some ((), mB o z v w) ∧ Sx u v ∧ (∀ y, y < 300 → v 34 y = 0 ∨ v 34 y = 1) ∧ (∀ y, y < 300 → v 34 y = 1 → y < nT ∧ S y) ∧ (∀ y, u 34 y = 1 → v 34 y = 1) ∧ v 34 t = 1 ∧ (∀ x y, x < nT → v 34 x = 1 → gE pl hd x y → v 34 y = 1) := by
  have hn := hG.1
  unfold fX11_lead
  simp (disch := omega) only [mA34, mA36, b1_s, mX34, mI_n]
  rcases h01 t (by omega) with h0 | h1
  · rw [if_pos h0]
    have e0 : (0 : Int32) = nI 0 := rfl
    have e1 : (0 : Int32) + 1 = nI 1 := rfl
    have y36 : yI (o + 32) 0 (nI t) (mB o z u w) = some (mB o z (zu u 36 0 (nI t)) w) := by
      have := mY36 (o := o) (z := z) (u := u) (w := w) (v := nI t) (mC_n (show 0 < 300 by omega) (by decide))
      rw [nI_c (by omega)] at this
      exact this
    simp (disch := omega) only [y36, mA34, b1_s, mY34 (mC_n (show t < 300 by omega) (by decide)), nI_c, nar1, e1]
    have r34 : ∀ y, zu (zu u 36 0 (nI t)) 34 t 1 34 y = if y = t then 1 else u 34 y := by
      intro y
      by_cases hy : y = t
      · subst hy; simp [zu]
      · simp [zu, hy]
    have r36 : zu (zu u 36 0 (nI t)) 34 t 1 36 0 = nI t := by simp [zu]
    have hsc : Sx u (zu (zu u 36 0 (nI t)) 34 t 1) := (Sx.rfl.wr (Or.inr (Or.inr (Or.inl rfl)))).wr (Or.inl rfl)
    have huc : uc (zu (zu u 36 0 (nI t)) 34 t 1) + 1 = uc u := by
      have := uc_set (u := zu u 36 0 (nI t)) (y := t) (by omega) (by simp [zu, h0])
      rw [uc_36] at this
      exact this
    have hle : uc u ≤ 300 := fb_ct_le _ _
    obtain ⟨v, k1, k2, k3⟩ := x_lead_29 (o := o) (z := z) (w := w) (O := fun y => u 34 y = 1 ∨ y = t) hS 100000 1 (zu (zu u 36 0 (nI t)) 34 t 1) (by omega) (hG.sx hsc) (by
      refine ⟨?_, ?_, ?_, ?_, ?_, ?_⟩
      · intro y hy
        rw [r34]
        by_cases e : y = t
        · simp [e]
        · rw [if_neg e]; exact h01 y hy
      · intro i hi
        have : i = 0 := by omega
        subst this
        exact ⟨t, ht, r36, by rw [r34]; simp⟩
      · intro y hy
        rw [r34]
        by_cases e : y = t
        · subst e; intro _; exact ⟨ht, hSt⟩
        · rw [if_neg e]; exact hlt y hy
      · intro y hy
        rw [r34]
        by_cases e : y = t
        · simp [e]
        · rw [if_neg e]; exact hy.resolve_right e
      · omega
      · intro x hx hm
        rw [r34] at hm
        by_cases e : x = t
        · subst e
          exact Or.inr (Or.inl ⟨0, by omega, r36⟩)
        · rw [if_neg e] at hm
          exact Or.inr (Or.inr (fun y hy => by rw [r34]; by_cases e2 : y = t <;> simp [e2, hcl x y hx hm hy])))
    obtain ⟨l1, l2, l3, l4, l5, l6⟩ := k3
    refine ⟨v, k1, hsc.trans k2, l1, l3, fun y hy => l4 y (Or.inl hy), l4 t (Or.inr rfl), fun x y hx hm hy => ?_⟩
    rcases l6 x hx hm with a | ⟨i, a, -⟩ | a
    · exact absurd a id
    · omega
    · exact a y hy
  · rw [if_neg (show ¬ u 34 t = 0 by rw [h1]; decide)]
    exact ⟨u, rfl, Sx.rfl, h01, hlt, fun y hy => hy, h1, hcl⟩
end LD6
section NR5
variable {o z : Nat} {v : Nu} {u : Mu} {w : Me} {t : Nat}
theorem x_lead2 {B : Nat → Prop} (hN : Nv v u) (hI : iT v) (ht : t < v 9 0) (hM : MK v B u) (hB : B t) : ∃ u', fX11_lead o (nI t) (mB o z u w) = some ((), mB o z u' w) ∧ Sx u u' ∧ MK v B u' ∧ (∀ y, u 34 y = 1 → u' 34 y = 1) ∧ u' 34 t = 1 := by
  obtain ⟨u', a1, a2, a3, a4, a5, a6, a7⟩ := x_lead (o := o) (z := z) (w := w) (S := Cl (LEv v) B) (hN.gok hI) ht hM.1 hM.2.1 hM.2.2 (fun x y hx hxy => hx.step hxy) (Cl.base hB)
  exact ⟨u', a1, a2, ⟨a3, a4, a7⟩, a5, a6⟩
theorem x_noLeads2 {B : Nat → Prop} (hb : v 9 0 ≤ 300) : ∃ u', fX11_noLeads o (mB o z u w) = some ((), mB o z u' w) ∧ Sx u u' ∧ MK v B u' := by
  obtain ⟨u', a1, a2, a3, a4⟩ := x_noLeads (o := o) (z := z) (u := u) (w := w)
  have h5 : ∀ y, y < 300 → ¬ u' 34 y = 1 := fun y hy h => by rw [a3 y hy] at h; exact absurd h (by decide)
  exact ⟨u', a1, a2, fun y hy => Or.inl (a3 y hy), fun y hy h => absurd h (h5 y hy), fun x y hx h => absurd h (h5 x (by omega))⟩
theorem x_isNear [Decidable (Near v t)] (hN : Nv v u) (hI : iT v) (ht : t < v 9 0) : ∃ u', fX11_isNear o (nI t) (mB o z u w) = some (if Near v t then 1 else 0, mB o z u' w) ∧ Sx u u' := by
  have hb := hI.1
  have dec := fun k => Classical.propDecidable (Rt v (v 1 t) k)
  obtain ⟨u0, a1, a2, a3⟩ := x_noLeads2 (o := o) (z := z) (u := u) (w := w) (v := v) (B := Rt v (v 1 t)) hb
  have key := zlp (F := fun n k (u' : Mu) => fX11_isNear_6 n o (nI t) k (mB o z u' w)) (N := v 9 0)
    (fun k u' => Sx u u' ∧ MK v (Rt v (v 1 t)) u' ∧ ∀ x, x < k → Rt v (v 1 t) x → u' 34 x = 1)
    (fun y => ∃ u', y = some (if Near v t then 1 else 0, mB o z u' w) ∧ Sx u u')
    (by
      rintro n k u' hk ⟨p1, p2, p3⟩
      left
      have hN' := hN.sc p1.sc
      obtain ⟨b0, b1', b3, b7, -⟩ := hI.2 k hk
      have bt := (hI.2 t ht).2.1
      have e1 : fX11_isNear_6 (n + 1) o (nI t) (nI k) (mB o z u' w) = if Rt v (v 1 t) k then (b2 (fX11_lead o (nI k) (mB o z u' w)) fun _ s18 => fX11_isNear_6 n o (nI t) (nI (k + 1)) s18) else fX11_isNear_6 n o (nI t) (nI (k + 1)) (mB o z u' w) := by
        rw [fX11_isNear_6]
        simp (disch := omega) only [mG9, mA7, mX7, mA0, mX0, mA1, mX1, mtg, b1_s, mI_n, nI_1, hN'.k9, hN'.k7, hN'.k0, hN'.k1, nI_ifle, nI_if0, nI_if2, nI_ifeq]
        rw [if_neg (by omega)]
        by_cases g : v 7 k = 0
        · rw [if_pos g]
          by_cases g2 : v 0 k = 2
          · rw [if_pos g2]
            by_cases g1 : v 1 k = v 1 t
            · rw [if_pos g1, if_pos ⟨hk, g, g1, g2⟩]
            · rw [if_neg g1, if_neg (fun h => g1 h.2.2.1)]
          · rw [if_neg g2, if_neg (fun h => g2 h.2.2.2)]
        · rw [if_neg g, if_neg (fun h => g h.2.1)]
      by_cases g : Rt v (v 1 t) k
      · obtain ⟨u2, q1, q2, q3, q4, q5⟩ := x_lead2 (o := o) (z := z) (w := w) hN' hI hk p2 g
        rw [if_pos g, q1, b2_s] at e1
        refine ⟨u2, e1, p1.trans q2, q3, fun x hx hR => ?_⟩
        by_cases e2 : x = k
        · rw [e2]; exact q5
        · exact q4 x (p3 x (by omega) hR)
      · rw [if_neg g] at e1
        refine ⟨u', e1, p1, p2, fun x hx hR => ?_⟩
        by_cases e2 : x = k
        · rw [e2] at hR; exact absurd hR g
        · exact p3 x (by omega) hR)
    (by
      rintro n u' ⟨p1, p2, p3⟩
      have hN' := hN.sc p1.sc
      refine ⟨u', ?_, p1⟩
      show fX11_isNear_6 (n + 1) o (nI t) (nI (v 9 0)) (mB o z u' w) = _
      rw [fX11_isNear_6]
      simp (disch := omega) only [mG9, mA34, mX34, b1_s, mI_n, hN'.k9]
      rw [if_pos (Int32.le_refl _), p2.mark hI (fun b hB => ⟨hB.1, p3 b hB.1 hB⟩) (x := t) (P := Near v t) (by omega) Iff.rfl]
      by_cases h : Near v t
      · rw [if_pos h]; rfl
      · rw [if_neg h]; rfl)
  obtain ⟨u9, e1, e2⟩ := key (v 9 0) 100000 0 u0 (by omega) (by omega) ⟨a2, a3, fun x hx => by omega⟩
  refine ⟨u9, ?_, e2⟩
  unfold fX11_isNear
  rw [mtg, b1_s, a1, b2_s]
  exact e1
end NR5
