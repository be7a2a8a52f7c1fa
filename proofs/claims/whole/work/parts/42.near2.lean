section NR0
variable {v : Nu} {u : Mu}
theorem Nv.k0 (h : Nv v u) (i : Nat) : u 0 i = nI (v 0 i) := (h 0 i (by decide)).trans (dv_n rfl)
theorem Nv.k1 (h : Nv v u) (i : Nat) : u 1 i = nI (v 1 i) := (h 1 i (by decide)).trans (dv_n rfl)
theorem Nv.k3 (h : Nv v u) (i : Nat) : u 3 i = nI (v 3 i) := (h 3 i (by decide)).trans (dv_n rfl)
theorem Nv.k4 (h : Nv v u) (i : Nat) : u 4 i = nI (v 4 i) := (h 4 i (by decide)).trans (dv_n rfl)
theorem Nv.k5 (h : Nv v u) (i : Nat) : u 5 i = dv 5 (v 5 i) := h 5 i (by decide)
theorem Nv.k6 (h : Nv v u) (i : Nat) : u 6 i = nI (v 6 i) := (h 6 i (by decide)).trans (dv_n rfl)
theorem Nv.k7 (h : Nv v u) (i : Nat) : u 7 i = nI (v 7 i) := (h 7 i (by decide)).trans (dv_n rfl)
theorem Nv.k8 (h : Nv v u) (i : Nat) : u 8 i = nI (v 8 i) := (h 8 i (by decide)).trans (dv_n rfl)
theorem Nv.k9 (h : Nv v u) (i : Nat) : u 9 i = nI (v 9 i) := (h 9 i (by decide)).trans (dv_n rfl)
theorem Nv.k10 (h : Nv v u) (i : Nat) : u 10 i = nI (v 10 i) := (h 10 i (by decide)).trans (dv_n rfl)
theorem Nv.k11 (h : Nv v u) (i : Nat) : u 11 i = nI (v 11 i) := (h 11 i (by decide)).trans (dv_n rfl)
theorem Nv.k12 (h : Nv v u) (i : Nat) : u 12 i = nI (v 12 i) := (h 12 i (by decide)).trans (dv_n rfl)
theorem Nv.k14 (h : Nv v u) (i : Nat) : u 14 i = nI (v 14 i) := (h 14 i (by decide)).trans (dv_n rfl)
theorem Nv.k15 (h : Nv v u) (i : Nat) : u 15 i = nI (v 15 i) := (h 15 i (by decide)).trans (dv_n rfl)
theorem Nv.k16 (h : Nv v u) (i : Nat) : u 16 i = nI (v 16 i) := (h 16 i (by decide)).trans (dv_n rfl)
theorem Nv.k17 (h : Nv v u) (i : Nat) : u 17 i = nI (v 17 i) := (h 17 i (by decide)).trans (dv_n rfl)
theorem Nv.k18 (h : Nv v u) (i : Nat) : u 18 i = nI (v 18 i) := (h 18 i (by decide)).trans (dv_n rfl)
theorem Nv.k19 (h : Nv v u) (i : Nat) : u 19 i = dv 19 (v 19 i) := h 19 i (by decide)
theorem Nv.k20 (h : Nv v u) (i : Nat) : u 20 i = dv 20 (v 20 i) := h 20 i (by decide)
theorem Nv.k21 (h : Nv v u) (i : Nat) : u 21 i = dv 21 (v 21 i) := h 21 i (by decide)
theorem Nv.k22 (h : Nv v u) (i : Nat) : u 22 i = nI (v 22 i) := (h 22 i (by decide)).trans (dv_n rfl)
theorem Nv.k23 (h : Nv v u) (i : Nat) : u 23 i = nI (v 23 i) := (h 23 i (by decide)).trans (dv_n rfl)
theorem Nv.k24 (h : Nv v u) (i : Nat) : u 24 i = nI (v 24 i) := (h 24 i (by decide)).trans (dv_n rfl)
theorem Nv.k25 (h : Nv v u) (i : Nat) : u 25 i = nI (v 25 i) := (h 25 i (by decide)).trans (dv_n rfl)
theorem Nv.k26 (h : Nv v u) (i : Nat) : u 26 i = nI (v 26 i) := (h 26 i (by decide)).trans (dv_n rfl)
theorem Nv.k27 (h : Nv v u) (i : Nat) : u 27 i = nI (v 27 i) := (h 27 i (by decide)).trans (dv_n rfl)
theorem Nv.k28 (h : Nv v u) (i : Nat) : u 28 i = nI (v 28 i) := (h 28 i (by decide)).trans (dv_n rfl)
theorem Nv.k29 (h : Nv v u) (i : Nat) : u 29 i = nI (v 29 i) := (h 29 i (by decide)).trans (dv_n rfl)
theorem Nv.k30 (h : Nv v u) (i : Nat) : u 30 i = nI (v 30 i) := (h 30 i (by decide)).trans (dv_n rfl)
theorem Nv.k31 (h : Nv v u) (i : Nat) : u 31 i = nI (v 31 i) := (h 31 i (by decide)).trans (dv_n rfl)
theorem Nv.k32 (h : Nv v u) (i : Nat) : u 32 i = nI (v 32 i) := (h 32 i (by decide)).trans (dv_n rfl)
theorem Nv.k33 (h : Nv v u) (i : Nat) : u 33 i = nI (v 33 i) := (h 33 i (by decide)).trans (dv_n rfl)
theorem Nv.k37 (h : Nv v u) (i : Nat) : u 37 i = nI (v 37 i) := (h 37 i (by decide)).trans (dv_n rfl)
theorem Nv.k38 (h : Nv v u) (i : Nat) : u 38 i = nI (v 38 i) := (h 38 i (by decide)).trans (dv_n rfl)
theorem Nv.k39 (h : Nv v u) (i : Nat) : u 39 i = nI (v 39 i) := (h 39 i (by decide)).trans (dv_n rfl)
theorem Nv.k40 (h : Nv v u) (i : Nat) : u 40 i = nI (v 40 i) := (h 40 i (by decide)).trans (dv_n rfl)
theorem Nv.k41 (h : Nv v u) (i : Nat) : u 41 i = dv 41 (v 41 i) := h 41 i (by decide)
theorem Nv.k42 (h : Nv v u) (i : Nat) : u 42 i = nI (v 42 i) := (h 42 i (by decide)).trans (dv_n rfl)
theorem Nv.k43 (h : Nv v u) (i : Nat) : u 43 i = nI (v 43 i) := (h 43 i (by decide)).trans (dv_n rfl)
theorem Nv.k44 (h : Nv v u) (i : Nat) : u 44 i = nI (v 44 i) := (h 44 i (by decide)).trans (dv_n rfl)
theorem Nv.k46 (h : Nv v u) (i : Nat) : u 46 i = nI (v 46 i) := (h 46 i (by decide)).trans (dv_n rfl)
end NR0
section NR
variable {o z : Nat} {v : Nu} {u : Mu} {w : Me} {t : Nat}
theorem Nv.gok (h : Nv v u) (hI : iT v) : gOK u (v 9 0) (v 3) (hdv v) := by
  refine ⟨hI.1, fun x hx => ⟨by rw [h 3 x (by decide), dv_n rfl], (hI.2 x hx).2.2.1, fun p hp => ?_⟩⟩
  rw [h 10 _ (by decide), h 11 _ (by decide), dv_n rfl, dv_n rfl]
  obtain ⟨b1, b2, -⟩ := (hI.2 x hx).2.2.2.2.2.2.2.2.2.2.2.2 p hp
  simp only [hdv]
  by_cases e : v 10 (8 * x + p) = 1
  · rw [if_pos e, e]
    refine ⟨fun y hy => ?_, fun h => by cases h⟩
    have := Option.some.inj hy
    subst this
    exact ⟨rfl, rfl, (b2 e).1⟩
  · rw [if_neg e]
    refine ⟨fun y hy => (by cases hy), fun _ h1 => e ?_⟩
    exact (nI_eq (b := 1) (by omega) (by decide)).mp h1
/-- the reference's marks -/
def MK (v : Nu) (B : Nat → Prop) (u : Mu) : Prop := (∀ y, y < 300 → u 34 y = 0 ∨ u 34 y = 1) ∧ (∀ y, y < 300 → u 34 y = 1 → y < v 9 0 ∧ Cl (LEv v) B y) ∧ ∀ x y, x < v 9 0 → u 34 x = 1 → LEv v x y → u 34 y = 1
theorem MK.mark {B : Nat → Prop} {x : Nat} (h : MK v B u) (hI : iT v) (hB : ∀ b, B b → b < v 9 0 ∧ u 34 b = 1) (hx : x < 300) {P : Prop} [Decidable P] (hP : Cl (LEv v) B x ↔ P) : u 34 x = if P then 1 else 0 := by
  rcases h.1 x hx with e | e
  · rw [e, if_neg (fun h2 => ?_)]
    have := hP.mpr h2 (fun y => y < v 9 0 ∧ u 34 y = 1) hB (fun a b ha hab => by
      obtain ⟨p, p1, p2⟩ := hab
      refine ⟨?_, h.2.2 a b ha.1 ha.2 ⟨p, p1, p2⟩⟩
      simp only [hdv] at p2
      by_cases e1 : v 10 (8 * a + p) = 1
      · rw [if_pos e1] at p2
        rw [← Option.some.inj p2]
        exact (hI.tb.2 a ha.1).2 p p1 e1
      · rw [if_neg e1] at p2; cases p2)
    rw [e] at this
    exact absurd this.2 (by decide)
  · rw [e, if_pos (hP.mp (h.2.1 x hx e).2)]
theorem s_lead2 {B : Nat → Prop} (hN : Nv v u) (hI : iT v) (ht : t < v 9 0) (hM : MK v B u) (hB : B t) : ∃ u', fX11_lead o (nI t) (mB o z u w) = some ((), mB o z u' w) ∧ Sc u u' ∧ MK v B u' ∧ (∀ y, u 34 y = 1 → u' 34 y = 1) ∧ u' 34 t = 1 := by
  obtain ⟨u', a1, a2, a3, a4, a5, a6, a7⟩ := s_lead (o := o) (z := z) (w := w) (S := Cl (LEv v) B) (hN.gok hI) ht hM.1 hM.2.1 hM.2.2 (fun x y hx hxy => hx.step hxy) (Cl.base hB)
  exact ⟨u', a1, a2, ⟨a3, a4, a7⟩, a5, a6⟩
theorem s_noLeads2 {B : Nat → Prop} (hb : v 9 0 ≤ 300) : ∃ u', fX11_noLeads o (mB o z u w) = some ((), mB o z u' w) ∧ Sc u u' ∧ MK v B u' := by
  obtain ⟨u', a1, a2, a3, a4⟩ := s_noLeads (o := o) (z := z) (u := u) (w := w)
  have h5 : ∀ y, y < 300 → ¬ u' 34 y = 1 := fun y hy h => by rw [a3 y hy] at h; exact absurd h (by decide)
  exact ⟨u', a1, a2, fun y hy => Or.inl (a3 y hy), fun y hy h => absurd h (h5 y hy), fun x y hx h => absurd h (h5 x (by omega))⟩
theorem s_isNear [Decidable (Near v t)] (hN : Nv v u) (hI : iT v) (ht : t < v 9 0) : ∃ u', fX11_isNear o (nI t) (mB o z u w) = some (if Near v t then 1 else 0, mB o z u' w) ∧ Sc u u' := by
  have hb := hI.1
  have dec := fun k => Classical.propDecidable (Rt v (v 1 t) k)
  obtain ⟨u0, a1, a2, a3⟩ := s_noLeads2 (o := o) (z := z) (u := u) (w := w) (v := v) (B := Rt v (v 1 t)) hb
  have key := zlp (F := fun n k (u' : Mu) => fX11_isNear_6 n o (nI t) k (mB o z u' w)) (N := v 9 0)
    (fun k u' => Sc u u' ∧ MK v (Rt v (v 1 t)) u' ∧ ∀ x, x < k → Rt v (v 1 t) x → u' 34 x = 1)
    (fun y => ∃ u', y = some (if Near v t then 1 else 0, mB o z u' w) ∧ Sc u u')
    (by
      rintro n k u' hk ⟨p1, p2, p3⟩
      left
      have hN' := hN.sc p1
      obtain ⟨b0, b1', b3, b7, -⟩ := hI.2 k hk
      have bt := (hI.2 t ht).2.1
      have e1 : fX11_isNear_6 (n + 1) o (nI t) (nI k) (mB o z u' w) = if Rt v (v 1 t) k then (b2 (fX11_lead o (nI k) (mB o z u' w)) fun _ s18 => fX11_isNear_6 n o (nI t) (nI (k + 1)) s18) else fX11_isNear_6 n o (nI t) (nI (k + 1)) (mB o z u' w) := by
        rw [fX11_isNear_6]
        simp (disch := omega) only [mG9, mA7, mX7, mA0, mX0, mA1, mX1, mtg, b1_s, mI_n, nI_1, hN'.k9, hN'.k7, hN'.k0, hN'.k1, nI_ifle, nI_if0, nI_if2, nI_ifeq]
        rw [if_neg (by omega)]
        by_cases g : v 7 k = 0
        · rw [if_pos g]
          by_cases g2 : v 0 k = 2
          · rw [if_pos g2]
            by_cases g1 : v 1 k = v 1 t
            · rw [if_pos g1, if_pos ⟨hk, g, g1, g2⟩]
            · rw [if_neg g1, if_neg (fun h => g1 h.2.2.1)]
          · rw [if_neg g2, if_neg (fun h => g2 h.2.2.2)]
        · rw [if_neg g, if_neg (fun h => g h.2.1)]
      by_cases g : Rt v (v 1 t) k
      · obtain ⟨u2, q1, q2, q3, q4, q5⟩ := s_lead2 (o := o) (z := z) (w := w) hN' hI hk p2 g
        rw [if_pos g, q1, b2_s] at e1
        refine ⟨u2, e1, p1.trans q2, q3, fun x hx hR => ?_⟩
        by_cases e2 : x = k
        · rw [e2]; exact q5
        · exact q4 x (p3 x (by omega) hR)
      · rw [if_neg g] at e1
        refine ⟨u', e1, p1, p2, fun x hx hR => ?_⟩
        by_cases e2 : x = k
        · rw [e2] at hR; exact absurd hR g
        · exact p3 x (by omega) hR)
    (by
      rintro n u' ⟨p1, p2, p3⟩
      have hN' := hN.sc p1
      refine ⟨u', ?_, p1⟩
      show fX11_isNear_6 (n + 1) o (nI t) (nI (v 9 0)) (mB o z u' w) = _
      rw [fX11_isNear_6]
      simp (disch := omega) only [mG9, mA34, mX34, b1_s, mI_n, hN'.k9]
      rw [if_pos (Int32.le_refl _), p2.mark hI (fun b hB => ⟨hB.1, p3 b hB.1 hB⟩) (x := t) (P := Near v t) (by omega) Iff.rfl]
      by_cases h : Near v t
      · rw [if_pos h]; rfl
      · rw [if_neg h]; rfl)
  obtain ⟨u9, e1, e2⟩ := key (v 9 0) 100000 0 u0 (by omega) (by omega) ⟨a2, a3, fun x hx => by omega⟩
  refine ⟨u9, ?_, e2⟩
  unfold fX11_isNear
  rw [mtg, b1_s, a1, b2_s]
  exact e1
end NR
