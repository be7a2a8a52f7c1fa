section GV
variable {d d' : AD} {c c' : CH} {v v' : Nu} {u u' : Mu} {w w' : Me} {n q z m r t p k l b0 g wt x h : Nat} {D : Nat → Prop}
/-- for a GIVE there is a GATE, and a name that WAITS for it -/
theorem give_there (hI : Inv D n v u w) (hl : l < v 24 0) (h23 : v 23 l = 1) (h14 : v 14 l = 2) : ∃ k0, k0 < v 29 0 ∧ v 1 (v 26 k0) = v 15 l ∧ v 5 (v 26 k0) = v 17 l + 1 ∧ gfi v (nI (v 15 l)) (v 17 l) = v 26 k0 ∧ fst1 v (v 26 k0) = k0 ∧ ∀ j, j < k0 → v 26 j ≠ v 26 k0 := by
  obtain ⟨hT, hF, hL, hW, hC, hK, hX, hS, hG, hQ, hM⟩ := hI
  obtain ⟨o1, o2, -⟩ := hL.2.1 l hl
  have h1 : 0 < fb_ct (qlet v (v 15 l) (v 17 l)) (v 24 0) := fb_ct_pos.mpr ⟨l, hl, qlet_iff.mpr ⟨h23, rfl, Or.inr ⟨h14, rfl⟩⟩⟩
  rw [hQ] at h1
  obtain ⟨k, k1, k2⟩ := fb_ct_pos.mp h1
  obtain ⟨k3, k4⟩ := qwai_iff.mp k2
  obtain ⟨w1, w2, w3, -⟩ := hW.2 k k1
  -- the first that waits for this gate
  have f1 := fa_first_no (fun j => v 26 j == v 26 k) (v 29 0)
  have f2 := fa_first_yes (fun j => v 26 j == v 26 k) (v 29 0)
  have hlt : fst1 v (v 26 k) < v 29 0 := by
    rcases Nat.lt_or_ge (fst1 v (v 26 k)) (v 29 0) with h | h
    · exact h
    · have := f1 k (Nat.lt_of_lt_of_le k1 h)
      simp at this
  have h26 : v 26 (fst1 v (v 26 k)) = v 26 k := by
    have := f2 hlt
    simpa [fst1] using this
  have hgf : gfi v (nI (v 15 l)) (v 17 l) = v 26 k := by
    have hp : gp v (nI (v 15 l)) (v 17 l) (v 26 k) = true := gp_iff.mpr ⟨w3, w2, by rw [k3], k4⟩
    have e0 := fa_first_le (gp v (nI (v 15 l)) (v 17 l)) (v 9 0)
    have e1 := fa_first_no (gp v (nI (v 15 l)) (v 17 l)) (v 9 0)
    have hlt2 : gfi v (nI (v 15 l)) (v 17 l) < v 9 0 := by
      rcases Nat.lt_or_ge (gfi v (nI (v 15 l)) (v 17 l)) (v 9 0) with h | h
      · exact h
      · have := e1 (v 26 k) (Nat.lt_of_lt_of_le w1 h)
        rw [this] at hp
        cases hp
    have e2 : gp v (nI (v 15 l)) (v 17 l) (gfi v (nI (v 15 l)) (v 17 l)) = true := fa_first_yes _ _ hlt2
    obtain ⟨a1, a2, a3, a4⟩ := gp_iff.mp e2
    have a5 : v 1 (gfi v (nI (v 15 l)) (v 17 l)) = v 15 l := (nI_eq (by have := (hT.k hlt2).2.1; omega) (by omega)).mp a3
    exact hG _ _ hlt2 w1 a1 w3 a2 w2 (by rw [a5, k3]) (by rw [a4, k4])
  refine ⟨fst1 v (v 26 k), hlt, by rw [h26]; exact k3, by rw [h26]; exact k4, by rw [h26]; exact hgf, by rw [h26], fun j hj => ?_⟩
  have := f1 j hj
  rw [h26]
  simpa using this
theorem b_give (R : RC d c v u w) (hN : Nv v u) (hI : Inv D0 n v u w) (hl : l < v 24 0) (h23 : v 23 l = 1) (h14 : v 14 l = 2) : Dok q n l d c v u w z := by
  obtain ⟨k0, k1, k2, k3, k4, k5, k6⟩ := give_there hI hl h23 h14
  obtain ⟨hT, hF, hL, hW, hC, hK, hX, hS, hG, hQ, hM⟩ := id hI
  have hb := hT.1
  have hb2 := hL.1
  obtain ⟨o1, o2, o3, o4, o5, o6, o7, o8, o9, o10, o11, -⟩ := hL.2.1 l hl
  obtain ⟨w1, w2, w3, w4, w5, w6⟩ := hW.2 k0 k1
  have h18 := o11 h14
  have hge := lsum_ge hl h23
  have gge := gsum_ge w1 w3 w2 k3
  have hs0 := (hS _ o4 o5).1
  have kk4 := (hT.k o4).2.2.2.2.2.1
  have g1 := (hT.g w1 w2).2.2.2
  have hd := s_deliver86 (q := q) (z := z) (w := w) (t := v 17 l) (h := v 15 l) (f := 0) hN hT hL hl (by omega) (by decide)
  have hd2 := s_deliver (q := q) (z := z) (w := w) hN hT hL hl h23
  rw [if_neg (by omega)] at hd2
  rw [if_pos (Or.inr h14)] at hd
  rcases e_arriveGive R hT hW hb2 hl o4 o2 k4 k1 k5 k3 h18 (by omega) with ⟨h600, e1⟩ | ⟨hlt, d', c1, e1, hE, R1⟩
  · left
    rw [if_pos (by omega)] at hd
    exact ⟨c, u, e_arr2 R hl h14 e1 (Or.inl rfl), R, hN, fun _ => rfl, hd2.trans hd⟩
  · have h22 : v 22 (v 24 0) = 0 := hL.2.2 _ (Nat.le_refl _) hlt
    rw [if_neg (by omega)] at hd
    have hN0 := hN.came (l := l)
    obtain ⟨u1, y1, hN1, hu1⟩ := s_given (v := zu v 23 l 0) (q := q) (z := z) (w := w) (t := v 17 l) (h := v 15 l) (k0 := k0) hN0 hT hW hlt h22 o4 o2 k4 k1 k6 k3 (show v 6 (v 26 k0) + 64 ≤ 40000 by omega)
    obtain ⟨u2, y2, hN2, hu2⟩ := s_cnt2 (q := q) (z := z) (w := w) hN1 o2
    have hc : ∀ f : Nu, wrv (zu f 6 (v 26 k0) (v 6 (v 26 k0) + 64)) k0 = zu (wrv f k0) 6 (v 26 k0) (v 6 (v 26 k0) + 64) := by
      intro f
      funext k j
      simp only [zu, wrv]
      by_cases e : k = 6
      · subst e
        simp
      · simp [e]
    have eq : zu (tch (ltz (zu (zu (wrv v k0) 6 (v 26 k0) (v 6 (v 26 k0) + 64)) 6 (v 26 k0) (v 6 (v 26 k0) + 64 - (v 6 (v 26 k0) + 64) / 2)) 0 (v 1 (v 27 k0)) (v 1 (v 26 k0)) (v 17 l) ((v 6 (v 26 k0) + 64) / 2) (v 27 k0 + 1) (v 28 k0 + 1) 0 0) (v 15 l)) 23 l 0 = tch (ltz (zu (zu (zu (wrv v k0) 23 l 0) 6 (v 26 k0) (v 6 (v 26 k0) + 64)) 6 (v 26 k0) (v 6 (v 26 k0) + 64 - (v 6 (v 26 k0) + 64) / 2)) 0 (v 1 (v 27 k0)) (v 1 (v 26 k0)) (v 17 l) ((v 6 (v 26 k0) + 64) / 2) (v 27 k0 + 1) (v 28 k0 + 1) 0 0) (v 15 l) := by
      rw [zu_tch (by decide), c23_ltz (v := zu (zu (wrv v k0) 6 (v 26 k0) (v 6 (v 26 k0) + 64)) 6 (v 26 k0) (v 6 (v 26 k0) + 64 - (v 6 (v 26 k0) + 64) / 2)) (show l ≠ v 24 0 by omega), zu_comm (f := zu (wrv v k0) 6 (v 26 k0) (v 6 (v 26 k0) + 64)) (a := 6) (by decide), zu_comm (f := wrv v k0) (a := 6) (by decide)]
    have hu : ∀ i, u2 2 i = u 2 i := fun i => (hu2 i).trans (hu1 i)
    right
    refine ⟨d', c1, _, u2, w, e_arr2 R hl h14 e1 (Or.inr rfl), hE, R1.uw hu (fun _ => rfl), ?_, ?_, ?_, ?_⟩
    · show l < ltz (zu (zu (wrv v k0) 6 (v 26 k0) (v 6 (v 26 k0) + 64)) 6 (v 26 k0) (v 6 (v 26 k0) + 64 - (v 6 (v 26 k0) + 64) / 2)) 0 (v 1 (v 27 k0)) (v 1 (v 26 k0)) (v 17 l) ((v 6 (v 26 k0) + 64) / 2) (v 27 k0 + 1) (v 28 k0 + 1) 0 0 24 0
      rw [ltz_24]
      show l < v 24 0 + 1
      omega
    · refine hd2.trans (hd.trans ?_)
      rw [s_126 hN (by omega) o1, if_neg (by omega), if_neg (by omega), if_pos h14, mtg, b1_s, y1, b2_s, y2]
    · rw [eq]
      have hx : wrv (zu (zu v 23 l 0) 6 (v 26 k0) (v 6 (v 26 k0) + 64)) k0 = zu (zu (wrv v k0) 23 l 0) 6 (v 26 k0) (v 6 (v 26 k0) + 64) := by
        rw [hc, ← c23_wrv]
      have hN2' : Nv (tch (ltz (zu (wrv (zu (zu v 23 l 0) 6 (v 26 k0) (v 6 (v 26 k0) + 64)) k0) 6 (v 26 k0) (v 6 (v 26 k0) + 64 - (v 6 (v 26 k0) + 64) / 2)) 0 (v 1 (v 27 k0)) (v 1 (v 26 k0)) (v 17 l) ((v 6 (v 26 k0) + 64) / 2) (v 27 k0 + 1) (v 28 k0 + 1) 0 0) (v 15 l)) u2 := hN2
      rw [hx] at hN2'
      exact hN2'
    · rw [eq]
      have h1 := (hI.dirty (D := fun g => g = v 15 l)).give hl h23 h14 k1 k2 k3 k2
      have e6 : zu (zu (wrv v k0) 23 l 0) 6 (v 26 k0) (v 6 (v 26 k0) + 64) 6 (v 26 k0) = v 6 (v 26 k0) + 64 := zu_s
      have hMm : Mt v (v 17 l) := (show Mt v (v 26 k0) from Cl.base (Or.inr (Or.inr ⟨k0, k1, rfl⟩))).step (Or.inr ⟨w2, k3⟩)
      have h2 := h1.sendHalf (g := v 26 k0) (m := v 17 l) (root := v 27 k0) (p := v 28 k0) hlt w1 w2 w3 k3 (by rw [e6]; omega) k2 w4 w5 w6 (hM.from hMm)
      rw [e6] at h2
      exact (h2.touch).uw hu
end GV
