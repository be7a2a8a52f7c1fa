section CB3
variable {n q z t p a b e kd pl b0 : Nat} {d : AD} {c : CH} {v : Nu} {u : Mu} {w : Me}
theorem st_leaf : st3 (Jx b0 q) b0 q fX10_leaf fX11_leaf := by
  intro n x y v1 v2 v3 hn hJ
  obtain ⟨d, c, v, u, w, z, rfl, rfl, rfl, R, hN, hI⟩ := id hJ
  have hF := R.2.1
  have hX := R.2.2.1
  have hT := hI.1
  have hb := hT.1
  unfold fX10_leaf fX11_leaf
  rw [qa_100_0 hF hX, b1_s, qt_101 hF, b1_s, mtg, b1_s]
  rcases b_place (q := q) (z := z) R hT hN v1 v2 with ⟨e1, e2, e2'⟩ | ⟨t, ht, h7, rfl, e1, e2', ⟨h0, h3, e3, e4, e5⟩ | ⟨h0, e3, ⟨hy, e4, e5⟩ | ⟨p, hp, rfl, e4, e5⟩⟩⟩
  · rw [e1, b2_s, oe_0, e2, b2_s, if_neg (by decide)]
    exact b_ref 0 R hN hI (by decide) (by decide)
  · rw [e1, b2_s, oe_1, g_tg R ht, b1_s, e3, b2_s, if_pos rfl, e5, b2_s, if_neg (by decide)]
    exact b_ref 1 R hN hI (by decide) (by decide)
  · rw [e1, b2_s, oe_1, g_tg R ht, b1_s, e3, b2_s, if_neg (show ¬ (1 : Int32) = 0 by decide), g_tg R ht, b1_s, e4, b2_s, if_pos rfl, e5, b2_s, if_neg (by decide)]
    exact b_ref 2 R hN hI (by decide) (by decide)
  obtain ⟨k0, k1, k3, k7, -⟩ := hT.k ht
  rw [e1, b2_s, oe_1, g_tg R ht, b1_s, e3, b2_s, if_neg (show ¬ (1 : Int32) = 0 by decide), g_tg R ht, b1_s, e4, b2_s, if_neg (show ¬ (1 : Int32) = 0 by decide), e5, b2_s, if_pos rfl, qt_100 hF, b1_s, mtg, b1_s]
  haveI := Classical.propDecidable (Near v t)
  obtain ⟨c1, u1, n1, n2, R1, hN1, hu1⟩ := b_near (q := q) (z := z) R hT hN ht
  have hX1 := R1.2.2.1
  have hI1 := hI.uw hu1
  rw [n1, b2_s, n2, b2_s]
  by_cases ne : Near v t
  rotate_left
  · rw [if_neg ne, if_pos rfl, if_pos rfl]
    exact b_ref 4 R1 hN1 hI1 (by decide) (by decide)
  rw [if_pos ne, if_neg (show ¬ (1 : Int32) = 0 by decide), if_neg (show ¬ (1 : Int32) = 0 by decide), qa_100_0 hF hX1, b1_s, g_host R1 ht, b1_s, qt_101 hF, b1_s, mG9, b1_s, hN1.k9, i300 hb]
  by_cases h300 : v 9 0 = 300
  · rw [e_makeO R1 h300, b2_s, oe_0, if_pos h300]
    exact b_ref 5 R1 hN1 hI1 (by decide) (by decide)
  rw [if_neg h300]
  have hlt : v 9 0 < 300 := by omega
  obtain ⟨d', c2, m1, hE, R2⟩ := e_make (kd := 0) (h := v 1 t) (pl := 0) R1 hT hI1.2.1 hI.2.2.2.2.2.1.1 hlt (by decide)
  have m1' : fX6_make (da d 101 0) 0 (nI (v 1 t)) 0 (cB d c1) = _ := m1
  have hE100 := (hE 100 0 (f100 hF)).1
  have hEt := (hE 1 t (R1.t ht).1).1
  have hI2 := ((hI1.dirty (D := fun g => g = v 1 t)).mk (kd := 0) (pl := 0) hlt k1 rfl (by decide) (by decide) (fun _ => rfl) (fun e => by omega))
  have hT2 := hI2.1
  have ht2 : t < mkv v 0 (v 1 t) 0 9 0 := by rw [mkv_9]; omega
  have hs2 : v 9 0 < mkv v 0 (v 1 t) 0 9 0 := by rw [mkv_9]; omega
  have k1' : mkv v 0 (v 1 t) 0 1 t = v 1 t := mkv_n (by omega) (by omega)
  have k3' : mkv v 0 (v 1 t) 0 3 t = v 3 t := mkv_n (by omega) (by omega)
  have hp2 : p < mkv v 0 (v 1 t) 0 3 t := by rw [k3']; exact hp
  have R3 := R2.mark (e := v3) hs2
  obtain ⟨c4, x1, R4⟩ := e_holdCnt (a := 1) (b := v 9 0) (e := mkv v 0 (v 1 t) 0 12 (8 * t + p)) (K := fun s => (b1 (gI 5 0 (da d' 1 (v 9 0)) s) fun x38 => some (x38, s))) (some (v 9 0)) R3 hT2 ht2 hp2 (fun s' h => by cases h; exact ⟨hs2, rfl, rfl⟩) (fun h => by cases h)
  rw [k1'] at R4
  have gn : gI 5 0 (da d' 1 (v 9 0)) (cB d' c4) = some (nI (v 9 0)) := g_num R4 hs2
  rw [gn, b1_s] at x1
  obtain ⟨u2, y1, hN2, hu2⟩ := s_make2 (q := q) (z := z) (w := w) (kd := 0) (h := v 1 t) (pl := 0) hN1 hlt
  have y1' : fX11_make q 0 (nI (v 1 t)) 0 (mB q z u1 w) = _ := y1
  have hN3 : Nv (mkv v 0 (v 1 t) 0) (zu u2 2 (v 9 0) v3) := by
    intro k i hk
    rw [zu_n (by omega)]
    exact hN2 k i hk
  obtain ⟨u4, y2, hN4, hu4⟩ := s_lay (q := q) (z := z) (w := w) (y := v 9 0) hN3 hT2 ht2 hp2
  have hI5 := hI1.mkAt (kd := 0) (pl := 0) (e := mkv v 0 (v 1 t) 0 12 (8 * t + p)) ht hp h7 hlt (by decide) (by decide) (fun _ => rfl) (fun e => by omega)
  have hTp : iT (plc (mkv v 0 (v 1 t) 0) t p 1 (v 9 0) (mkv v 0 (v 1 t) 0 12 (8 * t + p))) := hI5.1
  obtain ⟨u5, y3, hN5, hu5⟩ := s_cnt (q := q) (z := z) (w := w) (t := t) (K := fun s => some (nI (v 9 0), s)) hN4 hTp ht2
  have hN5' : Nv (tch (plc (mkv v 0 (v 1 t) 0) t p 1 (v 9 0) (mkv v 0 (v 1 t) 0 12 (8 * t + p))) (v 1 t)) u5 := by
    have k1'' : plc (mkv v 0 (v 1 t) 0) t p 1 (v 9 0) (mkv v 0 (v 1 t) 0 12 (8 * t + p)) 1 t = v 1 t := k1'
    rw [k1''] at hN5
    exact hN5
  rw [m1', b2_s, oe_1, cpI (t := 5) R2.1.1 (R2.t hs2).1 rfl, b1_s, ← hEt, ← hE100]
  rw [mA1, b1_s, mX1, mI_n (by omega) (by decide), b1_s, hN1.k1, mtg, b1_s, y1', b2_s, mA2, b1_s, mY2 (mC_n hlt (by decide)), b1_s, nI_c (by omega), mtg, b1_s, y2, b2_s]
  have hu : ∀ i, u5 2 i = zu u1 2 (v 9 0) v3 2 i := fun i => by
    rw [hu5, hu4]
    simp only [zu]
    rw [hu2]
  refine ⟨_, _, _, x1, y3, rfl, d', c4, _, u5, w, z, rfl, rfl, rfl, R4.uw hu (fun _ => rfl), hN5', hI5.uf (fun i hi => ?_)⟩
  have hi' : mkv v 0 (v 1 t) 0 9 0 ≤ i := hi
  rw [mkv_9] at hi'
  rw [hu, zu_n (by omega)]
theorem st_box : st3 (Jx b0 q) b0 q fX10_box fX11_box := by
  intro n x y v1 v2 v3 hn hJ
  obtain ⟨d, c, v, u, w, z, rfl, rfl, rfl, R, hN, hI⟩ := id hJ
  have hF := R.2.1
  have hX := R.2.2.1
  have hT := hI.1
  have hb := hT.1
  unfold fX10_box fX11_box
  rw [qa_100_0 hF hX, b1_s, qt_101 hF, b1_s, mtg, b1_s]
  rcases b_place (q := q) (z := z) R hT hN v1 v2 with ⟨e1, e2, e2'⟩ | ⟨t, ht, h7, rfl, e1, e2', ⟨h0, h3, e3, e4, e5⟩ | ⟨h0, e3, ⟨hy, e4, e5⟩ | ⟨p, hp, rfl, e4, e5⟩⟩⟩
  · rw [e1, b2_s, oe_0, e2, b2_s, if_neg (by decide)]
    exact b_ref 0 R hN hI (by decide) (by decide)
  · rw [e1, b2_s, oe_1, g_tg R ht, b1_s, e3, b2_s, if_pos rfl, e5, b2_s, if_neg (by decide)]
    exact b_ref 1 R hN hI (by decide) (by decide)
  · rw [e1, b2_s, oe_1, g_tg R ht, b1_s, e3, b2_s, if_neg (show ¬ (1 : Int32) = 0 by decide), g_tg R ht, b1_s, e4, b2_s, if_pos rfl, e5, b2_s, if_neg (by decide)]
    exact b_ref 2 R hN hI (by decide) (by decide)
  obtain ⟨k0, k1, k3, k7, -⟩ := hT.k ht
  rw [e1, b2_s, oe_1, g_tg R ht, b1_s, e3, b2_s, if_neg (show ¬ (1 : Int32) = 0 by decide), g_tg R ht, b1_s, e4, b2_s, if_neg (show ¬ (1 : Int32) = 0 by decide), e5, b2_s, if_pos rfl]
  rcases lim 1 8 v3 (by decide) (by decide) with ⟨l1, -⟩ | hl
  · rw [if_neg (show ¬ (1 : Int32) ≤ v3 from l1), if_neg (show ¬ (1 : Int32) ≤ v3 from l1)]
    exact b_ref 3 R hN hI (by decide) (by decide)
  have l1 : (1 : Int32) ≤ v3 := by
    rcases hl with ⟨l1, -⟩ | ⟨pl, -, -, -, l1, -⟩
    · exact l1
    · exact l1
  rw [if_pos l1, if_pos l1, qt_100 hF, b1_s, mtg, b1_s]
  haveI := Classical.propDecidable (Near v t)
  obtain ⟨c1, u1, n1, n2, R1, hN1, hu1⟩ := b_near (q := q) (z := z) R hT hN ht
  have hX1 := R1.2.2.1
  have hI1 := hI.uw hu1
  rw [n1, b2_s, n2, b2_s]
  by_cases ne : Near v t
  rotate_left
  · rw [if_neg ne, if_pos rfl, if_pos rfl]
    exact b_ref 4 R1 hN1 hI1 (by decide) (by decide)
  rw [if_pos ne, if_neg (show ¬ (1 : Int32) = 0 by decide), if_neg (show ¬ (1 : Int32) = 0 by decide)]
  rcases hl with ⟨-, -, l2, l3⟩ | ⟨pl, p1, p2, rfl, -, -, l2, l3⟩
  · rw [if_neg (show ¬ v3 ≤ (8 : Int32) from l2), if_pos (show (8 : Int32) < v3 from l3)]
    exact b_ref 5 R1 hN1 hI1 (by decide) (by decide)
  rw [if_pos (show nI pl ≤ (8 : Int32) from l2), if_neg (show ¬ (8 : Int32) < nI pl from l3), qa_100_0 hF hX1, b1_s, g_host R1 ht, b1_s, qt_101 hF, b1_s, mG9, b1_s, hN1.k9, i300 hb]
  by_cases h300 : v 9 0 = 300
  · rw [e_makeO R1 h300, b2_s, oe_0, if_pos h300]
    exact b_ref 5 R1 hN1 hI1 (by decide) (by decide)
  rw [if_neg h300]
  have hlt : v 9 0 < 300 := by omega
  obtain ⟨d', c2, m1, hE, R2⟩ := e_make (kd := 1) (h := v 1 t) (pl := pl) R1 hT hI1.2.1 hI.2.2.2.2.2.1.1 hlt p2
  have m1' : fX6_make (da d 101 0) 1 (nI (v 1 t)) (nI pl) (cB d c1) = _ := m1
  have hE100 := (hE 100 0 (f100 hF)).1
  have hEt := (hE 1 t (R1.t ht).1).1
  have hI2 := ((hI1.dirty (D := fun g => g = v 1 t)).mk (kd := 1) (pl := pl) hlt k1 rfl (by decide) p2 (fun e => by omega) (fun _ => p1))
  have hT2 := hI2.1
  have ht2 : t < mkv v 1 (v 1 t) pl 9 0 := by rw [mkv_9]; omega
  have hs2 : v 9 0 < mkv v 1 (v 1 t) pl 9 0 := by rw [mkv_9]; omega
  have k1' : mkv v 1 (v 1 t) pl 1 t = v 1 t := mkv_n (by omega) (by omega)
  have k3' : mkv v 1 (v 1 t) pl 3 t = v 3 t := mkv_n (by omega) (by omega)
  have hp2 : p < mkv v 1 (v 1 t) pl 3 t := by rw [k3']; exact hp
  obtain ⟨c4, x1, R4⟩ := e_holdCnt (a := 1) (b := v 9 0) (e := mkv v 1 (v 1 t) pl 12 (8 * t + p)) (K := fun s => (b1 (gI 5 0 (da d' 1 (v 9 0)) s) fun x38 => some (x38, s))) (some (v 9 0)) R2 hT2 ht2 hp2 (fun s' h => by cases h; exact ⟨hs2, rfl, rfl⟩) (fun h => by cases h)
  rw [k1'] at R4
  have gn : gI 5 0 (da d' 1 (v 9 0)) (cB d' c4) = some (nI (v 9 0)) := g_num R4 hs2
  rw [gn, b1_s] at x1
  obtain ⟨u2, y1, hN2, hu2⟩ := s_make2 (q := q) (z := z) (w := w) (kd := 1) (h := v 1 t) (pl := pl) hN1 hlt
  have y1' : fX11_make q 1 (nI (v 1 t)) (nI pl) (mB q z u1 w) = _ := y1
  obtain ⟨u4, y2, hN4, hu4⟩ := s_lay (q := q) (z := z) (w := w) (y := v 9 0) hN2 hT2 ht2 hp2
  have hI5 := hI1.mkAt (kd := 1) (pl := pl) (e := mkv v 1 (v 1 t) pl 12 (8 * t + p)) ht hp h7 hlt (by decide) p2 (fun e => by omega) (fun _ => p1)
  have hTp : iT (plc (mkv v 1 (v 1 t) pl) t p 1 (v 9 0) (mkv v 1 (v 1 t) pl 12 (8 * t + p))) := hI5.1
  obtain ⟨u5, y3, hN5, hu5⟩ := s_cnt (q := q) (z := z) (w := w) (t := t) (K := fun s => some (nI (v 9 0), s)) hN4 hTp ht2
  have hN5' : Nv (tch (plc (mkv v 1 (v 1 t) pl) t p 1 (v 9 0) (mkv v 1 (v 1 t) pl 12 (8 * t + p))) (v 1 t)) u5 := by
    have k1'' : plc (mkv v 1 (v 1 t) pl) t p 1 (v 9 0) (mkv v 1 (v 1 t) pl 12 (8 * t + p)) 1 t = v 1 t := k1'
    rw [k1''] at hN5
    exact hN5
  rw [m1', b2_s, oe_1, ← hEt, ← hE100]
  rw [mA1, b1_s, mX1, mI_n (by omega) (by decide), b1_s, hN1.k1, mtg, b1_s, y1', b2_s, mtg, b1_s, y2, b2_s]
  have hu : ∀ i, u5 2 i = u1 2 i := fun i => by rw [hu5, hu4, hu2]
  exact ⟨_, _, _, x1, y3, rfl, d', c4, _, u5, w, z, rfl, rfl, rfl, R4.uw hu (fun _ => rfl), hN5', hI5.uw hu⟩
end CB3
