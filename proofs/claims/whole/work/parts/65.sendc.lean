section SC
variable {n q z t p b0 : Nat} {D : Nat → Prop} {d d' : AD} {c c' : CH} {v v2 : Nu} {u u' : Mu} {w w' : Me}
theorem e_sendTail {h : Nat} {x25 : Int32} (hE : Ex d d') (R : RC d' c' v2 u w) (h100 : lvd d 100 0) (h1 : lvd d 1 t) (ht : t < v2 9 0) (hh : v2 1 t = h) (h8 : h < 8) : ∃ c2, (b1 (gI 5 2 (da d 1 t) (cB d' c')) fun x28 => (b1 (tg 10 (da d 100 0) (cB d' c')) fun _ => (b2 (fX10_touch (da d 100 0) x28 (cB d' c')) fun _ s31 => some (x25, s31)))) = some (x25, cB d' c2) ∧ RC d' c2 (tch v2 h) u w := by
  obtain ⟨c2, r2, R2⟩ := e_touch2 R h8
  rw [← (hE 100 0 h100).1, ← (hE 1 t h1).1, g_host R ht, b1_s, qt_100 R.2.1, b1_s, hh, r2, b2_s]
  exact ⟨c2, rfl, R2⟩
theorem nI_m1 {a : Nat} (h : a < 2147483648) : ¬ nI a = -1 := by
  intro e
  have := nI_pos (n := a) (by omega)
  rw [e] at this
  exact this (by decide)
theorem i600 (hb : v 24 0 ≤ 600) {α : Type} {x y : α} : (if nI (v 24 0) = 600 then x else y) = if v 24 0 = 600 then x else y := nI_ifeq (b := 600) (by omega) (by decide)
theorem i16 (hb : v 29 0 ≤ 16) {α : Type} {x y : α} : (if nI (v 29 0) = 16 then x else y) = if v 29 0 = 16 then x else y := nI_ifeq (b := 16) (by omega) (by decide)
theorem st_send : st3 (Jx b0 q) b0 q fX10_send fX11_send := by
  intro n x y v1 v2 v3 hn hJ
  obtain ⟨d, c, v, u, w, z, rfl, rfl, rfl, R, hN, hI⟩ := id hJ
  have hF := R.2.1
  have hX := R.2.2.1
  have hT := hI.1
  have hb := hT.1
  have hL := hI.2.2.1
  have hbl := hL.1
  have hW := hI.2.2.2.1
  unfold fX10_send fX11_send
  rw [qa_100_0 hF hX, b1_s, qt_101 hF, b1_s, mtg, b1_s]
  rcases b_there (q := q) (z := z) R hT hN v1 with ⟨t, ht, h7, rfl, e1, e2⟩ | ⟨e1, e2⟩
  rotate_left
  · rw [e1, b2_s, qa_100_0 hF hX, b1_s, qt_101 hF, b1_s, e2, b2_s, if_pos rfl]
    rcases b_there (q := q) (z := z) R hT hN v2 with ⟨s, hs, s7, rfl, f1, -⟩ | ⟨f1, -⟩
    · rw [f1, b2_s, oe_0]
      exact b_ref 0 R hN hI (by decide) (by decide)
    · rw [f1, b2_s, oe_0]
      exact b_ref 0 R hN hI (by decide) (by decide)
  rw [e1, b2_s, qa_100_0 hF hX, b1_s, qt_101 hF, b1_s, e2, b2_s, if_neg (show ¬ (1 : Int32) = 0 by decide), mtg, b1_s]
  rcases b_there (q := q) (z := z) R hT hN v2 with ⟨r, hr, r7, rfl, f1, f2⟩ | ⟨f1, f2⟩
  rotate_left
  · rw [f1, b2_s, oe_1, oe_0, f2, b2_s, if_pos rfl]
    exact b_ref 0 R hN hI (by decide) (by decide)
  obtain ⟨k0, k1, k3, k7, k8, k4, k6⟩ := hT.k ht
  obtain ⟨j0, j1, j3, j7, -⟩ := hT.k hr
  rw [f1, b2_s, oe_1, oe_1, f2, b2_s, if_neg (show ¬ (1 : Int32) = 0 by decide), g_kind R hr, b1_s, mA0, b1_s, mX0, mI_n (by omega) (by decide), b1_s, hN.k0, nI_if2 (by omega), nI_if2 (by omega)]
  by_cases hr2 : v 0 r = 2
  rotate_left
  · rw [if_neg hr2, if_neg hr2]
    exact b_ref 1 R hN hI (by decide) (by decide)
  rw [if_pos hr2, if_pos hr2, g_tg R hr, b1_s, mA3, b1_s, mX3, mI_n (by omega) (by decide), b1_s, hN.k3]
  rcases inOut v3 (n := v 3 r) (by omega) with hy | ⟨p, hp, rfl⟩
  · rw [e_hasPlaceO R hr hy, b2_s, if_pos rfl, isIn_o (by omega) hy, b2_s, if_pos rfl]
    exact b_ref 2 R hN hI (by decide) (by decide)
  rw [e_hasPlace R hr j3 hp, b2_s, if_neg (show ¬ (1 : Int32) = 0 by decide), isIn_n hp (by omega), b2_s, if_neg (show ¬ (1 : Int32) = 0 by decide), g_host R ht, b1_s, g_host R hr, b1_s]
  simp (disch := omega) only [mA1, b1_s, mX1, mI_n, hN.k1]
  rw [nI_ifeq (by omega) (by omega), nI_ifeq (by omega) (by omega)]
  by_cases hh : v 1 t = v 1 r
  · rw [if_pos hh, if_pos hh]
    exact b_ref 4 R hN hI (by decide) (by decide)
  rw [if_neg hh, if_neg hh, qt_100 hF, b1_s, mtg, b1_s]
  haveI := Classical.propDecidable (Near v t)
  obtain ⟨c1, u1, n1, n2, R1, hN1, hu1⟩ := b_near (q := q) (z := z) R hT hN ht
  have hX1 := R1.2.2.1
  have hI1 := hI.uw hu1
  rw [n1, b2_s, n2, b2_s]
  by_cases ne : Near v t
  rotate_left
  · rw [if_neg ne, if_pos rfl, if_pos rfl]
    exact b_ref 4 R1 hN1 hI1 (by decide) (by decide)
  rw [if_pos ne, if_neg (show ¬ (1 : Int32) = 0 by decide), if_neg (show ¬ (1 : Int32) = 0 by decide), qt_100 hF, b1_s, mA0, b1_s, mX0, mI_n (by omega) (by decide), b1_s, hN1.k0, nI_if3 (by omega)]
  have hMt := ne.mt
  have hM := hI.2.2.2.2.2.2.2.2.2.2
  obtain ⟨w1, w2, hN2⟩ := hN1.touch (q := q) (z := z) (w := w) k1
  have hC : ∀ g, g < 8 → v 30 g ≤ n := hI.2.2.2.2.1.1
  by_cases h600 : v 24 0 = 600
  · -- no room for letters
    rw [e_send0 R1 h600, b2_s, if_pos rfl]
    have r0 : ∀ w0 : Int32, fX11_send_114 q (nI t) (nI r) (nI p) w0 (mB q z u1 w) = fX11_send_140 q (mB q z u1 w) := by
      intro w0
      unfold fX11_send_114
      rw [mG24, b1_s, hN1.k24, i600 hbl, if_pos h600]
    by_cases h3 : v 0 t = 3
    · rw [if_pos h3, mA6, b1_s, mX6, mI_n (by omega) (by decide), b1_s, hN1.k6, nI_if1 (by omega)]
      by_cases h1 : v 6 t = 1
      · rw [if_pos h1, r0]
        exact b_ref 5 R1 hN1 hI1 (by decide) (by decide)
      · rw [if_neg h1, fX11_send_113, r0]
        exact b_ref 5 R1 hN1 hI1 (by decide) (by decide)
    · rw [if_neg h3, fX11_send_113, r0]
      exact b_ref 5 R1 hN1 hI1 (by decide) (by decide)
  have hlt : v 24 0 < 600 := by omega
  have h22 : v 22 (v 24 0) = 0 := hL.2.2 _ (Nat.le_refl _) hlt
  have r0 : fX11_send_114 q (nI t) (nI r) (nI p) 0 (mB q z u1 w) = fX11_send_147 q (nI t) (nI r) (nI p) 0 (mB q z u1 w) := by
    unfold fX11_send_114
    rw [mG24, b1_s, hN1.k24, i600 hbl, if_neg h600, if_pos rfl]
  by_cases h3 : v 0 t = 3
  rotate_left
  · -- no GATE
    rw [if_neg h3, fX11_send_113, r0]
    unfold fX11_send_147
    obtain ⟨d', c2, s1, hE, R2⟩ := e_send64 (p := p) (root := r) R1 hT hlt ht h3 hr
    obtain ⟨c3, s2, R3⟩ := e_sendTail (x25 := nI (v 24 0)) (t := t) hE R2 (f100 hF) (R1.t ht).1 ht rfl k1
    have hN3 : Nv (zu (tch v (v 1 t)) 4 t (v 4 t + 64)) (zu (zu u1 30 (v 1 t) (nI (v 30 (v 1 t) + 1))) 4 t (nI (v 4 t + 64))) := hN2.wr (by rw [dv_n rfl])
    obtain ⟨u4, y1, hN4, hu4⟩ := s_name (q := q) (z := z) (w := w) (t := t) (wt := 64) (fr := v 1 t) (p := p) (root := r) hN3 hb hlt h22 hr
    have y1' : fX11_name q (nI t) 64 (nI (v 1 t)) (nI r) (nI p) (mB q z (zu (zu u1 30 (v 1 t) (nI (v 30 (v 1 t) + 1))) 4 t (nI (v 4 t + 64))) w) = some (nI (v 24 0), mB q z u4 w) := y1
    have e64 : nI (v 4 t) + 64 = nI (v 4 t + 64) := nI_add _ 64
    have q0 : (zu u1 30 (v 1 t) (nI (v 30 (v 1 t) + 1))) 0 t = nI (v 0 t) := hN1.k0 t
    have q4 : (zu u1 30 (v 1 t) (nI (v 30 (v 1 t) + 1))) 4 t = nI (v 4 t) := hN1.k4 t
    have q1 : (zu (zu u1 30 (v 1 t) (nI (v 30 (v 1 t) + 1))) 4 t (nI (v 4 t + 64))) 1 t = nI (v 1 t) := hN1.k1 t
    rw [s1, b2_s, if_neg (nI_m1 (by omega)), s2, mA30, b1_s, mA1, b1_s, mX1, mI_n (by omega) (by decide), b1_s, hN1.k1, w1, b1_s, w2, b1_s, mA0, b1_s, mX0, mI_n (by omega) (by decide), b1_s, q0, nI_if3 (by omega), if_neg h3, mA4, b1_s, mX4, mI_n (by omega) (by decide), b1_s, q4, e64, mY4 (mC_n (by omega) (by decide)), b1_s, nI_c (by omega), mA1, b1_s, mX1, mI_n (by omega) (by decide), b1_s, q1, mtg, b1_s, y1', b2_s]
    have hN5 : Nv (tch (ltz (zu v 4 t (v 4 t + 64)) 0 (v 1 r) (v 1 t) t 64 (r + 1) (p + 1) 0 0) (v 1 t)) u4 := by
      rw [← ltz_tch, ← zu_tch (by decide)]
      exact hN4
    have hu : ∀ i, u4 2 i = u1 2 i := fun i => hu4 i
    refine ⟨_, _, _, rfl, rfl, rfl, d', c3, _, u4, w, z, rfl, rfl, (hE 100 0 (f100 hF)).1, R3.uw hu (fun _ => rfl), hN5, ?_⟩
    exact (((hI1.dirty (D := fun g => g = v 1 t)).send64 hn hlt ht h3 rfl hr hr2 hp (hM.from hMt)).touch1 hC).uw hu
  obtain ⟨⟨m, m1, m2, m3, m4⟩, g4, g8, g6⟩ := hT.g ht h3
  have hMm : Mt v m := hMt.step (Or.inr ⟨h3, m1⟩)
  rw [if_pos h3, mA6, b1_s, mX6, mI_n (by omega) (by decide), b1_s, hN1.k6, nI_if1 (by omega)]
  by_cases h6 : v 6 t = 1
  rotate_left
  · -- a GATE with WEIGHT
    rw [if_neg h6, fX11_send_113, r0]
    unfold fX11_send_147
    obtain ⟨d', c2, s1, hE, R2⟩ := e_sendHalf (p := p) (root := r) R1 hT hlt ht h3 m1 (by omega) hr
    obtain ⟨c3, s2, R3⟩ := e_sendTail (x25 := nI (v 24 0)) (t := t) hE R2 (f100 hF) (R1.t ht).1 ht rfl k1
    obtain ⟨u4, y1, hN4, hu4⟩ := s_half (q := q) (z := z) (w := w) (g := t) (p := p) (root := r) hN2 (show iT (tch v (v 1 t)) from hT) hlt h22 ht m1 hr
    have y1' : fX11_half q (nI t) (nI r) (nI p) (mB q z (zu u1 30 (v 1 t) (nI (v 30 (v 1 t) + 1))) w) = some (nI (v 24 0), mB q z u4 w) := y1
    have q0 : (zu u1 30 (v 1 t) (nI (v 30 (v 1 t) + 1))) 0 t = nI (v 0 t) := hN1.k0 t
    rw [s1, b2_s, if_neg (nI_m1 (by omega)), s2, mA30, b1_s, mA1, b1_s, mX1, mI_n (by omega) (by decide), b1_s, hN1.k1, w1, b1_s, w2, b1_s, mA0, b1_s, mX0, mI_n (by omega) (by decide), b1_s, q0, nI_if3 (by omega), if_pos h3, if_pos rfl, mtg, b1_s, y1', b2_s]
    have hN5 : Nv (tch (ltz (zu v 6 t (v 6 t - v 6 t / 2)) 0 (v 1 r) (v 1 t) m (v 6 t / 2) (r + 1) (p + 1) 0 0) (v 1 t)) u4 := by
      rw [← ltz_tch, ← zu_tch (by decide)]
      exact hN4
    have hu : ∀ i, u4 2 i = u1 2 i := fun i => hu4 i
    refine ⟨_, _, _, rfl, rfl, rfl, d', c3, _, u4, w, z, rfl, rfl, (hE 100 0 (f100 hF)).1, R3.uw hu (fun _ => rfl), hN5, ?_⟩
    exact ((hI1.dirty (D := fun g => g = v 1 t)).sendHalf hlt ht h3 h7 m1 (by omega) rfl hr hr2 hp (hM.from hMm)).touch.uw hu
  -- a GATE of WEIGHT 1
  rw [if_pos h6]
  unfold fX11_send_114
  rw [mG24, b1_s, hN1.k24, i600 hbl, if_neg h600, if_neg (show ¬ (1 : Int32) = 0 by decide), mG29, b1_s, hN1.k29, i16 hW.1]
  rcases e_sendWait (p := p) (root := r) R1 hT hlt hW.1 ht h3 m1 h6 hr with ⟨h16, s1⟩ | ⟨h16, d', c2, s1, hE, R2⟩
  · rw [s1, b2_s, if_pos rfl, if_pos h16]
    exact b_ref 5 R1 hN1 hI1 (by decide) (by decide)
  rw [if_neg (by omega)]
  unfold fX11_send_147
  obtain ⟨c3, s2, R3⟩ := e_sendTail (x25 := nI (v 24 0)) (t := t) hE R2 (f100 hF) (R1.t ht).1 ht rfl k1
  have C := mC_n h16 (show (16 : Nat) < 2147483648 by decide)
  have hN3 : Nv (wav (tch v (v 1 t)) t r p) (zu (zu (zu (zu (zu u1 30 (v 1 t) (nI (v 30 (v 1 t) + 1))) 26 (v 29 0) (nI t)) 27 (v 29 0) (nI r)) 28 (v 29 0) (nI p)) 29 0 (nI (v 29 0) + 1)) := (((hN2.wr (by rw [dv_n rfl])).wr (by rw [dv_n rfl])).wr (by rw [dv_n rfl])).wr (by rw [dv_n rfl, nI_1]; rfl)
  obtain ⟨u4, y1, hN4, hu4⟩ := s_letter (q := q) (z := z) (w := w) (kd := 1) (to := v 1 m) (fr := v 1 t) (t := m) (wt := 0) hN3 hlt h22
  have y1' : fX11_letter q 1 (nI (v 1 m)) (nI (v 1 t)) (nI m) 0 (mB q z (zu (zu (zu (zu (zu u1 30 (v 1 t) (nI (v 30 (v 1 t) + 1))) 26 (v 29 0) (nI t)) 27 (v 29 0) (nI r)) 28 (v 29 0) (nI p)) 29 0 (nI (v 29 0) + 1)) w) = some (nI (v 24 0), mB q z u4 w) := y1
  have q0 : (zu u1 30 (v 1 t) (nI (v 30 (v 1 t) + 1))) 0 t = nI (v 0 t) := hN1.k0 t
  have q29 : (zu u1 30 (v 1 t) (nI (v 30 (v 1 t) + 1))) 29 0 = nI (v 29 0) := hN1.k29 0
  have q29a : (zu (zu u1 30 (v 1 t) (nI (v 30 (v 1 t) + 1))) 26 (v 29 0) (nI t)) 29 0 = nI (v 29 0) := hN1.k29 0
  have q29b : (zu (zu (zu u1 30 (v 1 t) (nI (v 30 (v 1 t) + 1))) 26 (v 29 0) (nI t)) 27 (v 29 0) (nI r)) 29 0 = nI (v 29 0) := hN1.k29 0
  have q29c : (zu (zu (zu (zu u1 30 (v 1 t) (nI (v 30 (v 1 t) + 1))) 26 (v 29 0) (nI t)) 27 (v 29 0) (nI r)) 28 (v 29 0) (nI p)) 29 0 = nI (v 29 0) := hN1.k29 0
  have q5 : (zu (zu (zu (zu (zu u1 30 (v 1 t) (nI (v 30 (v 1 t) + 1))) 26 (v 29 0) (nI t)) 27 (v 29 0) (nI r)) 28 (v 29 0) (nI p)) 29 0 (nI (v 29 0) + 1)) 5 t = nI m := by
    show u1 5 t = _
    rw [hN1.k5, m1, dv_e rfl]
  have q1 : ∀ i, (zu (zu (zu (zu (zu u1 30 (v 1 t) (nI (v 30 (v 1 t) + 1))) 26 (v 29 0) (nI t)) 27 (v 29 0) (nI r)) 28 (v 29 0) (nI p)) 29 0 (nI (v 29 0) + 1)) 1 i = nI (v 1 i) := fun i => hN1.k1 i
  rw [s1, b2_s, if_neg (nI_m1 (by omega)), s2, mA30, b1_s, mA1, b1_s, mX1, mI_n (by omega) (by decide), b1_s, hN1.k1, w1, b1_s, w2, b1_s, mA0, b1_s, mX0, mI_n (by omega) (by decide), b1_s, q0, nI_if3 (by omega), if_pos h3, if_neg (show ¬ (1 : Int32) = 0 by decide), mA26, b1_s, mG29, b1_s, q29, mY26 C, b1_s, mA27, b1_s, mG29, b1_s, nI_c (by omega), q29a, mY27 C, b1_s, mA28, b1_s, mG29, b1_s, nI_c (by omega), q29b, mY28 C, b1_s, mG29, b1_s, nI_c (by omega), q29c, mP29, b1_s]
  simp (disch := omega) only [mA1, mA5, b1_s, mX1, mX5, mI_n, q5, q1]
  rw [mtg, b1_s, y1', b2_s]
  have hN5 : Nv (tch (ltz (wav v t r p) 1 (v 1 m) (v 1 t) m 0 0 0 0 0) (v 1 t)) u4 := by
    rw [← ltz_tch, ← wav_tch]
    exact hN4
  have hu : ∀ i, u4 2 i = u1 2 i := fun i => hu4 i
  refine ⟨_, _, _, rfl, rfl, rfl, d', c3, _, u4, w, z, rfl, rfl, (hE 100 0 (f100 hF)).1, R3.uw hu (fun _ => rfl), hN5, ?_⟩
  exact ((hI1.dirty (D := fun g => g = v 1 t)).sendWait hlt h16 ht h3 h7 m1 rfl hr hr2 hp hMt).touch.uw hu
end SC
