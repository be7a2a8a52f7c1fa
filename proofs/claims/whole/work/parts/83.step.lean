def psv (v : Nu) (k y rt : Nat) : Nu := ntv (zu v 41 (8 * k + v 1 y) (if v 41 (8 * k + v 1 y) = 0 then v 30 (v 1 y) + 1 else v 41 (8 * k + v 1 y))) k y rt
section ST
variable {d d' : AD} {c c' : CH} {v v' s : Nu} {u u' : Mu} {w w' : Me} {n q z t k x h g y l rt st : Nat} {D : Nat → Prop} {L M : Nat → Bool} {rts : Nat → Nat}
/-- the reference's BACK -/
theorem s_step180 (hN : Nv s u) (hb : s 9 0 ≤ 300) (hb20 : k < 20) (h38 : s 38 k < s 9 0) (h600 : s 24 0 < 600) (h22 : s 22 (s 24 0) = 0) : ∃ u', fX11_stepped_180 q (nI k) (nI y) (nI h) (nI st) (mB q z u w) = some ((), mB q z u' w) ∧ Nv (ltz s 5 (s 1 (s 38 k)) h y 0 0 0 (k + 1) st) u' ∧ ∀ i, u' 2 i = u 2 i := by
  obtain ⟨u1, y1, hN1, hu1⟩ := s_letter2 (q := q) (z := z) (w := w) (kd := 5) (to := s 1 (s 38 k)) (fr := h) (t := y) (wt := 0) hN h600 h22
  have y1' : fX11_letter q 5 (nI (s 1 (s 38 k))) (nI h) (nI y) 0 (mB q z u w) = some (nI (s 24 0), mB q z u1 w) := y1
  have hN2 := (hN1.wr (k := 21) (i := s 24 0) (n := k + 1) (x := nI k) (by rw [dv_e rfl])).wr (k := 22) (i := s 24 0) (n := st) (x := nI st) (by rw [dv_n rfl])
  rw [ltz_21, ltz_22] at hN2
  have C := mC_n h600 (show (600 : Nat) < 2147483648 by decide)
  unfold fX11_stepped_180
  rw [mA1, b1_s, mA38, b1_s, mX38, mI_n hb20 (by decide), b1_s, hN.k38, mX1, mI_n (by omega) (by decide), b1_s, hN.k1, mtg, b1_s, y1', b2_s, mA21, b1_s, mY21 C, b1_s, mA22, b1_s, mY22 C, b1_s, nI_c (by omega)]
  refine ⟨_, rfl, hN2, fun i => ?_⟩
  rw [zu_n (by omega), zu_n (by omega)]
  exact hu1 2 i (by decide)
/-- the class's BACK -/
theorem e_step102 (R : RC d c s u w) (hl : l < s 24 0) (hk : k < s 46 0) (hy : y < s 9 0) (h38 : s 38 k < s 9 0) (h600 : s 24 0 < 600) (h15 : s 15 l = h) : ∃ d' c', fX10_arriveStep_102 (da d 100 0) (da d 4 l) (da d 5 k) (da d 1 y) (nI st) (cB d c) = some (1, cB d' c') ∧ Ex d d' ∧ RC d' c' (ltz s 5 (s 1 (s 38 k)) h y 0 0 0 (k + 1) st) u w := by
  obtain ⟨d', c', x1, hE, R1⟩ := e_fileOfWalk (kd := 5) (fr := h) (wk := k) (st := st) (t := y) R (Or.inr rfl) hy hk h38 h600
  have x1' : fX2_fileOfWalk (da d 103 0) 5 (some (da d 5 k)) (nI h) (some (da d 1 y)) (nI st) (cB d c) = some (nI (s 24 0), cB d' c') := x1
  rw [if_neg (by decide), ltv_eq] at R1
  unfold fX10_arriveStep_102
  rw [qa_100_1 R.2.1 R.2.2.1, b1_s, gl_to R hl, b1_s, qt_103 R.2.1, b1_s, h15, x1', b2_s]
  exact ⟨d', c', rfl, hE, R1⟩
theorem s_sends4 (hN : Nv v u) (hT : iT v) (hk : k < 20) (hl : l < 600) (h14 : v 14 l = 4) (h21 : v 21 l = k + 1) (hy : v 17 l < v 9 0) (h37b : v 37 k ≤ 3) (h42 : ∀ x, x < 300 → v 42 (300 * k + x) ≤ 1) (hL : ∀ x, L x = true ↔ Led v (v 17 l) x) : ∃ u', fX11_sends q (nI l) (mB q z u w) = some (nI (if v 37 k = 0 then 1 + (if v 7 (v 17 l) = 0 ∧ v 42 (300 * k + v 17 l) = 0 then fb_ct (mt1 v k L) (v 9 0) else 0) else 0), mB q z u' w) ∧ Sy u u' := by
  have r21 : u 21 l = nI k := by rw [hN.k21, h21, dv_e rfl]
  have r14 : u 14 l = nI 4 := by rw [hN.k14, h14]
  unfold fX11_sends
  simp (disch := omega) only [mA14, mA37, mA21, mA17, b1_s, mX14, mX37, mX21, mX17, mI_n, hN.k37, hN.k17, r21, r14, nI_if0]
  rw [if_neg (show ¬ nI 4 = 1 by decide), if_neg (show ¬ nI 4 = 2 by decide), if_pos (show nI 4 = 4 from rfl)]
  by_cases e : v 37 k = 0
  · obtain ⟨u1, x1, x2, -⟩ := x_gatesToMeet (q := q) (z := z) (w := w) (k := k) hN hT hk hy h42 hL
    rw [if_pos e, if_pos e, mtg, b1_s, x1, b2_s]
    refine ⟨u1, ?_, x2⟩
    have : (1 : Int32) + nI (if v 7 (v 17 l) = 0 ∧ v 42 (300 * k + v 17 l) = 0 then fb_ct (mt1 v k L) (v 9 0) else 0) = nI (1 + (if v 7 (v 17 l) = 0 ∧ v 42 (300 * k + v 17 l) = 0 then fb_ct (mt1 v k L) (v 9 0) else 0)) := nI_add 1 _
    rw [this]
  · rw [if_neg e, if_neg e]
    exact ⟨u, rfl, fun _ _ _ => rfl⟩
theorem s_deliver4 {st : Nat} (hN : Nv v u) (hL : iL v) (hT : iT v) (hl : l < v 24 0) (h23 : v 23 l = 1) (h14 : v 14 l = 4) (hst : st ≤ 301) (hs : fX11_sends q (nI l) (mB q z u w) = some (nI st, mB q z u' w)) : fX11_deliver q (nI l) (mB q z u w) = if 600 < v 24 0 + st then fX11_deliver_119 q (mB q z u' w) else fX11_deliver_126 q (nI l) (nI (v 17 l)) (nI (v 15 l)) (mB q z u' w) := by
  have hb2 := hL.1
  rw [s_deliver hN hT hL hl h23, if_neg (by omega)]
  unfold fX11_deliver_86
  rw [mG24, b1_s, hN.k24, mtg, b1_s, hs, b2_s, nI_add]
  by_cases h6 : 600 < v 24 0 + st
  · rw [if_pos h6, if_pos (show (600 : Int32) < nI (v 24 0 + st) from nI_lt (a := 600) h6 (by omega))]
  · rw [if_neg h6, if_neg (show ¬ (600 : Int32) < nI (v 24 0 + st) from nI_nlt (a := 600) (by omega) (by decide)), if_pos rfl]
theorem psv_c23 : zu (psv v k y rt) 23 l 0 = psv (zu v 23 l 0) k y rt := by
  simp only [psv, ntv]
  rw [zu_comm (a := 43) (by decide), zu_comm (a := 44) (by decide), zu_comm (a := 42) (by decide), zu_comm (a := 41) (by decide)]
  rfl
theorem psv_n {f i : Nat} (hf : ¬ (41 ≤ f ∧ f ≤ 44)) : psv v k y rt f i = v f i := by
  simp only [psv]
  rw [ntv_n (by omega), zu_n (by omega)]
theorem psv_42 {x' : Nat} (hx : x' < 300) (hy : y < 300) : psv v k y rt 42 (300 * k + x') = if x' = y then 1 else v 42 (300 * k + x') := by
  simp only [psv]
  by_cases e : x' = y
  · rw [e, ntv_at.1, if_pos rfl]
  · rw [ntv_n (by omega), zu_n (by omega), if_neg e]
theorem psv_41 {h' : Nat} : psv v k y rt 41 (8 * k + h') = if h' = v 1 y ∧ v 41 (8 * k + h') = 0 then v 30 (v 1 y) + 1 else v 41 (8 * k + h') := by
  simp only [psv]
  rw [ntv_n (by omega)]
  by_cases e : h' = v 1 y
  · rw [e, zu_s]
    by_cases e2 : v 41 (8 * k + v 1 y) = 0
    · rw [if_pos e2, if_pos ⟨rfl, e2⟩]
    · rw [if_neg e2, if_neg (fun h => e2 h.2)]
  · rw [zu_n (by omega), if_neg (fun h => e h.1)]
theorem b_step (R : RC d c v u w) (hN : Nv v u) (hI : Inv D0 n v u w) (hn : n < 512) (hl : l < v 24 0) (h23 : v 23 l = 1) (h14 : v 14 l = 4) : Dok q n l d c v u w z := by
  obtain ⟨hT, hF, hL, hW, hC, hK, hX, hS, hG, hQ, hM⟩ := id hI
  have hb := hT.1
  have hb2 := hL.1
  have hb20 := hK.1
  obtain ⟨o1, o2, o3, o4, o5, o6, o7, o8, o9, o10, o11, o12, o13, o14⟩ := hL.2.1 l hl
  obtain ⟨k, k1, k2⟩ := o13 (by omega)
  have hh : v 15 l = v 1 (v 17 l) := o10 (Or.inr (Or.inr h14))
  obtain ⟨a1, a2, a3, a4, a5, a6, a7, a8⟩ := hK.2.1 k k2
  have h42 : ∀ x, x < 300 → v 42 (300 * k + x) ≤ 1 := fun x hx => (a6 x hx).1
  obtain ⟨kk0, kk1, kk3, kk7, -⟩ := hT.k o4
  haveI := fun x => Classical.propDecidable (Led v (v 17 l) x)
  obtain ⟨L, hL'⟩ : ∃ L : Nat → Bool, ∀ x, L x = true ↔ Led v (v 17 l) x := ⟨fun x => decide (Led v (v 17 l) x), fun x => by simp⟩
  obtain ⟨u1, se1, se2⟩ := s_sends4 (q := q) (z := z) (w := w) hN hT (show k < 20 by omega) (show l < 600 by omega) h14 k1 o4 a5 h42 hL'
  have hgm : fb_ct (mt1 v k L) (v 9 0) ≤ 300 := by have := fb_ct_le (mt1 v k L) (v 9 0); omega
  have hd := s_deliver4 hN hL hT hl h23 h14 (by split <;> (try split) <;> omega) se1
  have hN1 := hN.sc se2.sc
  have hu1 : ∀ i, u1 2 i = u 2 i := fun i => se2 2 i (by decide)
  have gw : gP 0 7 (da d 4 l) (cB d c) = some (some (da d 5 k)) := by
    rw [gl_walk R hl, k1, if_neg (by omega)]
    rfl
  have hI0 := (hI.uw hu1).camew hl h23 (by omega)
  have hN0 : Nv (zu v 23 l 0) (zu u1 23 l 0) := hN1.came
  have r21 : zu u1 23 l 0 21 l = nI k := by
    show u1 21 l = _
    rw [hN1.k21, k1, dv_e rfl]
  have r17 : zu u1 23 l 0 17 l = nI (v 17 l) := hN1.k17 l
  have r37 : zu u1 23 l 0 37 k = nI (v 37 k) := hN1.k37 k
  have r15 : zu u1 23 l 0 15 l = nI (v 15 l) := hN1.k15 l
  by_cases h37 : v 37 k = 0
  rotate_left
  · -- the walk has ended
    rw [if_neg h37] at hd
    right
    refine ⟨d, c, v, zu u1 23 l 0, w, e_arr4 R hl h14 ?_ (Or.inr rfl), Ex.rfl, R.uw (fun i => hu1 i) (fun _ => rfl), hl, ?_, hN0, (hI0.up).uw (fun _ => rfl)⟩
    · unfold fX10_arriveStep
      rw [b1_s, gw, b1_s, oe_1, gk_end R k2, b1_s, if_neg (nI_ne0 (by omega) (by omega))]
      rfl
    · rw [hd, if_neg (by omega), s_126 hN1 (by omega) o1, if_neg (by omega), if_neg (by omega), if_neg (by omega), if_neg (by omega), if_pos h14, mtg, b1_s]
      unfold fX11_stepped
      rw [mA21, b1_s, mX21, mI_n (by omega) (by decide), b1_s, r21, mA17, b1_s, mX17, mI_n (by omega) (by decide), b1_s, r17, mA37, b1_s, mX37, mI_n (by omega) (by decide), b1_s, r37, if_neg (nI_ne0 (by omega) (by omega)), b2_s]
  rw [if_pos h37] at hd
  -- where the walk's first thing stands
  have hstart : (v 17 l = v 38 k) ∨ v 42 (300 * k + v 38 k) = 1 ∨ v 7 (v 38 k) = 1 := by
    rcases hX l k hl k1 h37 with h | h | h
    · exact Or.inl h.2
    · exact Or.inr (Or.inl h)
    · exact Or.inr (Or.inr h)
  have hpas : pas v k (v 17 l) = true ↔ v 42 (300 * k + v 17 l) = 1 := by
    simp [pas, o5]
  obtain ⟨u2, g1, g2, g3⟩ := x_gatesToMeet (q := q) (z := z) (w := w) (k := k) (y := v 17 l) hN0 (show iT (zu v 23 l 0) from hT) (by omega) o4 h42 hL'
  have hN2 := hN0.sc g2.sc
  have hu2 : ∀ i, u2 2 i = u 2 i := fun i => (g2 2 i (by decide)).trans (hu1 i)
  have hI2 := hI0.uw (fun i => (g2 2 i (by decide)))
  have r7 : u2 7 (v 17 l) = nI (v 7 (v 17 l)) := hN2.k7 _
  have r42 : u2 42 (300 * k + v 17 l) = nI (v 42 (300 * k + v 17 l)) := hN2.k42 _
  have stp : ∀ x11 : Nat, (if v 7 (v 17 l) = 0 ∧ v 42 (300 * k + v 17 l) = 0 then fb_ct (mt1 v k L) (v 9 0) else 0) = x11 → fX11_stepped q (nI l) (mB q z (zu u1 23 l 0) w) = (if v 7 (v 17 l) = 0 then (if v 42 (300 * k + v 17 l) = 0 then (b1 (gA 11 41 q (mB q z u2 w)) fun a19 => (b1 (xI 12 a19 ((8 * nI k) + nI (v 15 l)) (mB q z u2 w)) fun x20 => (if x20 = (-1) then (b1 (gA 11 41 q (mB q z u2 w)) fun a22 => (b1 (gA 11 30 q (mB q z u2 w)) fun a23 => (b1 (xI 12 a23 (nI (v 15 l)) (mB q z u2 w)) fun x24 => (b1 (yI a22 ((8 * nI k) + nI (v 15 l)) x24 (mB q z u2 w)) fun s25 => fX11_stepped_99 q (nI k) (nI (v 17 l)) (nI (v 15 l)) (nI x11) s25)))) else fX11_stepped_99 q (nI k) (nI (v 17 l)) (nI (v 15 l)) (nI x11) (mB q z u2 w)))) else fX11_stepped_180 q (nI k) (nI (v 17 l)) (nI (v 15 l)) (nI x11) (mB q z u2 w)) else fX11_stepped_180 q (nI k) (nI (v 17 l)) (nI (v 15 l)) (nI x11) (mB q z u2 w)) := by
    intro x11 hx
    have g1' : fX11_gatesToMeet q (nI k) (nI (v 17 l)) (mB q z (zu u1 23 l 0) w) = some (nI x11, mB q z u2 w) := by rw [← hx]; exact g1
    unfold fX11_stepped
    rw [mA21, b1_s, mX21, mI_n (by omega) (by decide), b1_s, r21, mA17, b1_s, mX17, mI_n (by omega) (by decide), b1_s, r17, mA37, b1_s, mX37, mI_n (by omega) (by decide), b1_s, r37, h37, if_pos (show nI 0 = 0 from rfl), mA15, b1_s, mX15, mI_n (by omega) (by decide), b1_s, r15, mtg, b1_s, g1', b2_s, mA7, b1_s, mX7, mI_n (by omega) (by decide), b1_s, r7, nI_if0 (by omega)]
    by_cases h7 : v 7 (v 17 l) = 0
    · rw [if_pos h7, if_pos h7, mA42, b1_s, n300, mX42, mI_n (by omega) (by decide), b1_s, r42, nI_if0 (by have := h42 (v 17 l) (by omega); omega)]
    · rw [if_neg h7, if_neg h7]
  by_cases hp : v 7 (v 17 l) = 0 ∧ v 42 (300 * k + v 17 l) = 0
  rotate_left
  · -- it is not passed now
    rw [if_neg hp] at hd
    have estep : ∀ s0 : Hz, fX10_arriveStep_42 (da d 100 0) (da d 4 l) (da d 5 k) (da d 1 (v 17 l)) s0 = fX10_arriveStep_60 (da d 100 0) (da d 4 l) (da d 5 k) (da d 1 (v 17 l)) 0 0 s0 := fun s0 => by
      unfold fX10_arriveStep_42 fX10_arriveStep_43
      rw [if_pos rfl]
    have ecl : fX10_arriveStep (da d 100 0) (some (da d 4 l)) (cB d c) = fX10_arriveStep_60 (da d 100 0) (da d 4 l) (da d 5 k) (da d 1 (v 17 l)) 0 0 (cB d c) := by
      unfold fX10_arriveStep
      rw [b1_s, gw, b1_s, oe_1, gk_end R k2, b1_s, h37, if_pos (show nI 0 = 0 from rfl), gl_aboutA R hl, b1_s, g_there R o4, b1_s, nI_if0 (by omega)]
      by_cases h7 : v 7 (v 17 l) = 0
      · have h1 : v 42 (300 * k + v 17 l) = 1 := by have := h42 (v 17 l) (by omega); omega
        rw [if_neg (by omega), gk_tg R k2, b1_s, e_hasPassed R hb k2 o4, b2_s, if_pos (hpas.mpr h1), if_neg (show ¬ (1 : Int32) = 0 by decide), estep]
      · rw [if_pos (by omega), estep]
    have e60 : fX10_arriveStep_60 (da d 100 0) (da d 4 l) (da d 5 k) (da d 1 (v 17 l)) 0 0 (cB d c) = if v 24 0 + 1 ≤ 600 then fX10_arriveStep_102 (da d 100 0) (da d 4 l) (da d 5 k) (da d 1 (v 17 l)) 0 (cB d c) else some (0, cB d c) := by
      unfold fX10_arriveStep_60
      have : fX2_hasRoom (da d 103 0) (0 + 1) (cB d c) = _ := e_room1 R hb2
      rw [qa_100_1 R.2.1 R.2.2.1, b1_s, qt_103 R.2.1, b1_s, this, b2_s]
      by_cases e : v 24 0 + 1 ≤ 600
      · rw [if_pos e, if_neg (show ¬ (1 : Int32) = 0 by decide), if_pos rfl, if_pos e]
      · rw [if_neg e, if_pos rfl, if_neg e]
        rfl
    by_cases h600 : v 24 0 = 600
    · left
      rw [if_pos (by omega)] at hd
      exact ⟨c, u1, e_arr4 R hl h14 (ecl.trans (e60.trans (if_neg (by omega)))) (Or.inl rfl), R.uw hu1 (fun _ => rfl), hN1, hu1, hd⟩
    · have hlt : v 24 0 < 600 := by omega
      rw [if_neg (by omega)] at hd
      rw [if_pos (show v 24 0 + 1 ≤ 600 by omega)] at e60
      have h22 : v 22 (v 24 0) = 0 := hL.2.2 _ (Nat.le_refl _) hlt
      obtain ⟨d', c1, x1, hE, R1⟩ := e_step102 (st := 0) R hl k2 o4 a1 hlt rfl
      have x1' : fX10_arriveStep_102 (da d 100 0) (da d 4 l) (da d 5 k) (da d 1 (v 17 l)) 0 (cB d c) = some (1, cB d' c1) := x1
      obtain ⟨u3, y1, hN3, hu3⟩ := s_step180 (s := zu v 23 l 0) (q := q) (z := z) (w := w) (y := v 17 l) (h := v 15 l) (st := 0) hN2 hb (by omega) a1 hlt h22
      have hu : ∀ i, u3 2 i = u 2 i := fun i => (hu3 i).trans (hu2 i)
      have eq : zu (ltz v 5 (v 1 (v 38 k)) (v 15 l) (v 17 l) 0 0 0 (k + 1) 0) 23 l 0 = ltz (zu v 23 l 0) 5 (v 1 (v 38 k)) (v 15 l) (v 17 l) 0 0 0 (k + 1) 0 := c23_ltz (show l ≠ v 24 0 by omega)
      have stp0 := stp 0 (if_neg hp)
      right
      refine ⟨d', c1, _, u3, w, e_arr4 R hl h14 (ecl.trans (e60.trans x1')) (Or.inr rfl), hE, R1.uw hu (fun _ => rfl), by rw [ltz_24]; omega, ?_, by rw [eq]; exact hN3, ?_⟩
      · rw [hd, s_126 hN1 (by omega) o1, if_neg (by omega), if_neg (by omega), if_neg (by omega), if_neg (by omega), if_pos h14, mtg, b1_s, stp0]
        by_cases h7 : v 7 (v 17 l) = 0
        · rw [if_pos h7, if_neg (fun h => hp ⟨h7, h⟩), y1, b2_s]
        · rw [if_neg h7, y1, b2_s]
      · rw [eq]
        refine ((hI2.wlet (kd := 5) (st := 0) hlt (Or.inr rfl) o4 o5 (hT.k a1).2.1 o2 (fun e => by omega) k2 (by decide) (fun _ => ?_)).up).uw (fun i => (hu3 i))
        right
        rcases hstart with h | h | h
        · have h7 := (hT.k o4).2.2.2.1
          have h4 := h42 (v 17 l) (by omega)
          show v 42 (300 * k + v 38 k) = 1 ∨ v 7 (v 38 k) = 1
          rw [← h]
          omega
        · exact Or.inl h
        · exact Or.inr h
  -- it is passed now
  rw [if_pos hp] at hd
  obtain ⟨h7, h420⟩ := hp
  obtain ⟨c1, m1, od1, x1, sc1, R1, hS1, hm1⟩ := e_gatesToMeet (L := L) R hT k2 o4 hL'
  have ecl : fX10_arriveStep (da d 100 0) (some (da d 4 l)) (cB d c) = fX10_arriveStep_60 (da d 100 0) (da d 4 l) (da d 5 k) (da d 1 (v 17 l)) 1 (nI (fb_ct (mt1 v k L) (v 9 0))) (cB d c1) := by
    unfold fX10_arriveStep
    rw [b1_s, gw, b1_s, oe_1, gk_end R k2, b1_s, h37, if_pos (show nI 0 = 0 from rfl), gl_aboutA R hl, b1_s, g_there R o4, b1_s, nI_if0 (by omega), if_neg (by omega), gk_tg R k2, b1_s, e_hasPassed R hb k2 o4, b2_s, if_neg (show ¬ pas v k (v 17 l) = true from fun h => by have := hpas.mp h; omega), if_pos rfl]
    unfold fX10_arriveStep_43
    rw [if_neg (show ¬ (1 : Int32) = 0 by decide), qt_100 R.2.1, b1_s, x1, b2_s]
  have hroomc : fX2_hasRoom (da d 103 0) (nI (fb_ct (mt1 v k L) (v 9 0)) + 1) (cB d c1) = some (if v 24 0 + (fb_ct (mt1 v k L) (v 9 0) + 1) ≤ 600 then 1 else 0, cB d c1) := by
    rw [nI_1]
    exact e_hasRoom R1 hb2 (by omega)
  by_cases hroom : v 24 0 + (fb_ct (mt1 v k L) (v 9 0) + 1) ≤ 600
  rotate_left
  · left
    rw [if_pos (by omega)] at hd
    refine ⟨c1, u1, e_arr4 R hl h14 (ecl.trans ?_) (Or.inl rfl), R1.uw hu1 (fun _ => rfl), hN1, hu1, hd⟩
    unfold fX10_arriveStep_60
    rw [qa_100_1 R1.2.1 R1.2.2.1, b1_s, qt_103 R1.2.1, b1_s, hroomc, b2_s, if_neg hroom, if_pos rfl]
    rfl
  rw [if_neg (by omega)] at hd
  haveI := fun x => Classical.propDecidable (Rtd v x)
  obtain ⟨rts, hrts⟩ : ∃ rts : Nat → Nat, ∀ x, rts x ≤ 1 ∧ (rts x = 1 ↔ Rtd v x) := ⟨fun x => if Rtd v x then 1 else 0, fun x => by
    by_cases e : Rtd v x
    · simp [e]
    · simp [e]⟩
  have hy300 : v 17 l < 300 := by omega
  have h30 : ∀ h, h < 8 → v 30 h ≤ n := hC.1
  -- the class
  have R1p := R1
  obtain ⟨c2, x2, R2, hs2⟩ := e_pass2 (v' := psv v k (v 17 l) (rts (v 17 l))) (cnt := v 30 (v 1 (v 17 l))) R1 hb k2 o4 o5 kk1 (by omega) (fun h hh => by have := a7 h hh; have := h30 h hh; omega) (fun f i hf => by
    simp only [psv]
    rw [ntv_n (fun hx => hf (Or.inr (Or.inr ⟨hx.1, hx.2.1, by omega, by omega⟩))), zu_n (fun hx => hf (Or.inr (Or.inl ⟨hx.1, by omega, by omega⟩)))]) (fun f hf => psv_n (by omega)) (fun h hh => psv_41) (fun i hi => psv_42 hi hy300) (fun i hi hmi => by
    simp only [psv]
    rw [ntv_n (fun hx => by
      have : i = v 17 l := by omega
      rw [this] at hmi
      simp [met, o5] at hmi), zu_n (by omega)])
  have hmetS : ∀ x, x < v 9 0 → mt1 v k L x = (L x && (v 0 x == 3 && !(met (psv v k (v 17 l) (rts (v 17 l))) k x))) := fun x hx => by
    by_cases e3 : v 0 x = 3
    · have hne : x ≠ v 17 l := fun e => o5 (by rw [← e]; exact e3)
      have : met (psv v k (v 17 l) (rts (v 17 l))) k x = met v k x := by
        simp only [met]
        rw [psv_42 (by omega) hy300, if_neg hne, psv_n (by omega)]
      rw [this]
      rfl
    · have e3' : (v 0 x == 3) = false := by simpa using e3
      simp only [mt1, e3', Bool.false_and]
  have hLt : ∀ x, L x = true → v 7 x = 0 := fun x hx => (led_there hT o4 h7 ((hL' x).mp hx)).2.1
  have hS2 : SR c2 111 (v 9 0) m1 od1 := hS1.cg (hs2 111 (by decide)) (hs2 112 (by decide)) (hs2 113 (by decide)) (Nat.le_refl _)
  obtain ⟨d3, c3, x3, hE3, R3⟩ := e_meetGates (v := v) (M := mt1 v k L) (L := L) (rts := rts) R2 hT (fun f i hf => psv_n (by omega)) k2 o4 a1 hS2 (fun x hx => by rw [(hs2 112 (by decide)).1]; exact hm1 x hx) hLt hmetS (by rw [psv_n (by decide)]; omega)
  have e24 : mlv v k (v 1 (v 17 l)) (mt1 v k L) rts (psv v k (v 17 l) (rts (v 17 l))) (v 9 0) 24 0 = v 24 0 + fb_ct (mt1 v k L) (v 9 0) := by
    rw [mlv_24, psv_n (by decide)]
  have emn : ∀ f i, ¬ (14 ≤ f ∧ f ≤ 24) ∧ ¬ (41 ≤ f ∧ f ≤ 44) → mlv v k (v 1 (v 17 l)) (mt1 v k L) rts (psv v k (v 17 l) (rts (v 17 l))) (v 9 0) f i = v f i := fun f i hf => by
    rw [mlv_n (by omega), psv_n (by omega)]
  -- letters that were there stay
  have elet : ∀ (s0 : Nu) (j : Nat), l < s0 24 0 → mlv v k (v 1 (v 17 l)) (mt1 v k L) rts s0 j 15 l = s0 15 l := by
    intro s0 j hls
    induction j with
    | zero => rfl
    | succ j ih =>
      have h24 := mlv_24 (v := v) (k := k) (h := v 1 (v 17 l)) (M := mt1 v k L) (rts := rts) (s := s0) j
      show (if mt1 v k L j = true then ltz (ntv (mlv v k (v 1 (v 17 l)) (mt1 v k L) rts s0 j) k j (rts j)) 4 (v 1 (v 5 j - 1)) (v 1 (v 17 l)) (v 5 j - 1) 0 0 0 (k + 1) 0 else mlv v k (v 1 (v 17 l)) (mt1 v k L) rts s0 j) 15 l = _
      by_cases e : mt1 v k L j = true
      · rw [if_pos e, ltz_n (v := ntv (mlv v k (v 1 (v 17 l)) (mt1 v k L) rts s0 j) k j (rts j)) (by show l ≠ mlv v k (v 1 (v 17 l)) (mt1 v k L) rts s0 j 24 0; omega) (by omega), ntv_n (by omega)]
        exact ih
      · rw [if_neg e]
        exact ih
  have h38m : mlv v k (v 1 (v 17 l)) (mt1 v k L) rts (psv v k (v 17 l) (rts (v 17 l))) (v 9 0) 38 k = v 38 k := emn 38 k (by decide)
  have h1m : mlv v k (v 1 (v 17 l)) (mt1 v k L) rts (psv v k (v 17 l) (rts (v 17 l))) (v 9 0) 1 (v 38 k) = v 1 (v 38 k) := emn 1 _ (by decide)
  have h9m : mlv v k (v 1 (v 17 l)) (mt1 v k L) rts (psv v k (v 17 l) (rts (v 17 l))) (v 9 0) 9 0 = v 9 0 := emn 9 0 (by decide)
  have h46m : mlv v k (v 1 (v 17 l)) (mt1 v k L) rts (psv v k (v 17 l) (rts (v 17 l))) (v 9 0) 46 0 = v 46 0 := emn 46 0 (by decide)
  obtain ⟨d4, c4, x4, hE4, R4⟩ := e_step102 (st := fb_ct (mt1 v k L) (v 9 0)) (l := l) (k := k) (y := v 17 l) (h := v 15 l) R3 (by rw [e24]; omega) (by rw [h46m]; exact k2) (by rw [h9m]; exact o4) (by rw [h38m, h9m]; exact a1) (by rw [e24]; omega) (by rw [elet _ _ (by rw [psv_n (by decide)]; exact hl), psv_n (by decide)])
  rw [h38m, h1m] at R4
  have h100 := (hE3 100 0 (f100 R2.2.1)).1
  have h4l := (hE3 4 l ((R2.lt (show l < psv v k (v 17 l) (rts (v 17 l)) 24 0 by rw [psv_n (by decide)]; exact hl)).1)).1
  have h5k := (hE3 5 k ((R2.kt (show k < psv v k (v 17 l) (rts (v 17 l)) 46 0 by rw [psv_n (by decide)]; exact k2)).1)).1
  have h1y := (hE3 1 (v 17 l) ((R2.t (show v 17 l < psv v k (v 17 l) (rts (v 17 l)) 9 0 by rw [psv_n (by decide)]; exact o4)).1)).1
  have ecl2 : fX10_arriveStep_60 (da d 100 0) (da d 4 l) (da d 5 k) (da d 1 (v 17 l)) 1 (nI (fb_ct (mt1 v k L) (v 9 0))) (cB d c1) = some (1, cB d4 c4) := by
    unfold fX10_arriveStep_60
    rw [qa_100_1 R1.2.1 R1.2.2.1, b1_s, qt_103 R1.2.1, b1_s, hroomc, b2_s, if_pos hroom, if_neg (show ¬ (1 : Int32) = 0 by decide), if_neg (show ¬ (1 : Int32) = 0 by decide), g_host R1 o4, b1_s, qt_100 R1.2.1, b1_s, e_countOf R1 kk1, b2_s, gk_tg R1 k2, b1_s, x2, b2_s, qt_100 R2.2.1, b1_s, x3, b2_s, ← h100, ← h4l, ← h5k, ← h1y]
    exact x4
  -- the reference
  have hIp : Inv D0 n (zu (zu v 23 l 0) 41 (8 * k + v 1 (v 17 l)) (if v 41 (8 * k + v 1 (v 17 l)) = 0 then v 30 (v 1 (v 17 l)) + 1 else v 41 (8 * k + v 1 (v 17 l)))) u2 w := by
    by_cases e : v 41 (8 * k + v 1 (v 17 l)) = 0
    · rw [if_pos e]
      exact hI2.p41 (h := v 1 (v 17 l)) k2 kk1 h37 e
    · rw [if_neg e, zu_id (show zu v 23 l 0 41 (8 * k + v 1 (v 17 l)) = v 41 (8 * k + v 1 (v 17 l)) from rfl)]
      exact hI2
  obtain ⟨u3, hN3, h41e, hu3⟩ : ∃ u3, Nv (zu (zu v 23 l 0) 41 (8 * k + v 1 (v 17 l)) (if v 41 (8 * k + v 1 (v 17 l)) = 0 then v 30 (v 1 (v 17 l)) + 1 else v 41 (8 * k + v 1 (v 17 l)))) u3 ∧ fX11_stepped q (nI l) (mB q z (zu u1 23 l 0) w) = fX11_stepped_99 q (nI k) (nI (v 17 l)) (nI (v 15 l)) (nI (fb_ct (mt1 v k L) (v 9 0))) (mB q z u3 w) ∧ (∀ f i, f ≠ 41 → u3 f i = u2 f i) := by
    have st1 := stp (fb_ct (mt1 v k L) (v 9 0)) (if_pos ⟨h7, h420⟩)
    have hix : 8 * k + v 1 (v 17 l) < 160 := by omega
    have r41 : u2 41 (8 * k + v 1 (v 17 l)) = dv 41 (v 41 (8 * k + v 1 (v 17 l))) := hN2.k41 _
    have r30 : u2 30 (v 1 (v 17 l)) = nI (v 30 (v 1 (v 17 l))) := hN2.k30 _
    have hb41 : v 41 (8 * k + v 1 (v 17 l)) ≤ 2147483648 := by have := a7 _ kk1; have := h30 _ kk1; omega
    rw [if_pos h7, if_pos h420, hh, n8, mA41, b1_s, mX41, mI_n hix (by decide), b1_s, r41, dv_if rfl hb41] at st1
    by_cases e : v 41 (8 * k + v 1 (v 17 l)) = 0
    · rw [if_pos e, b1_s, mA30, b1_s, mX30, mI_n kk1 (by decide), b1_s, r30, mY41 (mC_n hix (by decide)), b1_s, nI_c (by omega)] at st1
      rw [if_pos e]
      refine ⟨_, hN2.wr (by rw [dv_e rfl]), by rw [hh]; exact st1, fun f i hf => zu_n (by omega)⟩
    · rw [if_neg e] at st1
      rw [if_neg e, zu_id (show zu v 23 l 0 41 (8 * k + v 1 (v 17 l)) = v 41 (8 * k + v 1 (v 17 l)) from rfl)]
      exact ⟨u2, hN2, by rw [hh]; exact st1, fun _ _ _ => rfl⟩
  have h41ne : zu (zu v 23 l 0) 41 (8 * k + v 1 (v 17 l)) (if v 41 (8 * k + v 1 (v 17 l)) = 0 then v 30 (v 1 (v 17 l)) + 1 else v 41 (8 * k + v 1 (v 17 l))) 41 (8 * k + v 1 (v 17 l)) ≠ 0 := by
    rw [zu_s]
    split <;> omega
  obtain ⟨u4, w4, rt, y4, hN4, hu4, hrt1, hrt2, hw1, hw2, hw3⟩ := x_note (q := q) (z := z) (w := w) (k := k) (x := v 17 l) hN3 (show iT (zu (zu v 23 l 0) 41 (8 * k + v 1 (v 17 l)) (if v 41 (8 * k + v 1 (v 17 l)) = 0 then v 30 (v 1 (v 17 l)) + 1 else v 41 (8 * k + v 1 (v 17 l)))) from hT) (show iW (zu (zu v 23 l 0) 41 (8 * k + v 1 (v 17 l)) (if v 41 (8 * k + v 1 (v 17 l)) = 0 then v 30 (v 1 (v 17 l)) + 1 else v 41 (8 * k + v 1 (v 17 l)))) from hW) o4 (by omega) (fun j hj => hK.2.2.2 k (v 17 l) j (by omega) hy300 hj h420)
  have hrr : rt = rts (v 17 l) := by
    have e1 : rt = 1 ↔ Rtd v (v 17 l) := hrt2
    obtain ⟨c1, c2⟩ := hrts (v 17 l)
    by_cases hR : Rtd v (v 17 l)
    · rw [e1.mpr hR, c2.mpr hR]
    · have b1 : rt ≠ 1 := fun e => hR (e1.mp e)
      have b2 : rts (v 17 l) ≠ 1 := fun e => hR (c2.mp e)
      omega
  subst hrr
  have hIn : Inv D0 n (psv (zu v 23 l 0) k (v 17 l) (rts (v 17 l))) u2 w4 := hIp.note k2 o4 h7 h37 h420 h41ne hrt1 hrt2 hw2 hw3
  have hu42 : ∀ i, u4 2 i = u2 2 i := fun i => (hu4 2 i (Or.inl rfl)).trans (hu3 2 i (by decide))
  have hN4' : Nv (psv (zu v 23 l 0) k (v 17 l) (rts (v 17 l))) u4 := hN4
  have h48 : ∀ x, x < v 9 0 → u4 48 x = if mt1 v k L x = true then 1 else 0 := fun x hx => by
    rw [hu4 48 x (Or.inr rfl), hu3 48 x (by decide)]
    exact g3 ⟨h7, h420⟩ x hx
  have hMx : ∀ x, x < v 9 0 → mt1 v k L x = true → v 0 x = 3 ∧ v 7 x = 0 ∧ v 1 x = v 1 (v 17 l) ∧ psv (zu v 23 l 0) k (v 17 l) (rts (v 17 l)) 42 (300 * k + x) = 0 := fun x hx hm => by
    simp only [mt1, Bool.and_eq_true, beq_iff_eq, Bool.not_eq_true'] at hm
    obtain ⟨m1', m2, m3⟩ := hm
    obtain ⟨-, l2, l3⟩ := led_there hT o4 h7 ((hL' x).mp m1')
    refine ⟨m2, l2, l3, ?_⟩
    have hne : x ≠ v 17 l := fun e => o5 (by rw [← e]; exact m2)
    rw [psv_42 (by omega) hy300, if_neg hne]
    have h4 := h42 x (by omega)
    have : v 42 (300 * k + x) ≠ 1 := fun e => by
      have : met v k x = true := by simp [met, e, m2]
      rw [this] at m3
      cases m3
    show v 42 (300 * k + x) = 0
    omega
  have hst0 : psv (zu v 23 l 0) k (v 17 l) (rts (v 17 l)) 42 (300 * k + v 38 k) = 1 ∨ v 7 (v 38 k) = 1 := by
    rw [psv_42 (by omega) hy300]
    rcases hstart with h | h | h
    · left
      rw [if_pos h.symm]
    · left
      split
      · rfl
      · exact h
    · exact Or.inr h
  have p24 : psv (zu v 23 l 0) k (v 17 l) (rts (v 17 l)) 24 0 = v 24 0 := psv_n (by decide)
  obtain ⟨u5, w5, y5, hN5, hI5, hu5, hw5⟩ := s_step108 (q := q) (z := z) (x11 := nI (fb_ct (mt1 v k L) (v 9 0))) (rts := rts) (M := mt1 v k L) hN4' (hIn.uw hu42) hT (fun f i hf => by rw [psv_n (by omega)]; exact zu_n (by omega)) k2 o4 h37 (by rw [psv, ntv_n (by omega)]; exact h41ne) h48 hMx hst0 (by omega) hrts (by rw [p24]; omega)
  obtain ⟨S, hS⟩ : ∃ S, mlv v k (v 1 (v 17 l)) (mt1 v k L) rts (psv (zu v 23 l 0) k (v 17 l) (rts (v 17 l))) (v 9 0) = S := ⟨_, rfl⟩
  have eS : zu (mlv v k (v 1 (v 17 l)) (mt1 v k L) rts (psv v k (v 17 l) (rts (v 17 l))) (v 9 0)) 23 l 0 = S := by
    rw [mlv_c23 _ (by rw [psv_n (by decide)]; exact hl), psv_c23, hS]
  have Sn : ∀ f i, ¬ (14 ≤ f ∧ f ≤ 24) ∧ ¬ (41 ≤ f ∧ f ≤ 44) → S f i = v f i := fun f i hf => by
    rw [← hS, mlv_n (by omega), psv_n (by omega)]
    exact zu_n (by omega)
  have S24 : S 24 0 = v 24 0 + fb_ct (mt1 v k L) (v 9 0) := by rw [← hS, mlv_24, p24]
  have S42 : S 42 (300 * k + v 38 k) = 1 ∨ v 7 (v 38 k) = 1 := by
    rcases hst0 with h | h
    · left
      rw [← hS, mlv_42 (by omega) _ (by omega)]
      split
      · rfl
      · exact h
    · exact Or.inr h
  rw [hS] at hN5 hI5
  have S9 : S 9 0 = v 9 0 := Sn 9 0 (by decide)
  have S46 : S 46 0 = v 46 0 := Sn 46 0 (by decide)
  have S38 : S 38 k = v 38 k := Sn 38 k (by decide)
  have S600 : S 24 0 < 600 := by omega
  have S22 : S 22 (S 24 0) = 0 := hI5.2.2.1.2.2 _ (Nat.le_refl _) S600
  obtain ⟨u6, y6, hN6, hu6⟩ := s_step180 (s := S) (q := q) (z := z) (w := w5) (k := k) (y := v 17 l) (h := v 15 l) (st := fb_ct (mt1 v k L) (v 9 0)) hN5 (by rw [S9]; exact hb) (by omega) (by rw [S38, S9]; exact a1) S600 S22
  have S1 : S 1 (v 38 k) = v 1 (v 38 k) := Sn 1 _ (by decide)
  rw [S38, S1] at hN6
  have eq : zu (ltz (mlv v k (v 1 (v 17 l)) (mt1 v k L) rts (psv v k (v 17 l) (rts (v 17 l))) (v 9 0)) 5 (v 1 (v 38 k)) (v 15 l) (v 17 l) 0 0 0 (k + 1) (fb_ct (mt1 v k L) (v 9 0))) 23 l 0 = ltz S 5 (v 1 (v 38 k)) (v 15 l) (v 17 l) 0 0 0 (k + 1) (fb_ct (mt1 v k L) (v 9 0)) := by
    rw [c23_ltz (by rw [e24]; omega), eS]
  have hu : ∀ i, u6 2 i = u 2 i := fun i => (hu6 i).trans ((hu5 i).trans ((hu42 i).trans (hu2 i)))
  have hw : ∀ i, w5 13 i = w 13 i := fun i => (hw5 i).trans (hw1 13 i (by decide))
  right
  refine ⟨d4, c4, _, u6, w5, e_arr4 R hl h14 (ecl.trans ecl2) (Or.inr rfl), hE3.trans hE4, R4.uw hu hw, by rw [ltz_24, e24]; omega, ?_, by rw [eq]; exact hN6, ?_⟩
  · rw [hd, s_126 hN1 (by omega) o1, if_neg (by omega), if_neg (by omega), if_neg (by omega), if_neg (by omega), if_pos h14, mtg, b1_s, h41e]
    unfold fX11_stepped_99
    rw [mtg, b1_s, y4, b2_s, hh]
    have y5' := y5
    have y6' := y6
    rw [hh] at y6'
    rw [show fX11_stepped_108 100000 q (nI k) (nI (v 17 l)) (nI (v 1 (v 17 l))) (nI (fb_ct (mt1 v k L) (v 9 0))) 0 (mB q z u4 w4) = _ from y5', y6', b2_s]
  · rw [eq]
    refine ((hI5.wlet (kd := 5) (to := v 1 (v 38 k)) (fr := v 15 l) (t := v 17 l) (k := k) (st := fb_ct (mt1 v k L) (v 9 0)) S600 (Or.inr rfl) (by rw [S9]; exact o4) (by rw [Sn 0 _ (by decide)]; exact o5) (hT.k a1).2.1 o2 (fun e => by omega) (by rw [S46]; exact k2) hgm (fun _ => ?_)).up).uw (fun i => hu6 i)
    right
    rw [S38, Sn 7 _ (by decide)]
    exact S42
end ST
