/-- a letter that is under way is delivered: both do the same -/
def Dok (q n l : Nat) (d : AD) (c : CH) (v : Nu) (u : Mu) (w : Me) (z : Nat) : Prop :=
  (∃ c' u', fX10_arrive (da d 100 0) (some (da d 4 l)) (cB d c) = some (0, cB d c') ∧ RC d c' v u' w ∧ Nv v u' ∧ (∀ i, u' 2 i = u 2 i) ∧ fX11_deliver q (nI l) (mB q z u w) = fX11_deliver_119 q (mB q z u' w)) ∨
  (∃ d' c' v1 u' w', fX10_arrive (da d 100 0) (some (da d 4 l)) (cB d c) = some (1, cB d' c') ∧ Ex d d' ∧ RC d' c' v1 u' w' ∧ l < v1 24 0 ∧ fX11_deliver q (nI l) (mB q z u w) = some (1, mB q z u' w') ∧ Nv (zu v1 23 l 0) u' ∧ Inv D0 (n + 1) (zu v1 23 l 0) u' w')
section DL
variable {d d' : AD} {c c' : CH} {v v' : Nu} {u u' : Mu} {w w' : Me} {n q z m r t p k l b0 g wt x h : Nat} {D : Nat → Prop} {s : Hz} {a : Int32}
theorem rz_ok (ha : a = 0 ∨ a = 1) : rz a s = some (a, s) := if_pos ha
theorem e_arr0 (R : RC d c v u w) (hl : l < v 24 0) (h : v 14 l = 0) (hx : fX10_arriveName (da d 100 0) (some (da d 4 l)) (cB d c) = some (a, s)) (ha : a = 0 ∨ a = 1) : fX10_arrive (da d 100 0) (some (da d 4 l)) (cB d c) = some (a, s) := by
  unfold fX10_arrive
  rw [b1_s, gl_kind R hl, b1_s, h, if_pos (show nI 0 = 0 from rfl), qt_100 R.2.1, b1_s, hx, b2_s, rz_ok ha]
theorem e_arr1 (R : RC d c v u w) (hl : l < v 24 0) (h : v 14 l = 1) (hx : fX10_arriveMore (da d 100 0) (some (da d 4 l)) (cB d c) = some (a, s)) (ha : a = 0 ∨ a = 1) : fX10_arrive (da d 100 0) (some (da d 4 l)) (cB d c) = some (a, s) := by
  unfold fX10_arrive
  rw [b1_s, gl_kind R hl, b1_s, h, if_neg (show ¬ nI 1 = 0 by decide), if_pos (show nI 1 = 1 from rfl), qt_100 R.2.1, b1_s, hx, b2_s, rz_ok ha]
theorem e_arr2 (R : RC d c v u w) (hl : l < v 24 0) (h : v 14 l = 2) (hx : fX10_arriveGive (da d 100 0) (some (da d 4 l)) (cB d c) = some (a, s)) (ha : a = 0 ∨ a = 1) : fX10_arrive (da d 100 0) (some (da d 4 l)) (cB d c) = some (a, s) := by
  unfold fX10_arrive
  rw [b1_s, gl_kind R hl, b1_s, h, if_neg (show ¬ nI 2 = 0 by decide), if_neg (show ¬ nI 2 = 1 by decide), if_pos (show nI 2 = 2 from rfl), qt_100 R.2.1, b1_s, hx, b2_s, rz_ok ha]
theorem e_arr3 (R : RC d c v u w) (hl : l < v 24 0) (h : v 14 l = 3) (hx : fX10_arriveHome (da d 100 0) (some (da d 4 l)) (cB d c) = some (a, s)) (ha : a = 0 ∨ a = 1) : fX10_arrive (da d 100 0) (some (da d 4 l)) (cB d c) = some (a, s) := by
  unfold fX10_arrive
  rw [b1_s, gl_kind R hl, b1_s, h, if_neg (show ¬ nI 3 = 0 by decide), if_neg (show ¬ nI 3 = 1 by decide), if_neg (show ¬ nI 3 = 2 by decide), if_pos (show nI 3 = 3 from rfl), qt_100 R.2.1, b1_s, hx, b2_s, rz_ok ha]
theorem e_arr4 (R : RC d c v u w) (hl : l < v 24 0) (h : v 14 l = 4) (hx : fX10_arriveStep (da d 100 0) (some (da d 4 l)) (cB d c) = some (a, s)) (ha : a = 0 ∨ a = 1) : fX10_arrive (da d 100 0) (some (da d 4 l)) (cB d c) = some (a, s) := by
  unfold fX10_arrive
  rw [b1_s, gl_kind R hl, b1_s, h, if_neg (show ¬ nI 4 = 0 by decide), if_neg (show ¬ nI 4 = 1 by decide), if_neg (show ¬ nI 4 = 2 by decide), if_neg (show ¬ nI 4 = 3 by decide), if_pos (show nI 4 = 4 from rfl), qt_100 R.2.1, b1_s, hx, b2_s, rz_ok ha]
theorem e_arr5 (R : RC d c v u w) (hl : l < v 24 0) (h : v 14 l = 5) (hx : fX10_arriveBack (da d 100 0) (some (da d 4 l)) (cB d c) = some (a, s)) (ha : a = 0 ∨ a = 1) : fX10_arrive (da d 100 0) (some (da d 4 l)) (cB d c) = some (a, s) := by
  unfold fX10_arrive
  rw [b1_s, gl_kind R hl, b1_s, h, if_neg (show ¬ nI 5 = 0 by decide), if_neg (show ¬ nI 5 = 1 by decide), if_neg (show ¬ nI 5 = 2 by decide), if_neg (show ¬ nI 5 = 3 by decide), if_neg (show ¬ nI 5 = 4 by decide), qt_100 R.2.1, b1_s, hx, b2_s, rz_ok ha]
/-- the reference takes the letter from those under way -/
theorem Nv.came (hN : Nv v u) : Nv (zu v 23 l 0) (zu u 23 l 0) := hN.wr (by rw [dv_n rfl]; rfl)
theorem s_126 (hN : Nv v u) (hl : l < 600) (h5 : v 14 l ≤ 5) : fX11_deliver_126 q (nI l) (nI t) (nI h) (mB q z u w) = (if v 14 l = 0 then (b1 (tg 11 q (mB q z (zu u 23 l 0) w)) fun _ => (b2 (fX11_named q (nI l) (nI t) (nI h) (mB q z (zu u 23 l 0) w)) fun _ s8 => (b1 (gA 11 30 q s8) fun a9 => (b1 (xI 12 a9 (nI h) s8) fun x10 => (b1 (yI a9 (nI h) (x10 + 1) s8) fun s11 => some (1, s11)))))) else if v 14 l = 1 then (b1 (gA 11 4 q (mB q z (zu u 23 l 0) w)) fun a13 => (b1 (xI 12 a13 (nI t) (mB q z (zu u 23 l 0) w)) fun x14 => (b1 (yI a13 (nI t) (x14 + 64) (mB q z (zu u 23 l 0) w)) fun s15 => (b1 (gA 11 16 q s15) fun a16 => (b1 (xI 12 a16 (nI l) s15) fun x17 => (b1 (tg 11 q s15) fun _ => (b2 (fX11_letter q 2 x17 (nI h) (nI t) 64 s15) fun x19 s20 => (b1 (gA 11 30 q s20) fun a21 => (b1 (xI 12 a21 (nI h) s20) fun x22 => (b1 (yI a21 (nI h) (x22 + 1) s20) fun s23 => some (1, s23))))))))))) else if v 14 l = 2 then (b1 (tg 11 q (mB q z (zu u 23 l 0) w)) fun _ => (b2 (fX11_given q (nI t) (nI h) (mB q z (zu u 23 l 0) w)) fun _ s27 => (b1 (gA 11 30 q s27) fun a28 => (b1 (xI 12 a28 (nI h) s27) fun x29 => (b1 (yI a28 (nI h) (x29 + 1) s27) fun s30 => some (1, s30)))))) else if v 14 l = 3 then (b1 (gA 11 18 q (mB q z (zu u 23 l 0) w)) fun a32 => (b1 (xI 12 a32 (nI l) (mB q z (zu u 23 l 0) w)) fun x33 => (b1 (tg 11 q (mB q z (zu u 23 l 0) w)) fun _ => (b2 (fX11_takes q (nI t) x33 (mB q z (zu u 23 l 0) w)) fun _ s36 => (b1 (gA 11 30 q s36) fun a37 => (b1 (xI 12 a37 (nI h) s36) fun x38 => (b1 (yI a37 (nI h) (x38 + 1) s36) fun s39 => some (1, s39)))))))) else if v 14 l = 4 then (b1 (tg 11 q (mB q z (zu u 23 l 0) w)) fun _ => (b2 (fX11_stepped q (nI l) (mB q z (zu u 23 l 0) w)) fun _ s43 => some (1, s43))) else (b1 (tg 11 q (mB q z (zu u 23 l 0) w)) fun _ => (b2 (fX11_backs q (nI l) (mB q z (zu u 23 l 0) w)) fun _ s46 => some (1, s46)))) := by
  have e14 : zu u 23 l 0 14 l = nI (v 14 l) := hN.k14 l
  unfold fX11_deliver_126
  rw [mA23, b1_s, mY23 (mC_n hl (by decide)), b1_s, nI_c (by omega), nar0, mA14, b1_s, mX14, mI_n hl (by decide), b1_s, e14, nI_if0 (by omega), nI_if1 (by omega), nI_if2 (by omega), nI_if3 (by omega), show (if nI (v 14 l) = 4 then (b1 (tg 11 q (mB q z (zu u 23 l 0) w)) fun _ => (b2 (fX11_stepped q (nI l) (mB q z (zu u 23 l 0) w)) fun _ s43 => some ((1 : Int32), s43))) else (b1 (tg 11 q (mB q z (zu u 23 l 0) w)) fun _ => (b2 (fX11_backs q (nI l) (mB q z (zu u 23 l 0) w)) fun _ s46 => some (1, s46)))) = _ from nI_ifeq (b := 4) (by omega) (by decide)]
/-- the reference's count, at its end -/
theorem s_cnt2 (hN : Nv v u) (h8 : h < 8) : ∃ u', (b1 (gA 11 30 q (mB q z u w)) fun a9 => (b1 (xI 12 a9 (nI h) (mB q z u w)) fun x10 => (b1 (yI a9 (nI h) (x10 + 1) (mB q z u w)) fun s11 => some ((1 : Int32), s11)))) = some (1, mB q z u' w) ∧ Nv (tch v h) u' ∧ ∀ i, u' 2 i = u 2 i := by
  obtain ⟨w1, w2, hN1⟩ := hN.touch (q := q) (z := z) (w := w) h8
  rw [mA30, b1_s, w1, b1_s, w2, b1_s]
  exact ⟨_, rfl, hN1, fun _ => rfl⟩
theorem b_home (R : RC d c v u w) (hN : Nv v u) (hI : Inv D0 n v u w) (hl : l < v 24 0) (h23 : v 23 l = 1) (h14 : v 14 l = 3) : Dok q n l d c v u w z := by
  have hT := hI.1
  have hL := hI.2.2.1
  have hb2 := hL.1
  obtain ⟨o1, o2, o3, o4, o5, o6, o7, o8, o9, o10, -⟩ := hL.2.1 l hl
  have hge := lsum_ge hl h23
  have hs0 := (hI.2.2.2.2.2.2.2.1 _ o4 o5).1
  have hh := o10 (Or.inr (Or.inl h14))
  obtain ⟨c1, e1, R1⟩ := e_arriveHome R hT hl o4 (by omega) o2
  have hN0 := hN.came (l := l)
  obtain ⟨u1, y1, hN1, hu1⟩ := s_takes (v := zu v 23 l 0) (q := q) (z := z) (w := w) (t := v 17 l) (wt := v 18 l) hN0 hT o4 (show v 18 l ≤ v 4 (v 17 l) by omega)
  obtain ⟨u2, y2, hN2, hu2⟩ := s_cnt2 (q := q) (z := z) (w := w) hN1 o2
  have eq : zu (tch (tkv v (v 17 l) (v 18 l)) (v 15 l)) 23 l 0 = tch (tkv (zu v 23 l 0) (v 17 l) (v 18 l)) (v 15 l) := by
    rw [zu_tch (by decide), c23_tkv]
  have hu : ∀ i, u2 2 i = u 2 i := fun i => (hu2 i).trans (hu1 i)
  right
  refine ⟨d, c1, _, u2, w, e_arr3 R hl h14 e1 (Or.inr rfl), Ex.rfl, R1.uw hu (fun _ => rfl), hl, ?_, ?_, ?_⟩
  · have q18 : zu u 23 l 0 18 l = nI (v 18 l) := hN.k18 l
    rw [s_deliver hN hT hL hl h23, if_neg (by omega)]
    have := s_deliver86 (q := q) (z := z) (w := w) (t := v 17 l) (h := v 15 l) (f := 0) hN hT hL hl (by omega) (by decide)
    rw [if_neg (by rw [if_neg (by omega)]; omega)] at this
    refine Eq.trans this ?_
    rw [s_126 hN (by omega) o1, if_neg (by omega), if_neg (by omega), if_neg (by omega), if_pos h14, mA18, b1_s, mX18, mI_n (by omega) (by decide), b1_s, q18, mtg, b1_s, y1, b2_s, y2]
  · rw [eq]
    exact hN2
  · rw [eq, hh]
    exact (((hI.dirty (D := fun g => g = v 1 (v 17 l))).takes hl h23 (Or.inr h14) rfl).touch).uw hu
theorem b_more (R : RC d c v u w) (hN : Nv v u) (hI : Inv D0 n v u w) (hn : n < 512) (hl : l < v 24 0) (h23 : v 23 l = 1) (h14 : v 14 l = 1) : Dok q n l d c v u w z := by
  have hT := hI.1
  have hL := hI.2.2.1
  have hb := hT.1
  have hb2 := hL.1
  obtain ⟨o1, o2, o3, o4, o5, o6, o7, o8, o9, o10, -⟩ := hL.2.1 l hl
  have hh := o10 (Or.inl h14)
  have hd := s_deliver86 (q := q) (z := z) (w := w) (t := v 17 l) (h := v 15 l) (f := 0) hN hT hL hl (by omega) (by decide)
  have hd2 := s_deliver (q := q) (z := z) (w := w) hN hT hL hl h23
  rw [if_neg (by omega)] at hd2
  rw [if_pos (Or.inl h14)] at hd
  by_cases h600 : v 24 0 = 600
  · left
    rw [if_pos (by omega)] at hd
    exact ⟨c, u, e_arr1 R hl h14 (e_arriveMore0 R h600) (Or.inl rfl), R, hN, fun _ => rfl, hd2.trans hd⟩
  · have hlt : v 24 0 < 600 := by omega
    have h22 : v 22 (v 24 0) = 0 := hL.2.2 _ (Nat.le_refl _) hlt
    rw [if_neg (by omega)] at hd
    obtain ⟨d', c1, e1, hE, R1⟩ := e_arriveMore R hT hlt hl o4 o2
    have hN1 : Nv (zu (zu v 23 l 0) 4 (v 17 l) (v 4 (v 17 l) + 64)) (zu (zu u 23 l 0) 4 (v 17 l) (nI (v 4 (v 17 l) + 64))) := (hN.came (l := l)).wr (by rw [dv_n rfl])
    obtain ⟨u1, y1, hN2, hu1⟩ := s_letter (q := q) (z := z) (w := w) (kd := 2) (to := v 16 l) (fr := v 15 l) (t := v 17 l) (wt := 64) hN1 hlt h22
    have y1' : fX11_letter q 2 (nI (v 16 l)) (nI (v 15 l)) (nI (v 17 l)) 64 (mB q z (zu (zu u 23 l 0) 4 (v 17 l) (nI (v 4 (v 17 l) + 64))) w) = some (nI (v 24 0), mB q z u1 w) := y1
    obtain ⟨u2, y2, hN3, hu2⟩ := s_cnt2 (q := q) (z := z) (w := w) hN2 o2
    have eq : zu (tch (ltz (zu v 4 (v 17 l) (v 4 (v 17 l) + 64)) 2 (v 16 l) (v 15 l) (v 17 l) 64 0 0 0 0) (v 15 l)) 23 l 0 = tch (ltz (zu (zu v 23 l 0) 4 (v 17 l) (v 4 (v 17 l) + 64)) 2 (v 16 l) (v 15 l) (v 17 l) 64 0 0 0 0) (v 15 l) := by
      rw [zu_tch (by decide), c23_ltz (v := zu v 4 (v 17 l) (v 4 (v 17 l) + 64)) (show l ≠ v 24 0 by omega), zu_comm (a := 4) (by decide)]
    have hu : ∀ i, u2 2 i = u 2 i := fun i => (hu2 i).trans (hu1 i)
    right
    refine ⟨d', c1, _, u2, w, e_arr1 R hl h14 e1 (Or.inr rfl), hE, R1.uw hu (fun _ => rfl), ?_, ?_, ?_, ?_⟩
    · show l < ltz (zu v 4 (v 17 l) (v 4 (v 17 l) + 64)) 2 (v 16 l) (v 15 l) (v 17 l) 64 0 0 0 0 24 0
      rw [ltz_24]
      show l < v 24 0 + 1
      omega
    · refine hd2.trans (hd.trans ?_)
      have q4 : zu u 23 l 0 4 (v 17 l) = nI (v 4 (v 17 l)) := hN.k4 _
      have q16 : zu (zu u 23 l 0) 4 (v 17 l) (nI (v 4 (v 17 l) + 64)) 16 l = nI (v 16 l) := hN.k16 l
      have e64 : nI (v 4 (v 17 l)) + 64 = nI (v 4 (v 17 l) + 64) := nI_add _ 64
      rw [s_126 hN (by omega) o1, if_neg (by omega), if_pos h14, mA4, b1_s, mX4, mI_n (by omega) (by decide), b1_s, q4, e64, mY4 (mC_n (by omega) (by decide)), b1_s, nI_c (by omega), mA16, b1_s, mX16, mI_n (by omega) (by decide), b1_s, q16, mtg, b1_s, y1', b2_s, y2]
    · rw [eq]
      exact hN3
    · rw [eq]
      have h1 := (hI.dirty (D := fun g => g = v 1 (v 17 l))).more hn hlt hl h23 h14 rfl
      have h2 := h1.touch1 hI.2.2.2.2.1.1
      rw [← hh] at h2
      exact h2.uw hu
theorem b_name (R : RC d c v u w) (hN : Nv v u) (hI : Inv D0 n v u w) (hl : l < v 24 0) (h23 : v 23 l = 1) (h14 : v 14 l = 0) : Dok q n l d c v u w z := by
  obtain ⟨hT, hF, hL, hW, hC, hK, hX, hS, hG, hQ, hM⟩ := id hI
  have hb := hT.1
  have hb2 := hL.1
  obtain ⟨o1, o2, o3, o4, o5, o6, o7, o8, -⟩ := hL.2.1 l hl
  obtain ⟨r, p, r1, r2, r3, r4, r5, r6, r7⟩ := o8 h14
  have hge := lsum_ge hl h23
  have hs0 := (hS _ o4 o5).1
  have k4 := (hT.k o4).2.2.2.2.2.1
  have hMt : Mt v (v 17 l) := Cl.base (Or.inr (Or.inl ⟨l, hl, h23, h14, rfl⟩))
  have hMf := hM.from hMt
  have hr7 := hT.rt r3 r4
  have hN0 := hN.came (l := l)
  have hd2 := s_deliver (q := q) (z := z) (w := w) hN hT hL hl h23
  by_cases hh : v 1 (v 17 l) = v 15 l
  · -- at its own HOST
    rw [if_neg (fun h => h.2.1 hh)] at hd2
    have hd := s_deliver86 (q := q) (z := z) (w := w) (t := v 17 l) (h := v 15 l) (f := 0) hN hT hL hl (by omega) (by decide)
    rw [if_neg (by rw [if_neg (by omega)]; omega)] at hd
    obtain ⟨c1, e1, R1⟩ := e_nameOwn R hT hl r1 r2 r3 r6 o4 o5 (by omega) o2 hh.symm
    obtain ⟨u1, y1, hN1, hu1⟩ := s_nameOwn (v := zu v 23 l 0) (q := q) (z := z) (w := w) (t := v 17 l) (h := v 15 l) hN0 hT (show l < 600 by omega) r1 r2 r3 r6 o4 o5 (show v 18 l ≤ v 4 (v 17 l) by omega) hh
    obtain ⟨u2, y2, hN2, hu2⟩ := s_cnt2 (q := q) (z := z) (w := w) hN1 o2
    have eq : zu (tch (plc (tkv v (v 17 l) (v 18 l)) r p 1 (v 17 l) (v 12 (8 * r + p))) (v 15 l)) 23 l 0 = tch (plc (tkv (zu v 23 l 0) (v 17 l) (v 18 l)) r p 1 (v 17 l) (v 12 (8 * r + p))) (v 15 l) := by
      rw [zu_tch (by decide), c23_plc, c23_tkv]
    have hu : ∀ i, u2 2 i = u 2 i := fun i => (hu2 i).trans (hu1 i)
    right
    refine ⟨d, c1, _, u2, w, e_arr0 R hl h14 e1 (Or.inr rfl), Ex.rfl, R1.uw hu (fun _ => rfl), hl, ?_, ?_, ?_⟩
    · refine hd2.trans (hd.trans ?_)
      rw [s_126 hN (by omega) o1, if_pos h14, mtg, b1_s, y1, b2_s, y2]
    · rw [eq]
      exact hN2
    · rw [eq]
      have h1 := (hI.dirty (D := fun g => g = v 15 l)).takes hl h23 (Or.inl h14) hh
      refine ((h1.atPl (t := r) (p := p) (a := 1) (b := v 17 l) (e := v 12 (8 * r + p)) r3 r6 hr7 r5 (by decide) (fun _ => ⟨o4, by show v 1 (v 17 l) = v 1 r; rw [hh, r5], (hMf _ (Cl.base rfl)).1, fun x hx => ?_⟩) (fun e => by omega)).touch).uw hu
      obtain ⟨m7, m8⟩ := hMf x hx
      refine ⟨m7, ?_⟩
      by_cases ex : x = v 17 l
      · rw [ex]
        have e8 : tkv (zu v 23 l 0) (v 17 l) (v 18 l) 8 (v 17 l) = (if v 4 (v 17 l) - v 18 l = 0 then 0 else v 8 (v 17 l)) := tkv_8
        rw [ex] at m8
        rw [e8, m8]
        split <;> rfl
      · rw [tkv_n (Or.inl ex)]
        exact m8
  · by_cases hg : gfi v (nI (v 15 l)) (v 17 l) < v 9 0
    · -- there is a GATE
      rw [if_neg (fun h => h.2.2 hg)] at hd2
      have hd := s_deliver86 (q := q) (z := z) (w := w) (t := v 17 l) (h := v 15 l) (f := 0) hN hT hL hl (by omega) (by decide)
      rw [if_neg (by rw [if_neg (by omega)]; omega)] at hd
      obtain ⟨g7, g3, g1, g5⟩ := gp_iff.mp (fa_first_yes (gp v (nI (v 15 l)) (v 17 l)) (v 9 0) hg)
      obtain ⟨gg, hgg⟩ : ∃ gg, gfi v (nI (v 15 l)) (v 17 l) = gg := ⟨_, rfl⟩
      have hgg' : fa_first (gp v (nI (v 15 l)) (v 17 l)) (v 9 0) = gg := hgg
      rw [hgg'] at g7 g3 g1 g5
      rw [hgg] at hg
      have g1' : v 1 gg = v 15 l := (nI_eq (by have := (hT.k hg).2.1; omega) (by omega)).mp g1
      have gge := gsum_ge hg g7 g3 g5
      obtain ⟨c1, e1, R1⟩ := e_nameGate R hT hl r1 r2 r3 r6 o4 o2 (fun e => hh e.symm) hgg hg g3 (by omega)
      obtain ⟨u1, y1, hN1, hu1⟩ := s_nameGate (v := zu v 23 l 0) (q := q) (z := z) (w := w) (t := v 17 l) (h := v 15 l) hN0 hT (show l < 600 by omega) r1 r2 r3 r6 o4 o2 hh hgg hg g3 (show v 6 gg + v 18 l ≤ 40000 by omega)
      obtain ⟨u2, y2, hN2, hu2⟩ := s_cnt2 (q := q) (z := z) (w := w) hN1 o2
      have eq : zu (tch (plc (zu v 6 gg (v 6 gg + v 18 l)) r p 1 gg (v 12 (8 * r + p))) (v 15 l)) 23 l 0 = tch (plc (zu (zu v 23 l 0) 6 gg (v 6 gg + v 18 l)) r p 1 gg (v 12 (8 * r + p))) (v 15 l) := by
        rw [zu_tch (by decide), c23_plc, zu_comm (a := 6) (by decide)]
      have hu : ∀ i, u2 2 i = u 2 i := fun i => (hu2 i).trans (hu1 i)
      right
      refine ⟨d, c1, _, u2, w, e_arr0 R hl h14 e1 (Or.inr rfl), Ex.rfl, R1.uw hu (fun _ => rfl), hl, ?_, ?_, ?_⟩
      · refine hd2.trans (hd.trans ?_)
        rw [s_126 hN (by omega) o1, if_pos h14, mtg, b1_s, y1, b2_s, y2]
      · rw [eq]
        exact hN2
      · rw [eq]
        have h1 := (hI.dirty (D := fun g => g = v 15 l)).gmore hl h23 h14 hg g7 g3 g5 g1'
        refine ((h1.atPl (t := r) (p := p) (a := 1) (b := gg) (e := v 12 (8 * r + p)) r3 r6 hr7 r5 (by decide) (fun _ => ⟨hg, by show v 1 gg = v 1 r; rw [g1', r5], g7, fun x hx => ?_⟩) (fun e => by omega)).touch).uw hu
        have key : x = gg ∨ Mt v x := hx (fun x => x = gg ∨ Mt v x) (fun b hb => Or.inl hb) (fun x y hS hE => by
          have hE' : MtE v x y := hE
          rcases hS with rfl | hS
          · rcases hE' with hE' | ⟨a1, a2⟩
            · obtain ⟨q1, q2, -⟩ := hE'.at
              rw [hT.np hg (Or.inr g3)] at q2
              omega
            · have : y = v 17 l := by omega
              rw [this]
              exact Or.inr hMt
          · exact Or.inr (hS.step hE'))
        rcases key with rfl | key
        · exact ⟨g7, (hT.g hg g3).2.2.1⟩
        · exact hM x key
    · rw [if_pos ⟨h14, hh, hg⟩] at hd2
      have hd := s_deliver86 (q := q) (z := z) (w := w) (t := v 17 l) (h := v 15 l) (f := 1) hN hT hL hl (by omega) (by decide)
      by_cases h300 : v 9 0 = 300
      · left
        rw [if_pos (Or.inr ⟨rfl, h300⟩)] at hd
        exact ⟨c, u, e_arr0 R hl h14 (e_nameNone R hT hl o4 o2 (fun e => hh e.symm) hg h300) (Or.inl rfl), R, hN, fun _ => rfl, hd2.trans hd⟩
      · have hlt : v 9 0 < 300 := by omega
        rw [if_neg (by rw [if_neg (by omega)]; omega)] at hd
        have hno : ∀ g, g < v 9 0 → v 7 g = 0 → v 0 g = 3 → v 1 g = v 15 l → v 5 g ≠ v 17 l + 1 := by
          intro g a1 a2 a3 a4 a5
          have hp : gp v (nI (v 15 l)) (v 17 l) g = true := gp_iff.mpr ⟨a2, a3, by rw [a4], a5⟩
          have e1 := fa_first_le (gp v (nI (v 15 l)) (v 17 l)) (v 9 0)
          have e2 : gfi v (nI (v 15 l)) (v 17 l) = v 9 0 := by
            have : gfi v (nI (v 15 l)) (v 17 l) ≤ v 9 0 := e1
            omega
          have := fa_first_no (gp v (nI (v 15 l)) (v 17 l)) (v 9 0) g (by
            show g < gfi v (nI (v 15 l)) (v 17 l)
            omega)
          rw [this] at hp
          cases hp
        obtain ⟨f1, f2, f3, f4, f5, f6, f7⟩ := hF _ (Nat.le_refl _) hlt
        have hI2 := (hI.dirty (D := fun g => g = v 15 l)).gnew hl h23 h14 hlt o2 hh hno rfl
        have hT2 : iT (mk5 v 3 (v 15 l) 0 (v 17 l + 1) (v 18 l)) := hI2.1
        obtain ⟨d', c1, e1, hE, R1⟩ := e_nameNew R hT hF hK.1 hl r1 r2 r3 r6 o4 o2 (fun e => hh e.symm) hg hlt hT2
        obtain ⟨u1, y1, hN1, hu1⟩ := s_nameNew (v := zu v 23 l 0) (q := q) (z := z) (w := w) (t := v 17 l) (h := v 15 l) hN0 hT (show iF (zu v 23 l 0) (zu u 23 l 0) from hF) (show l < 600 by omega) r1 r2 r3 r6 o4 o2 hh hg hlt hT2
        obtain ⟨u2, y2, hN2, hu2⟩ := s_cnt2 (q := q) (z := z) (w := w) hN1 o2
        have eq : zu (tch (plc (mk5 v 3 (v 15 l) 0 (v 17 l + 1) (v 18 l)) r p 1 (v 9 0) (v 12 (8 * r + p))) (v 15 l)) 23 l 0 = tch (plc (mk5 (zu v 23 l 0) 3 (v 15 l) 0 (v 17 l + 1) (v 18 l)) r p 1 (v 9 0) (v 12 (8 * r + p))) (v 15 l) := by
          rw [zu_tch (by decide), c23_plc, c23_mk5]
        have hu : ∀ i, u2 2 i = u 2 i := fun i => (hu2 i).trans (hu1 i)
        right
        refine ⟨d', c1, _, u2, w, e_arr0 R hl h14 e1 (Or.inr rfl), hE, R1.uw hu (fun _ => rfl), hl, ?_, ?_, ?_⟩
        · refine hd2.trans (hd.trans ?_)
          rw [s_126 hN (by omega) o1, if_pos h14, mtg, b1_s, y1, b2_s, y2]
        · rw [eq]
          exact hN2
        · rw [eq]
          obtain ⟨t0, t1, t3, t5, t6⟩ := mk5_at (v := zu v 23 l 0) (kd := 3) (h := v 15 l) (pl := 0) (m := v 17 l + 1) (wt := v 18 l)
          have m9 : mk5 (zu v 23 l 0) 3 (v 15 l) 0 (v 17 l + 1) (v 18 l) 9 0 = v 9 0 + 1 := mk5_9
          obtain ⟨g0, g1, g3, g5, g6⟩ := mk5_0 (v := zu v 23 l 0) (kd := 3) (h := v 15 l) (pl := 0) (m := v 17 l + 1) (wt := v 18 l) r3
          refine ((hI2.atPl (t := r) (p := p) (a := 1) (b := v 9 0) (e := v 12 (8 * r + p)) (by rw [m9]; omega) (by rw [g3]; exact r6) hr7 (by rw [g1]; exact r5) (by decide) (fun _ => ⟨by rw [m9]; omega, by rw [g1]; exact t1.trans r5.symm, f4, fun x hx => ?_⟩) (fun e => by omega)).touch).uw hu
          have key : x = v 9 0 ∨ Mt v x := hx (fun x => x = v 9 0 ∨ Mt v x) (fun b hb => Or.inl hb) (fun x y hS' hE => by
            rcases hS' with rfl | hS'
            · rcases hE with hE | ⟨a1, a2⟩
              · obtain ⟨q1, q2, -⟩ := hE.at
                have t3' : mk5 (zu v 23 l 0) 3 (v 15 l) 0 (v 17 l + 1) (v 18 l) 3 (v 9 0) = 0 := t3
                rw [t3'] at q2
                omega
              · have t5' : mk5 (zu v 23 l 0) 3 (v 15 l) 0 (v 17 l + 1) (v 18 l) 5 (v 9 0) = v 17 l + 1 := t5
                rw [t5'] at a2
                have : y = v 17 l := by omega
                rw [this]
                exact Or.inr hMt
            · have hx9 := hS'.lt hT hL hW
              obtain ⟨i0, i1, i3, i5, i6⟩ := mk5_0 (v := zu v 23 l 0) (kd := 3) (h := v 15 l) (pl := 0) (m := v 17 l + 1) (wt := v 18 l) hx9
              right
              refine hS'.step ?_
              rcases hE with hE | ⟨a1, a2⟩
              · obtain ⟨q1, q2, q3, q4⟩ := hE.at
                rw [i3] at q2
                exact Or.inl (LEv.mk q2 q3 q4)
              · rw [i0] at a1
                rw [i5] at a2
                exact Or.inr ⟨a1, a2⟩)
          rcases key with rfl | key
          · exact ⟨f4, f5⟩
          · exact hM x key
end DL
