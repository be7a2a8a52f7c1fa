section SU
variable {d : AD} {c : CH} {v : Nu} {u : Mu} {w : Me} {q z t b0 : Nat}
def thr (v : Nu) (k : Nat) : Nat := if v 7 k = 0 then 1 else 0
def und (v : Nu) (l : Nat) : Nat := if v 23 l = 0 then 0 else 1
theorem e_sizeThere (R : RC d c v u w) (hI : iT v) : fX6_sizeThere (da d 101 0) (cB d c) = some (0 + nI (fb_sm (thr v) (v 9 0)), cB d c) := by
  have hb := hI.1
  have hF := R.2.1
  refine zsum (F := fun n a k => fX6_sizeThere_4 n (da d 101 0) a k (cB d c)) (f := thr v) (G := fun a => some (a, cB d c)) (N := v 9 0) ?_ ?_ (m := 100000) (by omega) 0
  · intro n a k hk
    obtain ⟨k0, k1, k3, k7, -⟩ := hI.k hk
    show fX6_sizeThere_4 (n + 1) (da d 101 0) a (nI k) (cB d c) = _
    have z0 : a + nI 0 = a := Int32.add_zero _
    rw [fX6_sizeThere_4, cgI (t := 6) (f101 hF) rfl, b1_s, show cI c 101 0 1 = nI (v 9 0) from R.2.2.2.1.1, nI_ifle (by omega) (by omega), if_neg (by omega), qt_101 hF, b1_s, e_find R hb hk k7, b2_s, nI_1, thr]
    by_cases h7 : v 7 k = 0
    · rw [if_pos h7, oe_1, if_pos h7]
      rfl
    · rw [if_neg h7, oe_0, if_neg h7, z0]
  · intro n a
    show fX6_sizeThere_4 (n + 1) (da d 101 0) a (nI (v 9 0)) (cB d c) = _
    rw [fX6_sizeThere_4, cgI (t := 6) (f101 hF) rfl, b1_s, show cI c 101 0 1 = nI (v 9 0) from R.2.2.2.1.1, if_pos (Int32.le_refl _)]
theorem s_status_79 (hI : iT v) (hN : Nv v u) : fX11_status_79 100000 q 0 0 (mB q z u w) = some (0 + nI (fb_sm (thr v) (v 9 0)), mB q z u w) := by
  have hb := hI.1
  refine zsum (F := fun n a k => fX11_status_79 n q a k (mB q z u w)) (f := thr v) (G := fun a => some (a, mB q z u w)) (N := v 9 0) ?_ ?_ (m := 100000) (by omega) 0
  · intro n a k hk
    obtain ⟨k0, k1, k3, k7, -⟩ := hI.k hk
    show fX11_status_79 (n + 1) q a (nI k) (mB q z u w) = _
    rw [fX11_status_79]
    simp (disch := omega) only [mG9, mA7, b1_s, mX7, mI_n, hN.k9, hN.k7, nI_1, nI_ifle, nI_if0, thr]
    rw [if_neg (show ¬ v 9 0 ≤ k by omega)]
    by_cases h7 : v 7 k = 0
    · rw [if_pos h7, if_pos h7]
      rfl
    · rw [if_neg h7, if_neg h7]
      rfl
  · intro n a
    show fX11_status_79 (n + 1) q a (nI (v 9 0)) (mB q z u w) = _
    rw [fX11_status_79, mG9, b1_s, hN.k9, if_pos (Int32.le_refl _)]
theorem e_sizeUnderWay (R : RC d c v u w) (hL : iL v) : fX2_sizeUnderWay (da d 103 0) (cB d c) = some (0 + nI (fb_sm (und v) (v 24 0)), cB d c) := by
  have hb := hL.1
  have hF := R.2.1
  refine zsum (F := fun n a k => fX2_sizeUnderWay_4 n (da d 103 0) a k (cB d c)) (f := und v) (G := fun a => some (a, cB d c)) (N := v 24 0) ?_ ?_ (m := 100000) (by omega) 0
  · intro n a l hl
    obtain ⟨o1, o2, o3, o4, o5, o6, -⟩ := hL.2.1 l hl
    show fX2_sizeUnderWay_4 (n + 1) (da d 103 0) a (nI l) (cB d c) = _
    have z0 : a + nI 0 = a := Int32.add_zero _
    rw [fX2_sizeUnderWay_4, cgI (t := 2) (f103 hF) rfl, b1_s, show cI c 103 0 1 = nI (v 24 0) from R.2.2.2.2.1.1, nI_ifle (by omega) (by omega), if_neg (by omega), qt_103 hF, b1_s, e_pfind R hb hl, b2_s, nI_1, oe_1, gl_under R hl, b1_s, nI_if0 (by omega), und]
    by_cases h : v 23 l = 0
    · rw [if_pos h, if_pos h, z0]
    · rw [if_neg h, if_neg h]
      rfl
  · intro n a
    show fX2_sizeUnderWay_4 (n + 1) (da d 103 0) a (nI (v 24 0)) (cB d c) = _
    rw [fX2_sizeUnderWay_4, cgI (t := 2) (f103 hF) rfl, b1_s, show cI c 103 0 1 = nI (v 24 0) from R.2.2.2.2.1.1, if_pos (Int32.le_refl _)]
theorem s_status_119 (hL : iL v) (hN : Nv v u) : fX11_status_119 100000 q 0 0 (mB q z u w) = some (0 + nI (fb_sm (und v) (v 24 0)), mB q z u w) := by
  have hb := hL.1
  refine zsum (F := fun n a k => fX11_status_119 n q a k (mB q z u w)) (f := und v) (G := fun a => some (a, mB q z u w)) (N := v 24 0) ?_ ?_ (m := 100000) (by omega) 0
  · intro n a l hl
    obtain ⟨o1, o2, o3, o4, o5, o6, -⟩ := hL.2.1 l hl
    show fX11_status_119 (n + 1) q a (nI l) (mB q z u w) = _
    rw [fX11_status_119]
    simp (disch := omega) only [mG24, mA23, b1_s, mX23, mI_n, hN.k24, hN.k23, nI_1, nI_ifle, nI_if0, und]
    rw [if_neg (show ¬ v 24 0 ≤ l by omega)]
    by_cases h : v 23 l = 0
    · rw [if_pos h, if_pos h]
      rfl
    · rw [if_neg h, if_neg h]
      rfl
  · intro n a
    show fX11_status_119 (n + 1) q a (nI (v 24 0)) (mB q z u w) = _
    rw [fX11_status_119, mG24, b1_s, hN.k24, if_pos (Int32.le_refl _)]
theorem e_sumOfCounts (R : RC d c v u w) : fX10_sumOfCounts (da d 100 0) (cB d c) = some (0 + nI (fb_sm (v 30) 8), cB d c) := by
  have hF := R.2.1
  have hX := R.2.2.1
  unfold fX10_sumOfCounts
  rw [qa_100_4 hF hX, b1_s, qn_108 hF hX, b1_s]
  refine zsum (F := fun n a k => fX10_sumOfCounts_13 n a (da d 108 0) (nI 8) k (cB d c)) (f := v 30) (G := fun a => some (a, cB d c)) (N := 8) ?_ ?_ (m := 100000) (by omega) 0
  · intro n a h hh
    show fX10_sumOfCounts_13 (n + 1) a (da d 108 0) (nI 8) (nI h) (cB d c) = _
    rw [fX10_sumOfCounts_13, nI_ifle (by omega) (by omega), if_neg (by omega), cxI (t := 12) (f108 hF) rfl (by rw [show cN c 108 0 = 8 from hX.2.2.2.2.2.2.1]; omega) (by omega), b1_s, R.2.2.2.2.2.2.2.1.1 h hh, nI_1]
  · intro n a
    show fX10_sumOfCounts_13 (n + 1) a (da d 108 0) (nI 8) (nI 8) (cB d c) = _
    rw [fX10_sumOfCounts_13, if_pos (Int32.le_refl _)]
theorem s_status_169 (hN : Nv v u) : fX11_status_169 100000 q 0 0 (mB q z u w) = some (0 + nI (fb_sm (v 30) 8), mB q z u w) := by
  refine zsum (F := fun n a k => fX11_status_169 n q a k (mB q z u w)) (f := v 30) (G := fun a => some (a, mB q z u w)) (N := 8) ?_ ?_ (m := 100000) (by omega) 0
  · intro n a h hh
    show fX11_status_169 (n + 1) q a (nI h) (mB q z u w) = _
    rw [fX11_status_169, if_neg (show ¬ (8 : Int32) ≤ nI h from nI_ge (b := 8) hh (by decide))]
    simp (disch := omega) only [mA30, b1_s, mX30, mI_n, hN.k30, nI_1]
  · intro n a
    show fX11_status_169 (n + 1) q a (nI 8) (mB q z u w) = _
    rw [fX11_status_169, if_pos (show (8 : Int32) ≤ nI 8 from Int32.le_refl _)]
theorem b_status {v1 : Int32} (R : RC d c v u w) (hT : iT v) (hL : iL v) (hN : Nv v u) : ∃ r, fX10_status_27 (da d 100 0) v1 (cB d c) = some (r, cB d c) ∧ fX11_status_22 q v1 (mB q z u w) = some (r, mB q z u w) := by
  have hF := R.2.1
  have hX := R.2.2.1
  unfold fX10_status_27 fX11_status_22
  by_cases c0 : v1 = 0
  · rw [if_pos c0, if_pos c0, qa_100_0 hF hX, b1_s, qt_101 hF, b1_s, e_size R, b2_s, mG9, b1_s, hN.k9]
    exact ⟨_, rfl, rfl⟩
  rw [if_neg c0, if_neg c0]
  by_cases c1 : v1 = 1
  · rw [if_pos c1, if_pos c1, qa_100_0 hF hX, b1_s, qt_101 hF, b1_s, e_sizeThere R hT, b2_s, s_status_79 hT hN]
    exact ⟨_, rfl, rfl⟩
  rw [if_neg c1, if_neg c1]
  by_cases c2 : v1 = 2
  · rw [if_pos c2, if_pos c2, qa_100_1 hF hX, b1_s, qt_103 hF, b1_s, e_psize R, b2_s, mG24, b1_s, hN.k24]
    exact ⟨_, rfl, rfl⟩
  rw [if_neg c2, if_neg c2]
  by_cases c3 : v1 = 3
  · rw [if_pos c3, if_pos c3, qa_100_1 hF hX, b1_s, qt_103 hF, b1_s, e_sizeUnderWay R hL, b2_s, s_status_119 hL hN]
    exact ⟨_, rfl, rfl⟩
  rw [if_neg c3, if_neg c3]
  by_cases c4 : v1 = 4
  · rw [if_pos c4, if_pos c4, cgI (t := 10) (f100 hF) rfl, b1_s, show cI c 100 0 10 = nI (v 46 0) from R.2.2.2.2.2.2.1.1, mG46, b1_s, hN.k46]
    exact ⟨_, rfl, rfl⟩
  rw [if_neg c4, if_neg c4]
  by_cases c5 : v1 = 5
  · rw [if_pos c5, if_pos c5, qa_100_2 hF hX, b1_s, qt_105 hF, b1_s, e_wsize R, b2_s, mG29, b1_s, hN.k29]
    exact ⟨_, rfl, rfl⟩
  rw [if_neg c5, if_neg c5]
  by_cases c6 : v1 = 6
  · rw [if_pos c6, if_pos c6, cgI (t := 10) (f100 hF) rfl, b1_s, R.2.2.2.2.2.2.2.1.2.2.2.2, mG25, b1_s, hN.k25]
    exact ⟨_, rfl, rfl⟩
  rw [if_neg c6, if_neg c6]
  by_cases c7 : v1 = 7
  · rw [if_pos c7, if_pos c7, qt_100 hF, b1_s, e_sumOfCounts R, b2_s, s_status_169 hN]
    exact ⟨_, rfl, rfl⟩
  rw [if_neg c7, if_neg c7]
  exact ⟨_, rfl, rfl⟩
theorem st_status : st1 (Jx b0 q) b0 q fX10_status fX11_status := same1 (by
  intro n d c v u w z v1 R hN hI
  obtain ⟨hT, -, hL, -⟩ := hI
  have hF := R.2.1
  have hX := R.2.2.1
  unfold fX10_status fX11_status
  have r1 := fb_rng v1
  have t11 : (11 : Int32).toInt = 11 := rfl
  have t10 : (10 : Int32).toInt = 10 := rfl
  have t18 : (18 : Int32).toInt = 18 := rfl
  have t7 : (nI 7).toInt = 7 := rfl
  by_cases h1 : v1.toInt < 11
  · rw [if_pos (by rw [fa_lt]; omega), if_pos (show v1 ≤ 10 by rw [fa_le]; omega)]
    exact b_status R hT hL hN
  · have e1 : (v1 - 11).toInt = v1.toInt - 11 := fb_subI (by omega) (by omega)
    have e2 : (v1 - 10).toInt = v1.toInt - 10 := fb_subI (by omega) (by omega)
    rw [if_neg (by rw [fa_lt]; omega), if_neg (show ¬ v1 ≤ 10 by rw [fa_le]; omega), qa_100_5 hF hX, b1_s, qn_109 hF hX, b1_s]
    by_cases h2 : 18 ≤ v1.toInt
    · rw [if_pos (show nI 7 ≤ v1 - 11 by rw [fa_le]; omega), if_pos (show (18 : Int32) ≤ v1 by rw [fa_le]; omega)]
      exact b_status R hT hL hN
    · obtain ⟨i, hi⟩ : ∃ i : Nat, v1.toInt - 11 = i := ⟨(v1.toInt - 11).toNat, by omega⟩
      have f1 : v1 - 11 = nI i := by rw [fa_eq, e1, nI_toInt (by omega)]; omega
      have f2 : v1 - 10 = nI (i + 1) := by rw [fa_eq, e2, nI_toInt (by omega)]; omega
      rw [if_neg (show ¬ nI 7 ≤ v1 - 11 by rw [fa_le]; omega), if_neg (show ¬ (18 : Int32) ≤ v1 by rw [fa_le]; omega), b1_s, f1, f2, cxI (t := 12) (f109 hF) rfl (by rw [show cN c 109 0 = 7 from hX.2.2.2.2.2.2.2.1]; omega) (by omega), b1_s, R.2.2.2.2.2.2.2.1.2.1 i (by omega)]
      simp (disch := omega) only [mA31, b1_s, mX31, mI_n, hN.k31]
      exact ⟨_, rfl, rfl⟩)
end SU
