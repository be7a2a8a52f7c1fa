section RD2
variable {d : AD} {c : CH} {v : Nu} {u : Mu} {w : Me} {q z t b0 : Nat}
theorem st_letter : st2 (Jx b0 q) b0 q fX10_letter fX11_letter_ := same2 (by
  intro n d c v u w z v1 v2 R hN hI
  obtain ⟨hT, -, hL, -⟩ := hI
  have hb := hT.1
  have hF := R.2.1
  have hX := R.2.2.1
  have hb2 := hL.1
  unfold fX10_letter fX11_letter_
  rw [qa_100_1 hF hX, b1_s, qt_103 hF, b1_s, mG24, b1_s, hN.k24]
  rcases inOut v1 (n := v 24 0) (by omega) with ho | ⟨l, hl, rfl⟩
  · rw [e_pfindO R ho, b2_s, oe_0, isIn_o (by omega) ho, b2_s, if_pos rfl]
    exact ⟨_, rfl, rfl⟩
  · obtain ⟨o1, o2, o3, o4, o5, o6, o7, o8, o9, o10, o11, o12, o13, o14⟩ := hL.2.1 l hl
    rw [e_pfind R hb2 hl, b2_s, oe_1, isIn_n hl (by omega), b2_s, if_neg (show ¬ (1 : Int32) = 0 by decide)]
    simp (maxSteps := 2000000) (disch := omega) only [mA14, mA15, mA16, mA17, mA18, mA19, mA20, mA21, mA22, mA23, b1_s, mX14, mX15, mX16, mX17, mX18, mX19, mX20, mX21, mX22, mX23, mI_n, hN.k14, hN.k15, hN.k16, hN.k17, hN.k18, hN.k19, hN.k20, hN.k21, hN.k22, hN.k23, gl_kind R hl, gl_from R hl, gl_to R hl, gl_aboutA R hl, gl_weight R hl, gl_target R hl, gl_place R hl, gl_walk R hl, gl_told R hl, gl_under R hl, g_num R o4, nI_if0]
    by_cases c0 : v2 = 0
    · rw [if_pos c0, if_pos c0]
      exact ⟨_, rfl, rfl⟩
    rw [if_neg c0, if_neg c0]
    by_cases c1 : v2 = 1
    · rw [if_pos c1, if_pos c1]
      by_cases h8 : v 23 l = 0
      · rw [if_pos h8, if_pos h8]
        exact ⟨_, rfl, rfl⟩
      · rw [if_neg h8, if_neg h8]
        exact ⟨_, rfl, rfl⟩
    rw [if_neg c1, if_neg c1]
    by_cases c2 : v2 = 2
    · rw [if_pos c2, if_pos c2]
      exact ⟨_, rfl, rfl⟩
    rw [if_neg c2, if_neg c2]
    by_cases c3 : v2 = 3
    · rw [if_pos c3, if_pos c3]
      exact ⟨_, rfl, rfl⟩
    rw [if_neg c3, if_neg c3]
    by_cases c4 : v2 = 4
    · rw [if_pos c4, if_pos c4]
      exact ⟨_, rfl, rfl⟩
    rw [if_neg c4, if_neg c4]
    by_cases c5 : v2 = 5
    · rw [if_pos c5, if_pos c5]
      exact ⟨_, rfl, rfl⟩
    rw [if_neg c5, if_neg c5]
    by_cases c6 : v2 = 6
    · rw [if_pos c6, if_pos c6]
      by_cases g0 : v 14 l = 0
      · obtain ⟨r, p, r1, -, r2, -⟩ := o8 g0
        rw [r1, if_neg (by omega), oe_1, b1_s, show r + 1 - 1 = r from rfl, g_num R r2, b1_s, dv_e rfl]
        exact ⟨_, rfl, rfl⟩
      · rw [(o9 g0).1, if_pos rfl, oe_0, dv_0 rfl]
        exact ⟨_, rfl, rfl⟩
    rw [if_neg c6, if_neg c6]
    by_cases c7 : v2 = 7
    · rw [if_pos c7, if_pos c7]
      exact ⟨_, rfl, rfl⟩
    rw [if_neg c7, if_neg c7]
    by_cases c8 : v2 = 8
    · rw [if_pos c8, if_pos c8]
      by_cases g0 : 4 ≤ v 14 l
      · obtain ⟨r, r1, r2⟩ := o13 g0
        rw [r1, if_neg (by omega), oe_1, b1_s, show r + 1 - 1 = r from rfl, gk_num R r2, b1_s, dv_e rfl]
        exact ⟨_, rfl, rfl⟩
      · rw [o14 (by omega), if_pos rfl, oe_0, dv_0 rfl]
        exact ⟨_, rfl, rfl⟩
    rw [if_neg c8, if_neg c8]
    by_cases c9 : v2 = 9
    · rw [if_pos c9, if_pos c9]
      exact ⟨_, rfl, rfl⟩
    rw [if_neg c9, if_neg c9]
    exact ⟨_, rfl, rfl⟩)
theorem st_freed : st1 (Jx b0 q) b0 q fX10_freed fX11_freed := same1 (by
  intro n d c v u w z v1 R hN hI
  obtain ⟨hT, -, hL, hW, hC, -⟩ := hI
  have hF := R.2.1
  have hX := R.2.2.1
  have h33 := hC.2.1
  obtain ⟨-, -, c3, c4, -⟩ := R.2.2.2.2.2.2.2.1
  unfold fX10_freed fX11_freed
  rw [mG33, b1_s, hN.k33]
  rcases inOut v1 (n := v 33 0) (by omega) with ho | ⟨i, hi, rfl⟩
  · rw [isIn_o (by omega) ho, b2_s, if_pos rfl]
    by_cases h0 : v1 < 0
    · rw [if_pos h0]
      exact ⟨_, rfl, rfl⟩
    · rw [if_neg h0, cgI (t := 10) (f100 hF) rfl, b1_s, c3, if_pos (ho.resolve_left h0)]
      exact ⟨_, rfl, rfl⟩
  · rw [isIn_n hi (by omega), b2_s, if_neg (show ¬ (1 : Int32) = 0 by decide), if_neg (nI_pos (by omega)), cgI (t := 10) (f100 hF) rfl, b1_s, c3, nI_ifle (by omega) (by omega), if_neg (by omega), qa_100_6 hF hX, b1_s, qn_110 hF hX, b1_s, nI_iflt (by omega) (by omega), if_pos (by omega), b1_s, cxI (t := 12) (f110 hF) rfl (by rw [show cN c 110 0 = 300 from hX.2.2.2.2.2.2.2.2.1]; omega) (by omega), b1_s, c4 i hi]
    simp (disch := omega) only [mA32, b1_s, mX32, mI_n, hN.k32]
    exact ⟨_, rfl, rfl⟩)
theorem ct_cut {p : Nat → Bool} {m n : Nat} (hm : m ≤ n) (h : ∀ k, k < n → p k = true → k < m) : fb_ct p n = fb_ct p m := by
  obtain ⟨j, rfl⟩ : ∃ j, n = m + j := ⟨n - m, by omega⟩
  rw [fb_ct_split]
  have : fb_ct (fun k => p (m + k)) j = 0 := fb_ct_zero.mpr (fun k hk => by
    cases e : p (m + k) with
    | false => rfl
    | true => have := h (m + k) (by omega) e; omega)
  omega
theorem s_walk_21 {k : Nat} {v2 : Int32} (hb : v 9 0 ≤ 300) (hN : Nv v u) (hk : k < 20) (h0 : ∀ x, x < v 9 0 → v 0 x ≤ 3) (h42 : ∀ x, x < 300 → v 42 (300 * k + x) ≤ 1) : ∀ (j i n : Nat), i + j = v 9 0 → j < n → fX11_walk_21 n q (nI k) v2 (nI (fb_ct (pas v k) i)) (nI (fb_ct (met v k) i)) (nI i) (mB q z u w) = fX11_walk_21 1 q (nI k) v2 (nI (fb_ct (pas v k) (v 9 0))) (nI (fb_ct (met v k) (v 9 0))) (nI (v 9 0)) (mB q z u w) := by
  intro j
  induction j with
  | zero =>
    intro i n e1 e2
    obtain ⟨n, rfl⟩ : ∃ n', n = n' + 1 := ⟨n - 1, by omega⟩
    have : i = v 9 0 := by omega
    subst this
    rw [fX11_walk_21, fX11_walk_21, mG9, b1_s, b1_s, hN.k9, if_pos (Int32.le_refl _), if_pos (Int32.le_refl _)]
  | succ j ih =>
    intro i n e1 e2
    obtain ⟨n, rfl⟩ : ∃ n', n = n' + 1 := ⟨n - 1, by omega⟩
    have hi : i < v 9 0 := by omega
    have a0 := h0 i hi
    have a42 := h42 i (by omega)
    rw [← ih (i + 1) n (by omega) (by omega), fX11_walk_21]
    simp only [fX11_walk_62, fX11_walk_63]
    simp (disch := omega) only [mG9, mA42, mA0, b1_s, n300, mX42, mX0, mI_n, hN.k9, hN.k42, hN.k0, nI_ifle, nI_if0, nI_if3]
    rw [if_neg (show ¬ v 9 0 ≤ i by omega), fb_ct_succ, fb_ct_succ]
    have z0 : ∀ a : Nat, nI a + 0 = nI a := fun a => Int32.add_zero _
    by_cases g : v 42 (300 * k + i) = 0
    · simp [g, pas, met, z0, nI_1]
    · have g1 : v 42 (300 * k + i) = 1 := by omega
      by_cases g3 : v 0 i = 3
      · simp [g1, g3, pas, met, z0, nI_1]
      · simp [g1, g3, pas, met, z0, nI_1]
theorem st_walk : st2 (Jx b0 q) b0 q fX10_walk fX11_walk := same2 (by
  intro n d c v u w z v1 v2 R hN hI
  obtain ⟨hT, -, hL, hW, hC, hK, -⟩ := hI
  have hb := hT.1
  have hF := R.2.1
  have hX := R.2.2.1
  have h46 := hK.1
  unfold fX10_walk fX11_walk
  rw [mG46, b1_s, hN.k46]
  rcases inOut v1 (n := v 46 0) (by omega) with ho | ⟨k, hk, rfl⟩
  · rw [isIn_o (by omega) ho, b2_s, if_pos rfl]
    by_cases h0 : v1 < 0
    · rw [if_pos h0]
      exact ⟨_, rfl, rfl⟩
    · rw [if_neg h0, cgI (t := 10) (f100 hF) rfl, b1_s, show cI c 100 0 10 = nI (v 46 0) from R.2.2.2.2.2.2.1.1, if_pos (ho.resolve_left h0)]
      exact ⟨_, rfl, rfl⟩
  · obtain ⟨a1, a2, a3, a4, a5, a6, -⟩ := hK.2.1 k hk
    have w1 := s_walk_21 (q := q) (z := z) (w := w) (v2 := v2) hb hN (show k < 20 by omega) (fun x hx => (hT.k hx).1) (fun x hx => (a6 x hx).1) (v 9 0) 0 100000 (by omega) (by omega)
    have w2 : fX11_walk_21 100000 q (nI k) v2 0 0 0 (mB q z u w) = _ := w1
    rw [isIn_n hk (by omega), b2_s, if_neg (show ¬ (1 : Int32) = 0 by decide), w2, fX11_walk_21, if_neg (nI_pos (by omega)), cgI (t := 10) (f100 hF) rfl, b1_s, show cI c 100 0 10 = nI (v 46 0) from R.2.2.2.2.2.2.1.1, nI_ifle (by omega) (by omega), if_neg (by omega), qa_100_3 hF hX, b1_s, qn_107 hF hX, b1_s, nI_iflt (by omega) (by omega), if_pos (by omega), b1_s, cxP (t := 19) (f107 hF) rfl (by rw [show cN c 107 0 = 20 from hX.2.2.2.2.2.1]; omega) (by omega), b1_s, (R.kt hk).2.2.2.2.2.1, mG9, b1_s, hN.k9, if_pos (Int32.le_refl _)]
    show ∃ r', oe (some (da d 5 k)) _ _ = _ ∧ _
    rw [oe_1]
    have e1 : fb_ct (pas v k) 300 = fb_ct (pas v k) (v 9 0) := ct_cut hb (fun x hx h => (a6 x hx).2.2.2 (by simp [pas] at h; exact h.1))
    have e2 : fb_ct (met v k) 300 = fb_ct (met v k) (v 9 0) := ct_cut hb (fun x hx h => (a6 x hx).2.2.2 (by simp [met] at h; exact h.1))
    simp (disch := omega) only [mA37, mA38, mA39, mA40, b1_s, mX37, mX38, mX39, mX40, mI_n, hN.k37, hN.k38, hN.k39, hN.k40, gk_end R hk, gk_start R hk, gk_steps R hk, gk_backs R hk, gk_pass R hk, gk_met R hk, g_num R a1, e1, e2]
    by_cases c0 : v2 = 0
    · rw [if_pos c0, if_pos c0]
      exact ⟨_, rfl, rfl⟩
    rw [if_neg c0, if_neg c0]
    by_cases c1 : v2 = 1
    · rw [if_pos c1, if_pos c1]
      exact ⟨_, rfl, rfl⟩
    rw [if_neg c1, if_neg c1]
    by_cases c2 : v2 = 2
    · rw [if_pos c2, if_pos c2]
      refine ⟨_, rfl, ?_⟩
      show some (nI 1 + nI (v 40 k), _) = _
      rw [nI_add]
    rw [if_neg c2, if_neg c2]
    by_cases c3 : v2 = 3
    · rw [if_pos c3, if_pos c3]
      exact ⟨_, rfl, rfl⟩
    rw [if_neg c3, if_neg c3]
    by_cases c4 : v2 = 4
    · rw [if_pos c4, if_pos c4]
      exact ⟨_, rfl, rfl⟩
    rw [if_neg c4, if_neg c4]
    by_cases c5 : v2 = 5
    · rw [if_pos c5, if_pos c5]
      exact ⟨_, rfl, rfl⟩
    rw [if_neg c5, if_neg c5]
    exact ⟨_, rfl, rfl⟩)
theorem e_weightOfGates (R : RC d c v u w) (hI : iT v) (ht : t < v 9 0) : fX6_weightOfGates (da d 101 0) (some (da d 1 t)) (cB d c) = some (0 + nI (gsum v t), cB d c) := by
  have hb := hI.1
  have hF := R.2.1
  refine zsum (F := fun n a k => fX6_weightOfGates_4 n (da d 101 0) (some (da d 1 t)) a k (cB d c)) (f := fun g => if v 7 g = 0 ∧ v 0 g = 3 ∧ v 5 g = t + 1 then v 6 g else 0) (G := fun a => some (a, cB d c)) (N := v 9 0) ?_ ?_ (m := 100000) (by omega) 0
  · intro n a k hk
    obtain ⟨k0, k1, k3, k7, -⟩ := hI.k hk
    show fX6_weightOfGates_4 (n + 1) (da d 101 0) (some (da d 1 t)) a (nI k) (cB d c) = _
    have z0 : a + nI 0 = a := Int32.add_zero _
    rw [fX6_weightOfGates_4, cgI (t := 6) (f101 hF) rfl, b1_s, show cI c 101 0 1 = nI (v 9 0) from R.2.2.2.1.1, nI_ifle (by omega) (by omega), if_neg (by omega), qt_101 hF, b1_s, e_find R hb hk k7, b2_s, nI_1]
    by_cases h7 : v 7 k = 0
    · rw [if_pos h7, oe_1, g_named R hk, b1_s]
      by_cases h3 : v 0 k = 3
      · obtain ⟨⟨m, m1, m2, -⟩, -⟩ := hI.g hk h3
        have m3 : v 5 k - 1 = m := by omega
        rw [if_neg (show ¬ v 5 k = 0 by omega)]
        by_cases e : m = t
        · rw [if_pos (by rw [m3, e]), g_weight R hk, b1_s, if_pos ⟨h7, h3, by omega⟩]
        · rw [if_neg (fun h => e (by rw [m3] at h; exact (da_inj (R.t m2).1 (R.t ht).1).mp (Option.some.inj h))), if_neg (fun h => e (by omega)), z0]
      · rw [if_pos (hI.ng hk h3).1, if_neg (by simp), if_neg (fun h => h3 h.2.1), z0]
    · rw [if_neg h7, oe_0, if_neg (fun h => h7 h.1), z0]
  · intro n a
    show fX6_weightOfGates_4 (n + 1) (da d 101 0) (some (da d 1 t)) a (nI (v 9 0)) (cB d c) = _
    rw [fX6_weightOfGates_4, cgI (t := 6) (f101 hF) rfl, b1_s, show cI c 101 0 1 = nI (v 9 0) from R.2.2.2.1.1, if_pos (Int32.le_refl _)]
theorem e_weightUnderWay (R : RC d c v u w) (hL : iL v) (ht : t < v 9 0) : fX2_weightUnderWay (da d 103 0) (some (da d 1 t)) (cB d c) = some (0 + nI (lsum v t), cB d c) := by
  have hb := hL.1
  have hF := R.2.1
  refine zsum (F := fun n a k => fX2_weightUnderWay_4 n (da d 103 0) (some (da d 1 t)) a k (cB d c)) (f := fun l => if v 23 l = 1 ∧ v 17 l = t then v 18 l else 0) (G := fun a => some (a, cB d c)) (N := v 24 0) ?_ ?_ (m := 100000) (by omega) 0
  · intro n a l hl
    obtain ⟨o1, o2, o3, o4, o5, o6, -⟩ := hL.2.1 l hl
    show fX2_weightUnderWay_4 (n + 1) (da d 103 0) (some (da d 1 t)) a (nI l) (cB d c) = _
    have z0 : a + nI 0 = a := Int32.add_zero _
    rw [fX2_weightUnderWay_4, cgI (t := 2) (f103 hF) rfl, b1_s, show cI c 103 0 1 = nI (v 24 0) from R.2.2.2.2.1.1, nI_ifle (by omega) (by omega), if_neg (by omega), qt_103 hF, b1_s, e_pfind R hb hl, b2_s, nI_1, oe_1, gl_under R hl, b1_s, nI_if0 (by omega)]
    by_cases h : v 23 l = 0
    · rw [if_pos h, if_neg (fun h2 => by omega), z0]
    · rw [if_neg h, gl_aboutA R hl, b1_s]
      by_cases e : v 17 l = t
      · rw [if_pos (by rw [e]), gl_weight R hl, b1_s, if_pos ⟨by omega, e⟩]
      · rw [if_neg (fun h => e ((da_inj (R.t o4).1 (R.t ht).1).mp (Option.some.inj h))), if_neg (fun h => e h.2), z0]
  · intro n a
    show fX2_weightUnderWay_4 (n + 1) (da d 103 0) (some (da d 1 t)) a (nI (v 24 0)) (cB d c) = _
    rw [fX2_weightUnderWay_4, cgI (t := 2) (f103 hF) rfl, b1_s, show cI c 103 0 1 = nI (v 24 0) from R.2.2.2.2.1.1, if_pos (Int32.le_refl _)]
theorem s_audit_112 (hb : v 9 0 ≤ 300) (hL : iL v) (hN : Nv v u) (ht : t < v 9 0) (a : Int32) : fX11_audit_112 100000 q (nI t) a 0 (mB q z u w) = some (a + nI (lsum v t), mB q z u w) := by
  have hb2 := hL.1
  refine zsum (F := fun n a k => fX11_audit_112 n q (nI t) a k (mB q z u w)) (f := fun l => if v 23 l = 1 ∧ v 17 l = t then v 18 l else 0) (G := fun a => some (a, mB q z u w)) (N := v 24 0) ?_ ?_ (m := 100000) (by omega) a
  · intro n a l hl
    obtain ⟨o1, o2, o3, o4, o5, o6, -⟩ := hL.2.1 l hl
    show fX11_audit_112 (n + 1) q (nI t) a (nI l) (mB q z u w) = _
    have z0 : a + nI 0 = a + 0 := rfl
    rw [fX11_audit_112]
    simp (disch := omega) only [mG24, mA23, mA17, mA18, b1_s, mX23, mX17, mX18, mI_n, hN.k24, hN.k23, hN.k17, hN.k18, nI_1, nI_ifle, nI_if0, nI_ifeq]
    rw [if_neg (show ¬ v 24 0 ≤ l by omega)]
    by_cases h : v 23 l = 0
    · rw [if_pos h, if_neg (fun h2 => by omega), z0]
    · rw [if_neg h]
      by_cases e : v 17 l = t
      · rw [if_pos e, if_pos ⟨by omega, e⟩]
      · rw [if_neg e, if_neg (fun h => e h.2), z0]
  · intro n a
    show fX11_audit_112 (n + 1) q (nI t) a (nI (v 24 0)) (mB q z u w) = _
    rw [fX11_audit_112, mG24, b1_s, hN.k24, if_pos (Int32.le_refl _)]
theorem s_audit_48 (hI : iT v) (hL : iL v) (hN : Nv v u) (ht : t < v 9 0) : fX11_audit_48 100000 q (nI t) 0 0 (mB q z u w) = some (0 + nI (gsum v t) + nI (lsum v t), mB q z u w) := by
  have hb := hI.1
  refine zsum (F := fun n a k => fX11_audit_48 n q (nI t) a k (mB q z u w)) (f := fun g => if v 7 g = 0 ∧ v 0 g = 3 ∧ v 5 g = t + 1 then v 6 g else 0) (G := fun a => some (a + nI (lsum v t), mB q z u w)) (N := v 9 0) ?_ ?_ (m := 100000) (by omega) 0
  · intro n a k hk
    obtain ⟨k0, k1, k3, k7, -⟩ := hI.k hk
    show fX11_audit_48 (n + 1) q (nI t) a (nI k) (mB q z u w) = _
    have z0 : a + nI 0 = a + 0 := rfl
    rw [fX11_audit_48]
    simp (disch := omega) only [mG9, mA7, mA0, mA5, mA6, b1_s, mX7, mX0, mX5, mX6, mI_n, hN.k9, hN.k7, hN.k0, hN.k5, hN.k6, nI_1, nI_ifle, nI_if0, nI_if3]
    rw [if_neg (show ¬ v 9 0 ≤ k by omega)]
    by_cases h7 : v 7 k = 0
    · rw [if_pos h7]
      by_cases h3 : v 0 k = 3
      · obtain ⟨⟨m, m1, m2, -⟩, -⟩ := hI.g hk h3
        have m4 : dv 5 (v 5 k) = nI m := by rw [m1, dv_e rfl]
        rw [if_pos h3, m4, nI_ifeq (by omega) (by omega)]
        by_cases e : m = t
        · rw [if_pos e, if_pos ⟨h7, h3, by omega⟩]
        · rw [if_neg e, if_neg (fun h => e (by omega)), z0]
      · rw [if_neg h3, if_neg (fun h => h3 h.2.1), z0]
    · rw [if_neg h7, if_neg (fun h => h7 h.1), z0]
  · intro n a
    show fX11_audit_48 (n + 1) q (nI t) a (nI (v 9 0)) (mB q z u w) = _
    rw [fX11_audit_48, mG9, b1_s, hN.k9, if_pos (Int32.le_refl _), s_audit_112 hb hL hN ht]
theorem st_audit : st2 (Jx b0 q) b0 q fX10_audit fX11_audit := same2 (by
  intro n d c v u w z v1 v2 R hN hI
  obtain ⟨hT, -, hL, -⟩ := hI
  have hb := hT.1
  have hF := R.2.1
  have hX := R.2.2.1
  unfold fX10_audit fX11_audit
  rw [qa_100_0 hF hX, b1_s, qt_101 hF, b1_s, mG9, b1_s, hN.k9]
  rcases b_ever R hT v1 with ⟨t, ht, rfl, e1, e2⟩ | ⟨ho, e1, e2⟩
  · obtain ⟨k0, k1, k3, k7, k8, -⟩ := hT.k ht
    rw [e1, b2_s, oe_1, e2, b2_s, if_neg (show ¬ (1 : Int32) = 0 by decide), g_kind R ht, b1_s]
    simp (disch := omega) only [mA0, mA4, b1_s, mX0, mX4, mI_n, hN.k0, hN.k4, nI_if3]
    by_cases g3 : v 0 t = 3
    · rw [if_pos g3, if_pos g3]
      exact ⟨_, rfl, rfl⟩
    rw [if_neg g3, if_neg g3]
    by_cases c0 : v2 = 0
    · subst c0
      rw [if_pos rfl, if_neg (by decide), if_pos (by decide), if_pos rfl, g_exit R ht, b1_s]
      exact ⟨_, rfl, rfl⟩
    by_cases c1 : v2 = 1
    · subst c1
      rw [if_neg (by decide), if_pos rfl, if_neg (by decide), if_pos (by decide), if_neg (by decide), qa_100_0 hF hX, b1_s, qt_101 hF, b1_s, e_weightOfGates R hT ht, b2_s, qa_100_1 hF hX, b1_s, qt_103 hF, b1_s, e_weightUnderWay R hL ht, b2_s, s_audit_48 hT hL hN ht]
      refine ⟨_, rfl, ?_⟩
      rw [Int32.zero_add, Int32.zero_add]
    rw [if_neg c0, if_neg c1]
    by_cases c2 : v2 < 0
    · rw [if_pos c2]
      exact ⟨_, rfl, rfl⟩
    · rw [if_neg c2, if_neg]
      · exact ⟨_, rfl, rfl⟩
      · intro h
        have h1 : v2.toInt = 0 ∨ v2.toInt = 1 := by
          rw [fa_lt] at c2
          rw [fa_le] at h
          have e0 : (0 : Int32).toInt = 0 := rfl
          have e1 : (1 : Int32).toInt = 1 := rfl
          omega
        rcases h1 with h1 | h1
        · exact c0 ((fa_eq _ _).mpr h1)
        · exact c1 ((fa_eq _ _).mpr h1)
  · rw [e1, b2_s, oe_0, e2, b2_s, if_pos rfl]
    exact ⟨_, rfl, rfl⟩)
end RD2
