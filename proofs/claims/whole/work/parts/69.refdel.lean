section RD3
variable {d d' : AD} {c c' : CH} {v v' : Nu} {u u' : Mu} {w w' : Me} {n q z m r t p k l b0 g wt x h : Nat} {D : Nat → Prop}
theorem s_named74 (hN : Nv v u) (hT : iT v) (hl : l < 600) (hr : v 19 l = r + 1) (hp : v 20 l = p + 1) (hr9 : r < v 9 0) (hp3 : p < v 3 r) : ∃ u', fX11_named_74 q (nI l) (nI x) (mB q z u w) = some ((), mB q z u' w) ∧ Nv (plc v r p 1 x (v 12 (8 * r + p))) u' ∧ ∀ i, u' 2 i = u 2 i := by
  obtain ⟨u1, e1, hN1, hu1⟩ := s_lay (q := q) (z := z) (w := w) (y := x) hN hT hr9 hp3
  have a1 : u 19 l = nI r := by rw [hN.k19, hr, dv_e rfl]
  have a2 : u 20 l = nI p := by rw [hN.k20, hp, dv_e rfl]
  unfold fX11_named_74
  rw [mA19, b1_s, mX19, mI_n hl (by decide), b1_s, a1, mA20, b1_s, mX20, mI_n hl (by decide), b1_s, a2, mtg, b1_s, e1, b2_s]
  exact ⟨u1, rfl, hN1, hu1⟩
theorem s_nameOwn (hN : Nv v u) (hT : iT v) (hl : l < 600) (hr : v 19 l = r + 1) (hp : v 20 l = p + 1) (hr9 : r < v 9 0) (hp3 : p < v 3 r) (ht : t < v 9 0) (ht3 : v 0 t ≠ 3) (hw : v 18 l ≤ v 4 t) (hh : v 1 t = h) : ∃ u', fX11_named q (nI l) (nI t) (nI h) (mB q z u w) = some ((), mB q z u' w) ∧ Nv (plc (tkv v t (v 18 l)) r p 1 t (v 12 (8 * r + p))) u' ∧ ∀ i, u' 2 i = u 2 i := by
  have hb := hT.1
  have k8 := (hT.k ht).2.2.2.2.1
  have k4 := (hT.k ht).2.2.2.2.2.1
  obtain ⟨u1, e1, hN1, hu1⟩ := s_takes (q := q) (z := z) (w := w) hN hT ht hw
  have hT1 : iT (tkv v t (v 18 l)) := by
    refine iT.brk (v := zu v 4 t (v 4 t - v 18 l)) (hT.exit ht ht3 (by omega)) ht3 ?_
    split <;> omega
  obtain ⟨u2, e2, hN2, hu2⟩ := s_named74 (v := tkv v t (v 18 l)) (q := q) (z := z) (w := w) (x := t) hN1 hT1 hl hr hp hr9 hp3
  unfold fX11_named
  rw [mA1, b1_s, mX1, mI_n (by omega) (by decide), b1_s, hN.k1, if_pos (by rw [hh]), mA18, b1_s, mX18, mI_n hl (by decide), b1_s, hN.k18, mtg, b1_s, e1, b2_s, e2]
  exact ⟨u2, rfl, hN2, fun i => (hu2 i).trans (hu1 i)⟩
theorem s_nameGate (hN : Nv v u) (hT : iT v) (hl : l < 600) (hr : v 19 l = r + 1) (hp : v 20 l = p + 1) (hr9 : r < v 9 0) (hp3 : p < v 3 r) (ht : t < v 9 0) (h8 : h < 8) (hh : v 1 t ≠ h) (hg : gfi v (nI h) t = g) (hg9 : g < v 9 0) (hg3 : v 0 g = 3) (hw : v 6 g + v 18 l ≤ 40000) : ∃ u', fX11_named q (nI l) (nI t) (nI h) (mB q z u w) = some ((), mB q z u' w) ∧ Nv (plc (zu v 6 g (v 6 g + v 18 l)) r p 1 g (v 12 (8 * r + p))) u' ∧ ∀ i, u' 2 i = u 2 i := by
  have hb := hT.1
  have k1 := (hT.k ht).2.1
  have g1 := (hT.g hg9 hg3).2.2.2
  have hN1 : Nv (zu v 6 g (v 6 g + v 18 l)) (zu u 6 g (nI (v 6 g + v 18 l))) := hN.wr (by rw [dv_n rfl])
  have hT1 : iT (zu v 6 g (v 6 g + v 18 l)) := hT.weight hg9 hg3 (by omega)
  obtain ⟨u2, e2, hN2, hu2⟩ := s_named74 (v := zu v 6 g (v 6 g + v 18 l)) (q := q) (z := z) (w := w) (x := g) hN1 hT1 hl hr hp hr9 hp3
  unfold fX11_named
  rw [mA1, b1_s, mX1, mI_n (by omega) (by decide), b1_s, hN.k1, nI_ifeq (by omega) (by omega), if_neg hh, mtg, b1_s, s_gateOf hT hN ht, b2_s, hg, if_pos hg9, if_neg (nI_m1 (by omega))]
  unfold fX11_named_58
  rw [mA6, b1_s, mX6, mI_n (by omega) (by decide), b1_s, hN.k6, mA18, b1_s, mX18, mI_n hl (by decide), b1_s, hN.k18, nI_add, mY6 (mC_n (by omega) (by decide)), b1_s, nI_c (by omega), e2]
  exact ⟨u2, rfl, hN2, fun i => hu2 i⟩
theorem s_nameNew (hN : Nv v u) (hT : iT v) (hF : iF v u) (hl : l < 600) (hr : v 19 l = r + 1) (hp : v 20 l = p + 1) (hr9 : r < v 9 0) (hp3 : p < v 3 r) (ht : t < v 9 0) (h8 : h < 8) (hh : v 1 t ≠ h) (hg : ¬ gfi v (nI h) t < v 9 0) (h300 : v 9 0 < 300) (hT2 : iT (mk5 v 3 h 0 (t + 1) (v 18 l))) : ∃ u', fX11_named q (nI l) (nI t) (nI h) (mB q z u w) = some ((), mB q z u' w) ∧ Nv (plc (mk5 v 3 h 0 (t + 1) (v 18 l)) r p 1 (v 9 0) (v 12 (8 * r + p))) u' ∧ ∀ i, u' 2 i = u 2 i := by
  have hb := hT.1
  have k1 := (hT.k ht).2.1
  obtain ⟨f1, f2, f3, f4, f5, f6, f7⟩ := hF _ (Nat.le_refl _) h300
  obtain ⟨u1, e1, hN1, hu1⟩ := s_make2 (q := q) (z := z) (w := w) (kd := 3) (h := h) (pl := 0) hN h300
  have e1' : fX11_make q 3 (nI h) 0 (mB q z u w) = some (nI (v 9 0), mB q z u1 w) := e1
  have hN2 : Nv (mk5 v 3 h 0 (t + 1) (v 18 l)) (zu (zu u1 5 (v 9 0) (nI t)) 6 (v 9 0) (nI (v 18 l))) := (hN1.wr (by rw [dv_e rfl])).wr (by rw [dv_n rfl])
  have e3 := (mk5_0 (v := v) (kd := 3) (h := h) (pl := 0) (m := t + 1) (wt := v 18 l) hr9).2.2.1
  obtain ⟨u2, e2, hN3, hu2⟩ := s_named74 (v := mk5 v 3 h 0 (t + 1) (v 18 l)) (q := q) (z := z) (w := w) (x := v 9 0) hN2 hT2 hl hr hp (by rw [mk5_9]; omega) (by rw [e3]; exact hp3)
  have q6 : zu u1 5 (v 9 0) (nI t) 6 (v 9 0) = nI 0 := by
    show u1 6 (v 9 0) = _
    rw [hN1.k6]
    have : mkv v 3 h 0 6 (v 9 0) = 0 := f3
    rw [this]
  have q18 : zu u1 5 (v 9 0) (nI t) 18 l = nI (v 18 l) := hN1.k18 l
  unfold fX11_named
  rw [mA1, b1_s, mX1, mI_n (by omega) (by decide), b1_s, hN.k1, nI_ifeq (by omega) (by omega), if_neg hh, mtg, b1_s, s_gateOf hT hN ht, b2_s, if_neg hg, if_pos rfl, mtg, b1_s, e1', b2_s, mA5, b1_s, mY5 (mC_n h300 (by decide)), b1_s, nI_c (by omega)]
  unfold fX11_named_58
  rw [mA6, b1_s, mX6, mI_n (by omega) (by decide), b1_s, q6, mA18, b1_s, mX18, mI_n hl (by decide), b1_s, q18, nI_add, Nat.zero_add, mY6 (mC_n h300 (by decide)), b1_s, nI_c (by omega), e2]
  exact ⟨u2, rfl, hN3, fun i => (hu2 i).trans (hu1 i)⟩
/-! GIVE in the reference -/
def wpt (v : Nu) (i k : Nat) : Nu := fun f j => if 26 ≤ f ∧ f ≤ 28 ∧ i ≤ j ∧ j < k then v f (j + 1) else if f = 29 ∧ j = 0 then v 29 0 - 1 else v f j
theorem wpt_end {i : Nat} : wpt v i (v 29 0 - 1) = wrv v i := by
  funext f j
  simp only [wpt, wrv]
  by_cases e : 26 ≤ f ∧ f ≤ 28 ∧ i ≤ j ∧ j + 1 < v 29 0
  · rw [if_pos e, if_pos (by omega)]
  · rw [if_neg e, if_neg (by omega)]
theorem wpt_s {i k : Nat} (hik : i ≤ k) : zu (zu (zu (wpt v i k) 26 k (v 26 (k + 1))) 27 k (v 27 (k + 1))) 28 k (v 28 (k + 1)) = wpt v i (k + 1) := by
  funext f j
  simp only [zu, wpt]
  by_cases e1 : 26 ≤ f ∧ f ≤ 28 ∧ j = k
  · obtain ⟨a1, a2, rfl⟩ := e1
    rw [if_pos (show 26 ≤ f ∧ f ≤ 28 ∧ i ≤ j ∧ j < j + 1 by omega)]
    rcases (show f = 26 ∨ f = 27 ∨ f = 28 by omega) with rfl | rfl | rfl <;> simp
  · rw [if_neg (by omega), if_neg (by omega), if_neg (by omega)]
    by_cases e2 : 26 ≤ f ∧ f ≤ 28 ∧ i ≤ j ∧ j < k
    · rw [if_pos e2, if_pos (by omega)]
    · rw [if_neg e2, if_neg (show ¬ (26 ≤ f ∧ f ≤ 28 ∧ i ≤ j ∧ j < k + 1) by omega)]
theorem s_given66 {i rt pl : Nat} (h16 : v 29 0 ≤ 16) (hi : i < v 29 0) : ∀ (m k n' : Nat) (u : Mu), k + m = v 29 0 - 1 → i ≤ k → m < n' → Nv (wpt v i k) u → ∃ u', fX11_given_66 n' q (nI g) (nI k) (nI rt) (nI pl) (mB q z u w) = (b1 (tg 11 q (mB q z u' w)) fun _ => (b2 (fX11_half q (nI g) (nI rt) (nI pl) (mB q z u' w)) fun x4 s5 => some ((), s5))) ∧ Nv (wrv v i) u' ∧ ∀ j, u' 2 j = u 2 j := by
  intro m
  induction m with
  | zero =>
    intro k n' u e1 e2 e3 hN
    obtain ⟨n', rfl⟩ : ∃ a, n' = a + 1 := ⟨n' - 1, by omega⟩
    have ek : k = v 29 0 - 1 := by omega
    have e29 : u 29 0 = nI (v 29 0 - 1) := by
      rw [hN.k29]
      simp [wpt]
    rw [fX11_given_66, mG29, b1_s, e29, ek, if_pos (Int32.le_refl _)]
    rw [ek, wpt_end] at hN
    exact ⟨u, rfl, hN, fun _ => rfl⟩
  | succ m ih =>
    intro k n' u e1 e2 e3 hN
    obtain ⟨n', rfl⟩ : ∃ a, n' = a + 1 := ⟨n' - 1, by omega⟩
    have e29 : u 29 0 = nI (v 29 0 - 1) := by
      rw [hN.k29]
      simp [wpt]
    have a26 : u 26 (k + 1) = nI (v 26 (k + 1)) := by
      rw [hN.k26]
      simp only [wpt]
      rw [if_neg (by omega), if_neg (by omega)]
    have a27 : u 27 (k + 1) = nI (v 27 (k + 1)) := by
      rw [hN.k27]
      simp only [wpt]
      rw [if_neg (by omega), if_neg (by omega)]
    have a28 : u 28 (k + 1) = nI (v 28 (k + 1)) := by
      rw [hN.k28]
      simp only [wpt]
      rw [if_neg (by omega), if_neg (by omega)]
    have C := mC_n (show k < 16 by omega) (show (16 : Nat) < 2147483648 by decide)
    have hN2 := ((hN.wr (k := 26) (i := k) (n := v 26 (k + 1)) (x := nI (v 26 (k + 1))) (by rw [dv_n rfl])).wr (k := 27) (i := k) (n := v 27 (k + 1)) (x := nI (v 27 (k + 1))) (by rw [dv_n rfl])).wr (k := 28) (i := k) (n := v 28 (k + 1)) (x := nI (v 28 (k + 1))) (by rw [dv_n rfl])
    rw [wpt_s e2] at hN2
    obtain ⟨u', f1, f2, f3⟩ := ih (k + 1) n' _ (by omega) (by omega) (by omega) hN2
    have b27 : zu u 26 k (nI (v 26 (k + 1))) 27 (k + 1) = nI (v 27 (k + 1)) := a27
    have b28 : zu (zu u 26 k (nI (v 26 (k + 1)))) 27 k (nI (v 27 (k + 1))) 28 (k + 1) = nI (v 28 (k + 1)) := a28
    rw [fX11_given_66, mG29, b1_s, e29, nI_ifle (by omega) (by omega), if_neg (by omega), mA26, b1_s, b1_s, nI_1, mX26, mI_n (by omega) (by decide), b1_s, a26, mY26 C, b1_s, nI_c (by omega), mA27, b1_s, b1_s, mX27, mI_n (by omega) (by decide), b1_s, b27, mY27 C, b1_s, nI_c (by omega), mA28, b1_s, b1_s, mX28, mI_n (by omega) (by decide), b1_s, b28, mY28 C, b1_s, nI_c (by omega)]
    exact ⟨u', f1, f2, fun j => f3 j⟩
theorem wpt_0 {i : Nat} : wpt v i i = zu v 29 0 (v 29 0 - 1) := by
  funext f j
  simp only [wpt, zu]
  rw [if_neg (by omega)]
theorem s_given21 {k0 : Nat} (hN : Nv v u) (hT : iT v) (h16 : v 29 0 ≤ 16) (hlt : ∀ k, k < v 29 0 → v 26 k < v 9 0) (hg : g < v 9 0) (hk : k0 < v 29 0) (hk0 : v 26 k0 = g) (hno : ∀ j, j < k0 → v 26 j ≠ g) : ∀ (m k n' : Nat), k + m = k0 → m < n' → fX11_given_21 n' q (nI g) (nI k) (mB q z u w) = fX11_given_66 100000 q (nI g) (nI k0) (nI (v 27 k0)) (nI (v 28 k0)) (mB q z (zu u 29 0 (nI (v 29 0 - 1))) w) := by
  have hb := hT.1
  intro m
  induction m with
  | zero =>
    intro k n' e1 e2
    obtain ⟨n', rfl⟩ : ∃ a, n' = a + 1 := ⟨n' - 1, by omega⟩
    have : k = k0 := by omega
    subst this
    have e3 : nI (v 29 0) - 1 = nI (v 29 0 - 1) := by rw [show v 29 0 = (v 29 0 - 1) + 1 by omega, nI_pred]; rfl
    rw [fX11_given_21, mA26, b1_s, mX26, mI_n (by omega) (by decide), b1_s, hN.k26, hk0, if_pos rfl, mA27, b1_s, mX27, mI_n (by omega) (by decide), b1_s, hN.k27, mA28, b1_s, mX28, mI_n (by omega) (by decide), b1_s, hN.k28, mG29, b1_s, hN.k29, e3, mP29, b1_s]
  | succ m ih =>
    intro k n' e1 e2
    obtain ⟨n', rfl⟩ : ∃ a, n' = a + 1 := ⟨n' - 1, by omega⟩
    have h26 := hlt k (by omega)
    rw [fX11_given_21, mA26, b1_s, mX26, mI_n (by omega) (by decide), b1_s, hN.k26, nI_ifeq (by omega) (by omega), if_neg (hno k (by omega)), nI_1]
    exact ih (k + 1) n' (by omega) (by omega)
theorem s_given {k0 : Nat} (hN : Nv v u) (hT : iT v) (hW : iW v) (h600 : v 24 0 < 600) (h22 : v 22 (v 24 0) = 0) (ht : t < v 9 0) (h8 : h < 8) (hg : gfi v (nI h) t = v 26 k0) (hk : k0 < v 29 0) (hno : ∀ j, j < k0 → v 26 j ≠ v 26 k0) (hg5 : v 5 (v 26 k0) = t + 1) (hw : v 6 (v 26 k0) + 64 ≤ 40000) : ∃ u', fX11_given q (nI t) (nI h) (mB q z u w) = some ((), mB q z u' w) ∧ Nv (ltz (zu (wrv (zu v 6 (v 26 k0) (v 6 (v 26 k0) + 64)) k0) 6 (v 26 k0) (v 6 (v 26 k0) + 64 - (v 6 (v 26 k0) + 64) / 2)) 0 (v 1 (v 27 k0)) (v 1 (v 26 k0)) t ((v 6 (v 26 k0) + 64) / 2) (v 27 k0 + 1) (v 28 k0 + 1) 0 0) u' ∧ ∀ i, u' 2 i = u 2 i := by
  have hb := hT.1
  obtain ⟨w1, w2, w3, w4, w5, w6⟩ := hW.2 k0 hk
  have hT1 : iT (zu v 6 (v 26 k0) (v 6 (v 26 k0) + 64)) := hT.weight w1 w2 (by omega)
  have hN1 : Nv (zu v 6 (v 26 k0) (v 6 (v 26 k0) + 64)) (zu u 6 (v 26 k0) (nI (v 6 (v 26 k0) + 64))) := hN.wr (by rw [dv_n rfl])
  have g21 := s_given21 (v := zu v 6 (v 26 k0) (v 6 (v 26 k0) + 64)) (q := q) (z := z) (w := w) (g := v 26 k0) hN1 hT1 hW.1 (fun k hk => (hW.2 k hk).1) w1 hk rfl hno k0 0 100000 (by omega) (by have := hW.1; omega)
  have hN2 : Nv (wpt (zu v 6 (v 26 k0) (v 6 (v 26 k0) + 64)) k0 k0) (zu (zu u 6 (v 26 k0) (nI (v 6 (v 26 k0) + 64))) 29 0 (nI (v 29 0 - 1))) := by
    rw [wpt_0]
    exact hN1.wr (by rw [dv_n rfl]; rfl)
  obtain ⟨u2, e2, hN3, hu2⟩ := s_given66 (v := zu v 6 (v 26 k0) (v 6 (v 26 k0) + 64)) (q := q) (z := z) (w := w) (g := v 26 k0) (rt := v 27 k0) (pl := v 28 k0) hW.1 hk (v 29 0 - 1 - k0) k0 100000 _ (by show k0 + _ = v 29 0 - 1; omega) (Nat.le_refl _) (by have := hW.1; omega) hN2
  have hT3 : iT (wrv (zu v 6 (v 26 k0) (v 6 (v 26 k0) + 64)) k0) := hT1
  have e6 : wrv (zu v 6 (v 26 k0) (v 6 (v 26 k0) + 64)) k0 6 (v 26 k0) = v 6 (v 26 k0) + 64 := by
    show zu v 6 (v 26 k0) (v 6 (v 26 k0) + 64) 6 (v 26 k0) = _
    exact zu_s
  obtain ⟨u3, e3, hN4, hu3⟩ := s_half (v := wrv (zu v 6 (v 26 k0) (v 6 (v 26 k0) + 64)) k0) (q := q) (z := z) (w := w) (g := v 26 k0) (m := t) (p := v 28 k0) (root := v 27 k0) hN3 hT3 h600 h22 w1 hg5 w4
  rw [e6] at hN4
  have e64 : nI (v 6 (v 26 k0)) + 64 = nI (v 6 (v 26 k0) + 64) := nI_add _ 64
  unfold fX11_given
  rw [mtg, b1_s, s_gateOf hT hN ht, b2_s, hg, if_pos w1, mA6, b1_s, mX6, mI_n (by omega) (by decide), b1_s, hN.k6, e64, mY6 (mC_n (by omega) (by decide)), b1_s, nI_c (by omega)]
  refine ⟨u3, ?_, hN4, fun i => (hu3 i).trans (hu2 i)⟩
  refine Eq.trans g21 (Eq.trans e2 ?_)
  rw [mtg, b1_s, e3, b2_s]
/-! the reference's deliver, ahead of the kinds -/
theorem s_deliver (hN : Nv v u) (hT : iT v) (hL : iL v) (hl : l < v 24 0) (h23 : v 23 l = 1) : fX11_deliver q (nI l) (mB q z u w) = if v 14 l = 0 ∧ v 1 (v 17 l) ≠ v 15 l ∧ ¬ gfi v (nI (v 15 l)) (v 17 l) < v 9 0 then fX11_deliver_86 q (nI l) (nI (v 17 l)) (nI (v 15 l)) 1 (mB q z u w) else fX11_deliver_86 q (nI l) (nI (v 17 l)) (nI (v 15 l)) 0 (mB q z u w) := by
  obtain ⟨o1, o2, o3, o4, o5, o6, -⟩ := hL.2.1 l hl
  have hb := hT.1
  have hb2 := hL.1
  have k1 := (hT.k o4).2.1
  unfold fX11_deliver fX11_deliver_85
  rw [mG24, b1_s, hN.k24, isIn_n hl (by omega), b2_s, if_neg (show ¬ (1 : Int32) = 0 by decide)]
  simp (disch := omega) only [mA23, mA17, mA15, mA14, mA1, b1_s, mX23, mX17, mX15, mX14, mX1, mI_n, hN.k23, hN.k17, hN.k15, hN.k14, hN.k1, nI_if0]
  rw [if_neg (show ¬ v 23 l = 0 by omega)]
  by_cases h0 : v 14 l = 0
  · rw [if_pos h0, nI_ifeq (by omega) (by omega)]
    by_cases hh : v 1 (v 17 l) = v 15 l
    · rw [if_pos hh, if_neg (fun h => h.2.1 hh)]
    · rw [if_neg hh, mtg, b1_s, s_gateOf hT hN o4, b2_s]
      by_cases hg : gfi v (nI (v 15 l)) (v 17 l) < v 9 0
      · rw [if_pos hg, if_neg (nI_m1 (by omega)), if_neg (fun h => h.2.2 hg)]
      · rw [if_neg hg, if_pos rfl, if_pos ⟨h0, hh, hg⟩]
  · rw [if_neg h0, if_neg (fun h => h0 h.1)]
theorem s_sends (hN : Nv v u) (hl : l < 600) (h5 : v 14 l ≤ 5) (h4 : v 14 l ≠ 4) : fX11_sends q (nI l) (mB q z u w) = some (if v 14 l = 1 ∨ v 14 l = 2 then 1 else 0, mB q z u w) := by
  unfold fX11_sends
  simp (disch := omega) only [mA14, b1_s, mX14, mI_n, hN.k14]
  rcases (show v 14 l = 0 ∨ v 14 l = 1 ∨ v 14 l = 2 ∨ v 14 l = 3 ∨ v 14 l = 5 by omega) with h | h | h | h | h <;> rw [h] <;> rfl
/-- from the tests on -/
theorem s_deliver86 {f : Nat} (hN : Nv v u) (hT : iT v) (hL : iL v) (hl : l < v 24 0) (h4 : v 14 l ≠ 4) (hf : f ≤ 1) : fX11_deliver_86 q (nI l) (nI t) (nI h) (nI f) (mB q z u w) = if (600 < v 24 0 + (if v 14 l = 1 ∨ v 14 l = 2 then 1 else 0)) ∨ (f = 1 ∧ v 9 0 = 300) then fX11_deliver_119 q (mB q z u w) else fX11_deliver_126 q (nI l) (nI t) (nI h) (mB q z u w) := by
  obtain ⟨o1, o2, o3, o4, o5, o6, -⟩ := hL.2.1 l hl
  have hb := hT.1
  have hb2 := hL.1
  unfold fX11_deliver_86
  rw [mG24, b1_s, hN.k24, mtg, b1_s, s_sends hN (by omega) o1 h4, b2_s]
  have e1 : nI (v 24 0) + (if v 14 l = 1 ∨ v 14 l = 2 then (1 : Int32) else 0) = nI (v 24 0 + (if v 14 l = 1 ∨ v 14 l = 2 then 1 else 0)) := by
    by_cases h : v 14 l = 1 ∨ v 14 l = 2
    · rw [if_pos h, if_pos h]; exact nI_add _ 1
    · rw [if_neg h, if_neg h]; exact nI_add _ 0
  have e2 : (if v 14 l = 1 ∨ v 14 l = 2 then 1 else 0 : Nat) ≤ 1 := by split <;> omega
  rw [e1]
  by_cases h6 : 600 < v 24 0 + (if v 14 l = 1 ∨ v 14 l = 2 then 1 else 0)
  · rw [if_pos (show (600 : Int32) < nI (v 24 0 + (if v 14 l = 1 ∨ v 14 l = 2 then 1 else 0)) from nI_lt (a := 600) h6 (by omega)), if_pos (Or.inl h6)]
  · rw [if_neg (show ¬ (600 : Int32) < nI (v 24 0 + (if v 14 l = 1 ∨ v 14 l = 2 then 1 else 0)) from nI_nlt (a := 600) (by omega) (by decide)), nI_if0 (by omega)]
    by_cases hf0 : f = 0
    · rw [if_pos hf0, if_neg (by omega)]
    · rw [if_neg hf0, mG9, b1_s, hN.k9, i300 hb]
      by_cases h3 : v 9 0 = 300
      · rw [if_pos h3, if_pos (Or.inr ⟨by omega, h3⟩)]
      · rw [if_neg h3, if_neg (by omega)]
end RD3
