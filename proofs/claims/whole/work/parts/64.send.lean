section SN
variable {n q z t p x y h s l kd to fr wt rt pl wk st rt0 pl0 wk0 st0 b0 : Nat} {D : Nat → Prop} {d : AD} {c : CH} {v v' : Nu} {u u' : Mu} {w w' : Me}
theorem ltz_19 : zu (ltz v kd to fr t wt rt0 pl wk st) 19 (v 24 0) rt = ltz v kd to fr t wt rt pl wk st := by
  rw [← ltv_eq, ← ltv_eq]
  funext k i
  simp only [zu, ltv]
  by_cases e1 : i = v 24 0 ∧ 14 ≤ k ∧ k ≤ 23
  · rw [if_pos e1, if_pos e1]
    by_cases e2 : k = 19
    · subst e2; simp [e1.1]
    · simp [e2]
  · rw [if_neg e1, if_neg e1, if_neg (by omega)]
theorem ltz_20 : zu (ltz v kd to fr t wt rt pl0 wk st) 20 (v 24 0) pl = ltz v kd to fr t wt rt pl wk st := by
  rw [← ltv_eq, ← ltv_eq]
  funext k i
  simp only [zu, ltv]
  by_cases e1 : i = v 24 0 ∧ 14 ≤ k ∧ k ≤ 23
  · rw [if_pos e1, if_pos e1]
    by_cases e2 : k = 20
    · subst e2; simp [e1.1]
    · simp [e2]
  · rw [if_neg e1, if_neg e1, if_neg (by omega)]
theorem ltz_21 : zu (ltz v kd to fr t wt rt pl wk0 st) 21 (v 24 0) wk = ltz v kd to fr t wt rt pl wk st := by
  rw [← ltv_eq, ← ltv_eq]
  funext k i
  simp only [zu, ltv]
  by_cases e1 : i = v 24 0 ∧ 14 ≤ k ∧ k ≤ 23
  · rw [if_pos e1, if_pos e1]
    by_cases e2 : k = 21
    · subst e2; simp [e1.1]
    · simp [e2]
  · rw [if_neg e1, if_neg e1, if_neg (by omega)]
theorem ltz_22 : zu (ltz v kd to fr t wt rt pl wk st0) 22 (v 24 0) st = ltz v kd to fr t wt rt pl wk st := by
  rw [← ltv_eq, ← ltv_eq]
  funext k i
  simp only [zu, ltv]
  by_cases e1 : i = v 24 0 ∧ 14 ≤ k ∧ k ≤ 23
  · rw [if_pos e1, if_pos e1]
    by_cases e2 : k = 22
    · subst e2; simp [e1.1]
    · simp [e2]
  · rw [if_neg e1, if_neg e1, if_neg (by omega)]
theorem ltz_id (h : v 22 (v 24 0) = 0) : ltz v kd to fr t wt rt pl wk 0 = zu (zu (zu (zu (zu (zu (zu (zu (zu (zu v 14 (v 24 0) kd) 15 (v 24 0) to) 16 (v 24 0) fr) 17 (v 24 0) t) 18 (v 24 0) wt) 19 (v 24 0) rt) 20 (v 24 0) pl) 21 (v 24 0) wk) 23 (v 24 0) 1) 24 0 (v 24 0 + 1) := by
  have : zu (zu (zu (zu (zu (zu (zu (zu (zu v 14 (v 24 0) kd) 15 (v 24 0) to) 16 (v 24 0) fr) 17 (v 24 0) t) 18 (v 24 0) wt) 19 (v 24 0) rt) 20 (v 24 0) pl) 21 (v 24 0) wk) 22 (v 24 0) 0 = zu (zu (zu (zu (zu (zu (zu (zu v 14 (v 24 0) kd) 15 (v 24 0) to) 16 (v 24 0) fr) 17 (v 24 0) t) 18 (v 24 0) wt) 19 (v 24 0) rt) 20 (v 24 0) pl) 21 (v 24 0) wk := zu_id h
  simp only [ltz]
  rw [this]
theorem ltz_tch {g : Nat} : ltz (tch v g) kd to fr t wt rt pl wk st = tch (ltz v kd to fr t wt rt pl wk st) g := by
  funext k i
  simp only [ltz, tch, zu]
  by_cases e : k = 30
  · subst e
    simp
  · simp [e]
theorem wav_tch {g a b e : Nat} : wav (tch v g) a b e = tch (wav v a b e) g := by
  funext k i
  simp only [wav, tch, zu]
  by_cases e : k = 30
  · subst e
    simp
  · simp [e]
theorem zu_tch {g f i e : Nat} (hf : f ≠ 30) : zu (tch v g) f i e = tch (zu v f i e) g := by
  funext k j
  simp only [tch, zu]
  by_cases e1 : k = 30
  · subst e1
    have : ¬ 30 = f := fun h => hf h.symm
    simp [this]
  · simp [e1]
theorem s_letter (hN : Nv v u) (h600 : v 24 0 < 600) (h22 : v 22 (v 24 0) = 0) : ∃ u', fX11_letter q (nI kd) (nI to) (nI fr) (nI t) (nI wt) (mB q z u w) = some (nI (v 24 0), mB q z u' w) ∧ Nv (ltz v kd to fr t wt 0 0 0 0) u' ∧ ∀ i, u' 2 i = u 2 i := by
  unfold fX11_letter
  have C := mC_n h600 (show (600 : Nat) < 2147483648 by decide)
  rw [mG24, b1_s, hN.k24, mA14, b1_s, mY14 C, b1_s, mA15, b1_s, mY15 C, b1_s, mA16, b1_s, mY16 C, b1_s, mA17, b1_s, mY17 C, b1_s, mA18, b1_s, mY18 C, b1_s, mA19, b1_s, mY19 C, b1_s, mA20, b1_s, mY20 C, b1_s, mA21, b1_s, mY21 C, b1_s, mA23, b1_s, mY23 C, b1_s, mG24, b1_s, mP24, b1_s, nI_c (by omega), nar1]
  refine ⟨_, rfl, ?_, fun i => rfl⟩
  rw [ltz_id h22]
  refine (((((((((hN.wr (by rw [dv_n rfl])).wr (by rw [dv_n rfl])).wr (by rw [dv_n rfl])).wr (by rw [dv_n rfl])).wr (by rw [dv_n rfl])).wr (by rw [dv_0 rfl])).wr (by rw [dv_0 rfl])).wr (by rw [dv_0 rfl])).wr (by rw [dv_n rfl]; rfl)).wr ?_
  show u 24 0 + 1 = _
  rw [hN.k24, nI_1, dv_n rfl]
theorem s_name {root : Nat} (hN : Nv v u) (hb : v 9 0 ≤ 300) (h600 : v 24 0 < 600) (h22 : v 22 (v 24 0) = 0) (hr : root < v 9 0) : ∃ u', fX11_name q (nI t) (nI wt) (nI fr) (nI root) (nI p) (mB q z u w) = some (nI (v 24 0), mB q z u' w) ∧ Nv (ltz v 0 (v 1 root) fr t wt (root + 1) (p + 1) 0 0) u' ∧ ∀ i, u' 2 i = u 2 i := by
  obtain ⟨u1, e1, hN1, hu1⟩ := s_letter (q := q) (z := z) (w := w) (kd := 0) (to := v 1 root) (fr := fr) (t := t) (wt := wt) hN h600 h22
  have e1' : fX11_letter q 0 (nI (v 1 root)) (nI fr) (nI t) (nI wt) (mB q z u w) = _ := e1
  unfold fX11_name
  have C := mC_n h600 (show (600 : Nat) < 2147483648 by decide)
  rw [mA1, b1_s, mX1, mI_n (by omega) (by decide), b1_s, hN.k1, mtg, b1_s, e1', b2_s, mA19, b1_s, mY19 C, b1_s, mA20, b1_s, mY20 C, b1_s, nI_c (by omega)]
  refine ⟨_, rfl, ?_, fun i => hu1 i⟩
  have h3 := (hN1.wr (k := 19) (i := v 24 0) (n := root + 1) (x := nI root) (by rw [dv_e rfl])).wr (k := 20) (i := v 24 0) (n := p + 1) (x := nI p) (by rw [dv_e rfl])
  rw [ltz_19, ltz_20] at h3
  exact h3
theorem s_half {g m root : Nat} (hN : Nv v u) (hT : iT v) (h600 : v 24 0 < 600) (h22 : v 22 (v 24 0) = 0) (hg : g < v 9 0) (h5 : v 5 g = m + 1) (hr : root < v 9 0) : ∃ u', fX11_half q (nI g) (nI root) (nI p) (mB q z u w) = some (nI (v 24 0), mB q z u' w) ∧ Nv (ltz (zu v 6 g (v 6 g - v 6 g / 2)) 0 (v 1 root) (v 1 g) m (v 6 g / 2) (root + 1) (p + 1) 0 0) u' ∧ ∀ i, u' 2 i = u 2 i := by
  have hb := hT.1
  have k6 := (hT.k hg).2.2.2.2.2.2
  have e2 : nI (v 6 g) / 2 = nI (v 6 g / 2) := pk_div (a := v 6 g) (d := 2) (by omega) (by decide) (by decide)
  have e3 : nI (v 6 g) - nI (v 6 g / 2) = nI (v 6 g - v 6 g / 2) := pk_sub (by omega)
  have hN1 : Nv (zu v 6 g (v 6 g - v 6 g / 2)) (zu u 6 g (nI (v 6 g - v 6 g / 2))) := hN.wr (by rw [dv_n rfl])
  obtain ⟨u1, e1, hN2, hu1⟩ := s_name (q := q) (z := z) (w := w) (t := m) (wt := v 6 g / 2) (fr := v 1 g) (p := p) (root := root) hN1 hb h600 h22 hr
  have e1' : fX11_name q (nI m) (nI (v 6 g / 2)) (nI (v 1 g)) (nI root) (nI p) (mB q z (zu u 6 g (nI (v 6 g - v 6 g / 2))) w) = some (nI (v 24 0), mB q z u1 w) := e1
  unfold fX11_half
  have r5 : zu u 6 g (nI (v 6 g - v 6 g / 2)) 5 g = nI m := by
    show u 5 g = _
    rw [hN.k5, h5, dv_e rfl]
  have r1 : zu u 6 g (nI (v 6 g - v 6 g / 2)) 1 g = nI (v 1 g) := by
    show u 1 g = _
    rw [hN.k1]
  rw [mA6, b1_s, mX6, mI_n (by omega) (by decide), b1_s, hN.k6, b1_s, mX6, mI_n (by omega) (by decide), b1_s, hN.k6, e2, e3, mY6 (mC_n (by omega) (by decide)), b1_s, nI_c (by omega), mA5, b1_s, mX5, mI_n (by omega) (by decide), b1_s, r5, mA1, b1_s, mX1, mI_n (by omega) (by decide), b1_s, r1, mtg, b1_s, e1', b2_s]
  exact ⟨_, rfl, hN2, fun i => hu1 i⟩
/-! the class -/
theorem e_room1 (R : RC d c v u w) (hb : v 24 0 ≤ 600) : fX2_hasRoom (da d 103 0) 1 (cB d c) = some (if v 24 0 + 1 ≤ 600 then 1 else 0, cB d c) := e_hasRoom (n := 1) R hb (by decide)
theorem e_send0 {o1 o2 : Option Nat} {x3 : Int32} (R : RC d c v u w) (h : v 24 0 = 600) : fX10_sendName (da d 100 0) o1 o2 x3 (cB d c) = some (-1, cB d c) := by
  unfold fX10_sendName
  rw [qa_100_1 R.2.1 R.2.2.1, b1_s, qt_103 R.2.1, b1_s, e_room1 R (by omega), b2_s, if_neg (show ¬ v 24 0 + 1 ≤ 600 by omega), if_pos rfl]
theorem e_send64 {root : Nat} (R : RC d c v u w) (hT : iT v) (h600 : v 24 0 < 600) (ht : t < v 9 0) (h3 : v 0 t ≠ 3) (hr : root < v 9 0) : ∃ d' c', fX10_sendName (da d 100 0) (some (da d 1 t)) (some (da d 1 root)) (nI p) (cB d c) = some (nI (v 24 0), cB d' c') ∧ Ex d d' ∧ RC d' c' (ltz (zu v 4 t (v 4 t + 64)) 0 (v 1 root) (v 1 t) t 64 (root + 1) (p + 1) 0 0) u w := by
  obtain ⟨k0, k1, k3, k7, k8, k4, k6⟩ := hT.k ht
  have R1 := R.exit (e := v 4 t + 64) ht
  obtain ⟨d', c', e1, hE, R2⟩ := e_fileName (fr := v 1 t) (wt := 64) (root := root) (t := t) (p := p) R1 ht hr h600
  have e1' : fX2_fileName (da d 103 0) (nI (v 1 t)) (some (da d 1 t)) 64 (some (da d 1 root)) (nI p) (cB d (kwI 1 t 8 (nI (v 4 t + 64)) c)) = some (nI (v 24 0), cB d' c') := e1
  have e64 : nI (v 4 t) + 64 = nI (v 4 t + 64) := nI_add _ 64
  have gh : gI 5 2 (da d 1 t) (cB d (kwI 1 t 8 (nI (v 4 t + 64)) c)) = some (nI (v 1 t)) := g_host (v := zu v 4 t (v 4 t + 64)) R1 ht
  unfold fX10_sendName
  rw [qa_100_1 R.2.1 R.2.2.1, b1_s, qt_103 R.2.1, b1_s, e_room1 R (by omega), b2_s, if_pos (show v 24 0 + 1 ≤ 600 by omega), if_neg (show ¬ (1 : Int32) = 0 by decide), b1_s, g_kind R ht, b1_s, nI_if3 (by omega), if_neg h3, g_exit R ht, b1_s, e64, cpI (t := 5) R.1.1 (R.t ht).1 rfl, b1_s, qa_100_1 R1.2.1 R1.2.2.1, b1_s, gh, b1_s, qt_103 R1.2.1, b1_s, e1', b2_s]
  rw [ltv_eq] at R2
  exact ⟨d', c', rfl, hE, R2⟩
theorem e_sendHalf {g m root : Nat} (R : RC d c v u w) (hT : iT v) (h600 : v 24 0 < 600) (hg : g < v 9 0) (h3 : v 0 g = 3) (h5 : v 5 g = m + 1) (h6 : 2 ≤ v 6 g) (hr : root < v 9 0) : ∃ d' c', fX10_sendName (da d 100 0) (some (da d 1 g)) (some (da d 1 root)) (nI p) (cB d c) = some (nI (v 24 0), cB d' c') ∧ Ex d d' ∧ RC d' c' (ltz (zu v 6 g (v 6 g - v 6 g / 2)) 0 (v 1 root) (v 1 g) m (v 6 g / 2) (root + 1) (p + 1) 0 0) u w := by
  obtain ⟨k0, k1, k3, k7, k8, k4, k6⟩ := hT.k hg
  obtain ⟨⟨m', m1, m2, m3, m4⟩, -⟩ := hT.g hg h3
  have hmm : m' = m := by omega
  subst hmm
  have R1 := R.weight (e := v 6 g - v 6 g / 2) hg
  obtain ⟨d', c', e1, hE, R2⟩ := e_fileName (fr := v 1 g) (wt := v 6 g / 2) (root := root) (t := m') (p := p) R1 m2 hr h600
  have e1' : fX2_fileName (da d 103 0) (nI (v 1 g)) (some (da d 1 m')) (nI (v 6 g / 2)) (some (da d 1 root)) (nI p) (cB d (kwI 1 g 7 (nI (v 6 g - v 6 g / 2)) c)) = some (nI (v 24 0), cB d' c') := e1
  have e2 : nI (v 6 g) / 2 = nI (v 6 g / 2) := pk_div (a := v 6 g) (d := 2) (by omega) (by decide) (by decide)
  have e3 : nI (v 6 g) - nI (v 6 g / 2) = nI (v 6 g - v 6 g / 2) := pk_sub (by omega)
  have gh : gI 5 2 (da d 1 g) (cB d (kwI 1 g 7 (nI (v 6 g - v 6 g / 2)) c)) = some (nI (v 1 g)) := g_host (v := zu v 6 g (v 6 g - v 6 g / 2)) R1 hg
  have gn : gP 5 6 (da d 1 g) (cB d (kwI 1 g 7 (nI (v 6 g - v 6 g / 2)) c)) = some (some (da d 1 m')) := by
    have := g_named R1 hg
    have h5' : zu v 6 g (v 6 g - v 6 g / 2) 5 g = m' + 1 := m1
    rw [h5', if_neg (by omega)] at this
    exact this
  have gn0 : gP 5 6 (da d 1 g) (cB d c) = some (some (da d 1 m')) := by
    have := g_named R hg
    rw [m1, if_neg (by omega)] at this
    exact this
  have h2 : (2 : Int32) ≤ nI (v 6 g) := nI_le (a := 2) h6 (by omega)
  unfold fX10_sendName
  rw [qa_100_1 R.2.1 R.2.2.1, b1_s, qt_103 R.2.1, b1_s, e_room1 R (by omega), b2_s, if_pos (show v 24 0 + 1 ≤ 600 by omega), if_neg (show ¬ (1 : Int32) = 0 by decide), b1_s, g_kind R hg, b1_s, nI_if3 (by omega), if_pos h3, gn0, b1_s, oe_1, g_weight R hg, b1_s, if_pos h2, b1_s, b1_s, e2, e3, cpI (t := 5) R.1.1 (R.t hg).1 rfl, b1_s, qa_100_1 R1.2.1 R1.2.2.1, b1_s, gh, b1_s, gn, b1_s, qt_103 R1.2.1, b1_s, e1', b2_s]
  rw [ltv_eq] at R2
  exact ⟨d', c', rfl, hE, R2⟩
theorem e_wadd0 {o1 o2 : Option Nat} {x3 : Int32} (R : RC d c v u w) (h : v 29 0 = 16) : fX7_add (da d 105 0) o1 o2 x3 (cB d c) = some (0, cB d c) := by
  unfold fX7_add
  rw [cgI (t := 7) (f105 R.2.1) rfl, b1_s, R.2.2.2.2.2.1.1, qa_105_0 R.2.1 R.2.2.1, b1_s, qn_106 R.2.1 R.2.2.1, b1_s, h, if_neg (show ¬ nI 16 < nI 16 by decide)]
  rfl
theorem e_sendWait {g m root : Nat} (R : RC d c v u w) (hT : iT v) (h600 : v 24 0 < 600) (h16 : v 29 0 ≤ 16) (hg : g < v 9 0) (h3 : v 0 g = 3) (h5 : v 5 g = m + 1) (h6 : v 6 g = 1) (hr : root < v 9 0) : (v 29 0 = 16 ∧ fX10_sendName (da d 100 0) (some (da d 1 g)) (some (da d 1 root)) (nI p) (cB d c) = some (-1, cB d c)) ∨ (v 29 0 < 16 ∧ ∃ d' c', fX10_sendName (da d 100 0) (some (da d 1 g)) (some (da d 1 root)) (nI p) (cB d c) = some (nI (v 24 0), cB d' c') ∧ Ex d d' ∧ RC d' c' (ltz (wav v g root p) 1 (v 1 m) (v 1 g) m 0 0 0 0 0) u w) := by
  obtain ⟨k0, k1, k3, k7, k8, k4, k6⟩ := hT.k hg
  obtain ⟨⟨m', m1, m2, m3, m4⟩, -⟩ := hT.g hg h3
  have hmm : m' = m := by omega
  subst hmm
  have gn0 : gP 5 6 (da d 1 g) (cB d c) = some (some (da d 1 m')) := by
    have := g_named R hg
    rw [m1, if_neg (by omega)] at this
    exact this
  have h2 : ¬ (2 : Int32) ≤ nI 1 := by decide
  unfold fX10_sendName
  rw [qa_100_1 R.2.1 R.2.2.1, b1_s, qt_103 R.2.1, b1_s, e_room1 R (by omega), b2_s, if_pos (show v 24 0 + 1 ≤ 600 by omega), if_neg (show ¬ (1 : Int32) = 0 by decide), b1_s, g_kind R hg, b1_s, nI_if3 (by omega), if_pos h3, gn0, b1_s, oe_1, g_weight R hg, b1_s, h6, if_neg h2, qa_100_2 R.2.1 R.2.2.1, b1_s, qt_105 R.2.1, b1_s]
  by_cases e16 : v 29 0 = 16
  · left
    rw [e_wadd0 R e16, b2_s, if_pos rfl]
    exact ⟨e16, rfl⟩
  · right
    refine ⟨by omega, ?_⟩
    obtain ⟨d1, c1, e1, hE1, R1⟩ := e_wadd (t := g) (root := root) (p := p) R hg hr (by omega)
    have hE100 := (hE1 100 0 (f100 R.2.1)).1
    have hEg := (hE1 1 g (R.t hg).1).1
    obtain ⟨d2, c2, e2, hE2, R2⟩ := e_fileOfWeight (kd := 1) (fr := v 1 g) (to := v 1 m') (wt := 0) (t := m') R1 m2 h600
    have e2' : fX2_fileOfWeight (da d1 103 0) 1 (nI (v 1 g)) (nI (v 1 m')) (some (da d1 1 m')) 0 (cB d1 c1) = some (nI (v 24 0), cB d2 c2) := e2
    have gh : gI 5 2 (da d1 1 g) (cB d1 c1) = some (nI (v 1 g)) := g_host (v := wav v g root p) R1 hg
    have gm : gI 5 2 (da d1 1 m') (cB d1 c1) = some (nI (v 1 m')) := g_host (v := wav v g root p) R1 m2
    have gn : gP 5 6 (da d1 1 g) (cB d1 c1) = some (some (da d1 1 m')) := by
      have := g_named R1 hg
      have h5' : wav v g root p 5 g = m' + 1 := m1
      rw [h5', if_neg (by omega)] at this
      exact this
    rw [e1, b2_s, if_neg (by decide), ← hE100, ← hEg, qa_100_1 R1.2.1 R1.2.2.1, b1_s, gh, b1_s, gn, b1_s, b1_s, gm, b1_s, b1_s, qt_103 R1.2.1, b1_s, e2', b2_s]
    rw [ltv_eq] at R2
    exact ⟨d2, c2, rfl, hE1.trans hE2, R2⟩
end SN
