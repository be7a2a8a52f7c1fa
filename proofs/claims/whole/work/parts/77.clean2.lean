section CL2
variable {d d' : AD} {c c' : CH} {v v' s y : Nu} {u u' u0 : Mu} {w w' w0 : Me} {n q z m r t p k l b0 g wt x h kd to fr rt pl wk st : Nat} {D : Nat → Prop} {K : Nat → Bool}
theorem ltz_zu {f i e : Nat} (hf : f < 14 ∨ 24 < f) : ltz (zu y f i e) kd to fr t wt rt pl wk st = zu (ltz y kd to fr t wt rt pl wk st) f i e := by
  have h24 : zu y f i e 24 0 = y 24 0 := zu_n (by omega)
  simp only [ltz, h24]
  rw [zu_comm (a := 24) (b := f) (by omega), zu_comm (a := 23) (b := f) (by omega), zu_comm (a := 22) (b := f) (by omega), zu_comm (a := 21) (b := f) (by omega), zu_comm (a := 20) (b := f) (by omega), zu_comm (a := 19) (b := f) (by omega), zu_comm (a := 18) (b := f) (by omega), zu_comm (a := 17) (b := f) (by omega), zu_comm (a := 16) (b := f) (by omega), zu_comm (a := 15) (b := f) (by omega), zu_comm (a := 14) (b := f) (by omega)]
theorem s_letter2 (hN : Nv v u) (h600 : v 24 0 < 600) (h22 : v 22 (v 24 0) = 0) : ∃ u', fX11_letter q (nI kd) (nI to) (nI fr) (nI t) (nI wt) (mB q z u w) = some (nI (v 24 0), mB q z u' w) ∧ Nv (ltz v kd to fr t wt 0 0 0 0) u' ∧ ∀ f i, ¬ (14 ≤ f ∧ f ≤ 24) → u' f i = u f i := by
  unfold fX11_letter
  have C := mC_n h600 (show (600 : Nat) < 2147483648 by decide)
  rw [mG24, b1_s, hN.k24, mA14, b1_s, mY14 C, b1_s, mA15, b1_s, mY15 C, b1_s, mA16, b1_s, mY16 C, b1_s, mA17, b1_s, mY17 C, b1_s, mA18, b1_s, mY18 C, b1_s, mA19, b1_s, mY19 C, b1_s, mA20, b1_s, mY20 C, b1_s, mA21, b1_s, mY21 C, b1_s, mA23, b1_s, mY23 C, b1_s, mG24, b1_s, mP24, b1_s, nI_c (by omega), nar1]
  refine ⟨_, rfl, ?_, fun f i hf => ?_⟩
  · rw [ltz_id h22]
    refine (((((((((hN.wr (by rw [dv_n rfl])).wr (by rw [dv_n rfl])).wr (by rw [dv_n rfl])).wr (by rw [dv_n rfl])).wr (by rw [dv_n rfl])).wr (by rw [dv_0 rfl])).wr (by rw [dv_0 rfl])).wr (by rw [dv_0 rfl])).wr (by rw [dv_n rfl]; rfl)).wr ?_
    show u 24 0 + 1 = _
    rw [hN.k24, nI_1, dv_n rfl]
  · rw [zu_n (by omega), zu_n (by omega), zu_n (by omega), zu_n (by omega), zu_n (by omega), zu_n (by omega), zu_n (by omega), zu_n (by omega), zu_n (by omega), zu_n (by omega)]
/-- the reference's loop -/
theorem s_clean185 (hN : Nv (zu v 33 0 0) u) (hI : Inv D0 n v u0 w0) (h8 : h < 8) (hroom : v 24 0 + fb_sm (gfr v h K) (v 9 0) ≤ 600) (hK : ∀ x, x < 300 → u 34 x = if K x = true then 1 else 0) : ∃ u', fX11_clean_185 100000 q (nI h) 0 (mB q z u w) = some (nI (clv v h K (v 9 0) 33 0), mB q z u' w) ∧ Nv (if clv v h K (v 9 0) 33 0 = 0 then clv v h K (v 9 0) else tch (clv v h K (v 9 0)) h) u' ∧ ∀ i, u' 2 i = u 2 i := by
  have hT := hI.1
  have hb := hT.1
  have all := CPI.all (h := h) (K := K) hI hroom
  have key := zlp (F := fun n k (y : Mu) => fX11_clean_185 n q (nI h) k (mB q z y w)) (N := v 9 0)
    (fun k y => Nv (clv v h K k) y ∧ (∀ i, y 2 i = u 2 i) ∧ ∀ i, y 34 i = u 34 i)
    (fun y => ∃ u', y = some (nI (clv v h K (v 9 0) 33 0), mB q z u' w) ∧ Nv (if clv v h K (v 9 0) 33 0 = 0 then clv v h K (v 9 0) else tch (clv v h K (v 9 0)) h) u' ∧ ∀ i, u' 2 i = u 2 i)
    (by
      rintro n k y hk ⟨hN1, hu, h34⟩
      left
      have H := all k (by omega)
      obtain ⟨h9, h0, h7k⟩ := H.it hT
      obtain ⟨b0, b1', b5, b6, b3⟩ := h0 k hk
      obtain ⟨k0, k1, k3, k7, -⟩ := hT.k hk
      obtain ⟨a1, a2, a3, a4, a5, a6, -⟩ := id H
      have hKk : y 34 k = if K k = true then 1 else 0 := by rw [h34]; exact hK k (by omega)
      have hpart := fb_sm_part (gfr v h K) hk
      have C := mC_n (show k < 300 by omega) (show (300 : Nat) < 2147483648 by decide)
      have r9 : y 9 0 = nI (v 9 0) := by rw [hN1.k9, h9]
      have r1 : y 1 k = nI (v 1 k) := by rw [hN1.k1, b1']
      have r7 : y 7 k = nI (v 7 k) := by rw [hN1.k7, h7k]
      have e1 : fX11_clean_185 (n + 1) q (nI h) (nI k) (mB q z y w) = if v 7 k = 0 ∧ v 1 k = h ∧ K k = false then (b1 (gA 11 7 q (mB q z y w)) fun a19 => (b1 (yZ a19 (nI k) 1 (mB q z y w)) fun s20 => (b1 (gA 11 32 q s20) fun a21 => (b1 (gI 11 33 q s20) fun x22 => (b1 (yI a21 x22 (nI k) s20) fun s23 => (b1 (gI 11 33 q s23) fun x24 => (b1 (pI 11 33 q (x24 + 1) s23) fun s25 => (b1 (gA 11 0 q s25) fun a26 => (b1 (xI 12 a26 (nI k) s25) fun x27 => (if x27 = 3 then (b1 (gA 11 1 q s25) fun a29 => (b1 (gA 11 5 q s25) fun a30 => (b1 (xI 12 a30 (nI k) s25) fun x31 => (b1 (xI 12 a29 x31 s25) fun x32 => (b1 (gA 11 5 q s25) fun a33 => (b1 (xI 12 a33 (nI k) s25) fun x34 => (b1 (gA 11 6 q s25) fun a35 => (b1 (xI 12 a35 (nI k) s25) fun x36 => (b1 (tg 11 q s25) fun _ => (b2 (fX11_letter q 3 x32 (nI h) x34 x36 s25) fun x38 s39 => fX11_clean_185 n q (nI h) (nI (k + 1)) s39)))))))))) else fX11_clean_185 n q (nI h) (nI (k + 1)) s25)))))))))) else fX11_clean_185 n q (nI h) (nI (k + 1)) (mB q z y w) := by
        rw [fX11_clean_185, mG9, b1_s, r9, nI_ifle (by omega) (by omega), if_neg (by omega), mA1, b1_s, mX1, mI_n (by omega) (by decide), b1_s, r1, nI_ifeq (by omega) (by omega), nI_1]
        by_cases hh : v 1 k = h
        · rw [if_pos hh, mA7, b1_s, mX7, mI_n (by omega) (by decide), b1_s, r7, nI_if0 (by omega)]
          by_cases h7 : v 7 k = 0
          · rw [if_pos h7, mA34, b1_s, mX34, mI_n (by omega) (by decide), b1_s, hKk]
            cases eK : K k with
            | true => rw [if_pos rfl, if_neg (show ¬ (1 : Int32) = 0 by decide), if_neg (by simp)]
            | false => rw [if_neg (show ¬ false = true by decide), if_pos rfl, if_pos ⟨h7, hh, rfl⟩]
          · rw [if_neg h7, if_neg (fun h => h7 h.1)]
        · rw [if_neg hh, if_neg (fun h => hh h.2.1)]
      by_cases hc : v 7 k = 0 ∧ v 1 k = h ∧ K k = false
      · rw [if_pos hc] at e1
        have e2 : clv v h K (k + 1) = frv (clv v h K k) k := by
          show (if v 7 k = 0 ∧ v 1 k = h ∧ K k = false then frv (clv v h K k) k else clv v h K k) = _
          rw [if_pos hc]
        rw [e2]
        generalize clv v h K k = s at *
        have C33 := mC_n (show s 33 0 < 300 by omega) (show (300 : Nat) < 2147483648 by decide)
        have r33 : zu y 7 k 1 33 0 = nI (s 33 0) := hN1.k33 0
        have r33' : zu (zu y 7 k 1) 32 (s 33 0) (nI k) 33 0 = nI (s 33 0) := hN1.k33 0
        have hN2 : Nv (zu (zu (zu s 7 k 1) 32 (s 33 0) k) 33 0 (s 33 0 + 1)) (zu (zu (zu y 7 k 1) 32 (s 33 0) (nI k)) 33 0 (nI (s 33 0 + 1))) := ((hN1.wr (by rw [dv_n rfl]; rfl)).wr (by rw [dv_n rfl])).wr (by rw [dv_n rfl])
        have r0 : zu (zu (zu y 7 k 1) 32 (s 33 0) (nI k)) 33 0 (nI (s 33 0 + 1)) 0 k = nI (v 0 k) := by
          show y 0 k = _
          rw [hN1.k0, b0]
        rw [mA7, b1_s, mY7 C, b1_s, nI_c (by omega), nar1, mA32, b1_s, mG33, b1_s, r33, mY32 C33, b1_s, nI_c (by omega), mG33, b1_s, r33', nI_1, mP33, b1_s, mA0, b1_s, mX0, mI_n (by omega) (by decide), b1_s, r0, nI_if3 (by omega)] at e1
        simp only [frv]
        by_cases h3 : v 0 k = 3
        · obtain ⟨⟨m, m1, m2, m3, m4⟩, -⟩ := hT.g hk h3
          have hm : s 5 k - 1 = m := by rw [b5]; omega
          have h600 : s 24 0 < 600 := by
            have : gfr v h K k = 1 := by
              simp only [gfr]
              rw [if_pos ⟨hc.1, hc.2.1, h3, hc.2.2⟩]
            omega
          have h22 : s 22 (s 24 0) = 0 := a6.2.2 _ (Nat.le_refl _) h600
          obtain ⟨u2, y1, hN3, hu2⟩ := s_letter2 (q := q) (z := z) (w := w) (kd := 3) (to := s 1 m) (fr := s 1 k) (t := m) (wt := s 6 k) hN2 h600 h22
          have hsk : s 1 k = h := by rw [b1']; exact hc.2.1
          have y1' : fX11_letter q 3 (nI (s 1 m)) (nI h) (nI m) (nI (s 6 k)) (mB q z (zu (zu (zu y 7 k 1) 32 (s 33 0) (nI k)) 33 0 (nI (s 33 0 + 1))) w) = some (nI (s 24 0), mB q z u2 w) := by
            rw [← hsk]
            exact y1
          have r5 : zu (zu (zu y 7 k 1) 32 (s 33 0) (nI k)) 33 0 (nI (s 33 0 + 1)) 5 k = nI m := by
            show y 5 k = _
            rw [hN1.k5, b5, m1, dv_e rfl]
          have r1m : zu (zu (zu y 7 k 1) 32 (s 33 0) (nI k)) 33 0 (nI (s 33 0 + 1)) 1 m = nI (s 1 m) := hN1.k1 m
          have r6 : zu (zu (zu y 7 k 1) 32 (s 33 0) (nI k)) 33 0 (nI (s 33 0 + 1)) 6 k = nI (s 6 k) := hN1.k6 k
          rw [if_pos h3, mA1, b1_s, mA5, b1_s, mX5, mI_n (by omega) (by decide), b1_s, r5, mX1, mI_n (by omega) (by decide), b1_s, r1m, b1_s, mX5, mI_n (by omega) (by decide), b1_s, r5, mA6, b1_s, mX6, mI_n (by omega) (by decide), b1_s, r6, mtg, b1_s, y1', b2_s] at e1
          refine ⟨u2, e1, ?_, fun i => ?_, fun i => ?_⟩
          · rw [if_pos (by rw [b0]; exact h3), hm, ← ltz_zu (by omega), ← ltz_zu (by omega)]
            exact hN3
          · rw [hu2 2 i (by decide)]
            exact hu i
          · rw [hu2 34 i (by decide)]
            exact h34 i
        · rw [if_neg h3] at e1
          refine ⟨_, e1, ?_, fun i => hu i, fun i => h34 i⟩
          rw [if_neg (by rw [b0]; exact h3)]
          exact hN2
      · rw [if_neg hc] at e1
        have e2 : clv v h K (k + 1) = clv v h K k := by
          show (if v 7 k = 0 ∧ v 1 k = h ∧ K k = false then frv (clv v h K k) k else clv v h K k) = _
          rw [if_neg hc]
        exact ⟨y, e1, by rw [e2]; exact hN1, hu, h34⟩)
    (by
      rintro n y ⟨hN1, hu, h34⟩
      have H := all (v 9 0) (Nat.le_refl _)
      obtain ⟨h9, -, -⟩ := H.it hT
      have h33 := H.2.2.2.1
      have r9 : y 9 0 = nI (v 9 0) := by rw [hN1.k9, h9]
      show ∃ u', fX11_clean_185 (n + 1) q (nI h) (nI (v 9 0)) (mB q z y w) = _ ∧ _
      rw [fX11_clean_185, mG9, b1_s, r9, if_pos (Int32.le_refl _), mG33, b1_s, hN1.k33]
      by_cases e0 : clv v h K (v 9 0) 33 0 = 0
      · rw [if_pos (show nI (clv v h K (v 9 0) 33 0) ≤ 0 from (by rw [e0]; exact Int32.le_refl _)), b1_s, if_pos e0]
        exact ⟨y, rfl, hN1, hu⟩
      · obtain ⟨w1, w2, hN2⟩ := hN1.touch (q := q) (z := z) (w := w) h8
        have r33 : zu y 30 h (nI (clv v h K (v 9 0) 30 h + 1)) 33 0 = nI (clv v h K (v 9 0) 33 0) := hN1.k33 0
        rw [if_neg (nI_nle (by omega) (by omega)), mA30, b1_s, w1, b1_s, w2, b1_s, mG33, b1_s, r33, if_neg e0]
        exact ⟨_, rfl, hN2, fun i => hu i⟩)
  exact key (v 9 0) 100000 0 u (by omega) (by omega) ⟨hN, fun _ => rfl, fun _ => rfl⟩
theorem clv_none : ∀ k, clv v h K k 33 0 = 0 → clv v h K k = zu v 33 0 0 := by
  intro k
  induction k with
  | zero => intro _; rfl
  | succ k ih =>
    intro h0
    have e2 : clv v h K (k + 1) = (if v 7 k = 0 ∧ v 1 k = h ∧ K k = false then frv (clv v h K k) k else clv v h K k) := rfl
    rw [e2] at h0 ⊢
    by_cases hc : v 7 k = 0 ∧ v 1 k = h ∧ K k = false
    · rw [if_pos hc] at h0
      simp only [frv] at h0
      rw [zu_s] at h0
      omega
    · rw [if_neg hc] at h0 ⊢
      exact ih h0
theorem Inv.none33 (hI : Inv D n v u w) : Inv D n (zu v 33 0 0) u w := by
  obtain ⟨hT, hF, hL, hW, hC, hX⟩ := hI
  exact ⟨hT, hF, hL, hW, ⟨hC.1, by rw [zu_s]; omega, fun i hi => by rw [zu_s] at hi; omega⟩, hX⟩
theorem fb_sm_300 (hb : v 9 0 ≤ 300) : fb_sm (gfr v h K) (v 9 0) ≤ 300 := by
  have := fb_sm_bound (f := gfr v h K) (c := 1) (n := v 9 0) (fun k _ => by simp only [gfr]; split <;> omega)
  omega
theorem st_clean : st1 (Jx b0 q) b0 q fX10_clean fX11_clean := by
  intro n x y v1 hn hJ
  obtain ⟨d, c, v, u, w, z, rfl, rfl, rfl, R, hN, hI⟩ := id hJ
  have hF := R.2.1
  have hX := R.2.2.1
  have hT := hI.1
  have hb := hT.1
  have hL := hI.2.2.1
  have hb2 := hL.1
  have hW := hI.2.2.2.1
  unfold fX10_clean fX11_clean
  rw [e_isHost, b2_s]
  rcases inOut v1 (n := 8) (by decide) with ho | ⟨h, hh, rfl⟩
  · have e1 : fX11_isIn v1 8 (mB q z u w) = some (0, mB q z u w) := isIn_o (n := 8) (by decide) ho
    rw [if_pos ho, if_pos rfl, e1, b2_s, if_pos rfl]
    exact b_ref 0 R hN hI (by decide) (by decide)
  have e1 : fX11_isIn (nI h) 8 (mB q z u w) = some (1, mB q z u w) := isIn_n (n := 8) hh (by decide)
  haveI := fun x => Classical.propDecidable (Cl (LEv v) (KB v h) x)
  obtain ⟨K, hK⟩ : ∃ K : Nat → Bool, ∀ x, K x = true ↔ Cl (LEv v) (KB v h) x := ⟨fun x => decide (Cl (LEv v) (KB v h) x), fun x => by simp⟩
  obtain ⟨c1, m, od, f1, f2, R1, hS1, hm1⟩ := e_findKept R hT hW hh hK
  obtain ⟨u1, g1, g2, hm2⟩ := s_kept (q := q) (z := z) (w := w) hN hT hW hh hK
  have hN1 := hN.sc g2
  have R1' : RC d c1 v u1 w := R1.uw g2.u2 (fun _ => rfl)
  have hI1 := hI.uw g2.u2
  have hF1 := R1.2.1
  have hX1 := R1.2.2.1
  have hg := fb_sm_300 (h := h) (K := K) hb
  have z0 : (0 : Int32) + nI (fb_sm (gfr v h K) (v 9 0)) = nI (fb_sm (gfr v h K) (v 9 0)) := Int32.zero_add _
  rw [isHost_in hh, if_neg (show ¬ (1 : Int32) = 0 by decide), e1, b2_s, if_neg (show ¬ (1 : Int32) = 0 by decide), qt_100 hF, b1_s, f1, b2_s, qa_100_1 hF1 hX1, b1_s, qt_100 hF1, b1_s, e_gatesToFree R1 hT hh hS1 hm1, b2_s, qt_103 hF1, b1_s, z0, e_hasRoom R1 hb2 (by omega), b2_s, mtg, b1_s, g1, s_clean99 hN1 hT hh hm2, mG24, b1_s, hN1.k24, z0, nI_add]
  by_cases hroom : v 24 0 + fb_sm (gfr v h K) (v 9 0) ≤ 600
  rotate_left
  · rw [if_neg hroom, if_pos rfl, if_neg (show ¬ nI (v 24 0 + fb_sm (gfr v h K) (v 9 0)) ≤ 600 from nI_ge (a := 600) (by omega) (by omega))]
    exact b_ref 5 R1' hN1 hI1 (by decide) (by decide)
  rw [if_pos hroom, if_neg (show ¬ (1 : Int32) = 0 by decide), if_pos (show nI (v 24 0 + fb_sm (gfr v h K) (v 9 0)) ≤ 600 from nI_le (b := 600) hroom (by decide))]
  obtain ⟨o1, o2, o3, o4, o5⟩ := R1.2.2.2.2.2.2.2.1
  have R2 : RC d (kwI 100 0 11 (nI 0) c1) (zu v 33 0 0) u w := R1.co (f100 hF1) (by omega) (fun k i hk => zu_n (by omega)) ⟨o1, o2, by
    rw [zu_s]
    show z3 c1.1 100 0 11 (nI 0) 100 0 11 = _
    exact z3_s, fun i hi => by rw [zu_s] at hi; omega, by
    show z3 c1.1 100 0 11 (nI 0) 100 0 12 = nI (v 25 0)
    rw [z3_n (by omega)]
    exact o5⟩
  have hS2 : SR (kwI 100 0 11 (nI 0) c1) 111 (v 9 0) m od := hS1.cg (sm.rfl.I (by decide)) (sm.rfl.I (by decide)) (sm.rfl.I (by decide)) (Nat.le_refl _)
  obtain ⟨d', c2, x1, hE, R3⟩ := e_clean47 (h := h) (K := K) R2 hI hh hroom hS2 (fun x hx => by
    show z3 c1.1 100 0 11 (nI 0) 112 0 x = _
    rw [z3_n (by omega)]
    exact hm1 x hx)
  have hN2 : Nv (zu v 33 0 0) (zu u1 33 0 0) := hN1.wr (by rw [dv_n rfl]; rfl)
  obtain ⟨u2, y1, hN3, hu2⟩ := s_clean185 (q := q) (z := z) (w := w) (h := h) (K := K) hN2 hI hh hroom (fun x hx => hm2 x hx)
  have p0 : pI 10 11 (da d 100 0) 0 (cB d c1) = some (cB d (kwI 100 0 11 (nI 0) c1)) := cpI (t := 10) R1.1.1 (f100 hF1) rfl
  rw [p0, b1_s, x1, mP33, b1_s, y1]
  have hu : ∀ i, u2 2 i = u 2 i := fun i => (hu2 i).trans (g2.u2 i)
  refine ⟨_, _, _, rfl, rfl, rfl, d', c2, _, u2, w, z, rfl, rfl, (hE 100 0 (f100 hF)).1, R3.uw hu (fun _ => rfl), hN3, ?_⟩
  have hIc := hI.clean (h := h) hroom hK
  by_cases e0 : clv v h K (v 9 0) 33 0 = 0
  · rw [if_pos e0, clv_none _ e0]
    exact (hI.none33.up).uw hu
  · rw [if_neg e0]
    exact (hIc.touch).uw hu
end CL2
