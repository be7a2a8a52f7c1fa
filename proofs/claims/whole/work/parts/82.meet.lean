section ME
variable {d d' : AD} {c c' : CH} {v v' s : Nu} {u u' : Mu} {w w' : Me} {n q z t k x h g y l rt : Nat} {D : Nat → Prop} {L M : Nat → Bool} {rts : Nat → Nat}
theorem rtd_eq (hs : ∀ f i, (f = 0 ∨ f = 1 ∨ f = 3 ∨ f = 7 ∨ f = 9 ∨ f = 10 ∨ f = 11 ∨ f = 26 ∨ f = 29) → s f i = v f i) : Rtd s x ↔ Rtd v x := by
  have s0 : ∀ i, s 0 i = v 0 i := fun i => hs 0 i (by decide)
  have s1 : ∀ i, s 1 i = v 1 i := fun i => hs 1 i (by decide)
  have s3 : ∀ i, s 3 i = v 3 i := fun i => hs 3 i (by decide)
  have s7 : ∀ i, s 7 i = v 7 i := fun i => hs 7 i (by decide)
  have s9 : ∀ i, s 9 i = v 9 i := fun i => hs 9 i (by decide)
  have s10 : ∀ i, s 10 i = v 10 i := fun i => hs 10 i (by decide)
  have s11 : ∀ i, s 11 i = v 11 i := fun i => hs 11 i (by decide)
  have s26 : ∀ i, s 26 i = v 26 i := fun i => hs 26 i (by decide)
  have s29 : ∀ i, s 29 i = v 29 i := fun i => hs 29 i (by decide)
  have e1 : LEv s = LEv v := by
    funext a b
    simp only [gE, hdv, s3, s10, s11]
  have e2 : ∀ h, Rt s h = Rt v h := by
    intro h
    funext b
    simp only [Rt, s9, s7, s1, s0]
  simp only [Rtd, Wtd, Near, e1, e2, s1, s26, s29]
theorem e_meetGates {m : Nat} {od : Nat → Nat} (R : RC d c s u w) (hT : iT v) (hs : ∀ f i, ¬ (14 ≤ f ∧ f ≤ 24) ∧ ¬ (41 ≤ f ∧ f ≤ 44) → s f i = v f i) (hk : k < v 46 0) (hy : y < v 9 0) (h38 : v 38 k < v 9 0) (hS : SR c 111 (v 9 0) m od) (hm : ∀ x, x < 300 → cI c 112 0 x = if L x = true then 1 else 0) (hLt : ∀ x, L x = true → v 7 x = 0) (hM : ∀ x, x < v 9 0 → M x = (L x && (v 0 x == 3 && !(met s k x)))) (hroom : s 24 0 + fb_ct M (v 9 0) ≤ 600) : ∃ d' c', fX10_meetGates (da d 100 0) (some (da d 5 k)) (some (da d 1 y)) (cB d c) = some ((), cB d' c') ∧ Ex d d' ∧ RC d' c' (mlv v k (v 1 y) M rts s (v 9 0)) u w := by
  have hb := hT.1
  have key := zlp (F := fun n j (r : AD × CH) => fX10_meetGates_2 n (da d 100 0) (some (da d 5 k)) (some (da d 1 y)) j (cB r.1 r.2)) (N := v 9 0)
    (fun j r => Ex d r.1 ∧ RC r.1 r.2 (mlv v k (v 1 y) M rts s j) u w ∧ ∀ x, 111 ≤ x → sm x c r.2)
    (fun r => ∃ d' c', r = some ((), cB d' c') ∧ Ex d d' ∧ RC d' c' (mlv v k (v 1 y) M rts s (v 9 0)) u w)
    (by
      rintro n j ⟨d1, c1⟩ hj ⟨hE, R1, hsm⟩
      left
      have R1' : RC d1 c1 (mlv v k (v 1 y) M rts s j) u w := R1
      have hE' : Ex d d1 := hE
      have hsm' : ∀ x, 111 ≤ x → sm x c c1 := hsm
      have t24 := mlv_24 (v := v) (k := k) (h := v 1 y) (M := M) (rts := rts) (s := s) j
      have tn : ∀ f i, ¬ (14 ≤ f ∧ f ≤ 24) ∧ ¬ (41 ≤ f ∧ f ≤ 44) → mlv v k (v 1 y) M rts s j f i = v f i := fun f i hf => by rw [mlv_n (by omega), hs f i hf]
      have t42 := mlv_42 (v := v) (k := k) (h := v 1 y) (M := M) (rts := rts) (s := s) (x' := j) (k' := k) (by omega) j (by omega)
      rw [if_neg (by omega)] at t42
      have e2 : mlv v k (v 1 y) M rts s (j + 1) = if M j = true then ltz (ntv (mlv v k (v 1 y) M rts s j) k j (rts j)) 4 (v 1 (v 5 j - 1)) (v 1 y) (v 5 j - 1) 0 0 0 (k + 1) 0 else mlv v k (v 1 y) M rts s j := rfl
      rw [e2]
      generalize mlv v k (v 1 y) M rts s j = s1 at *
      have b0 : ∀ i, s1 0 i = v 0 i := fun i => tn 0 i (by decide)
      have b1 : ∀ i, s1 1 i = v 1 i := fun i => tn 1 i (by decide)
      have b5 : ∀ i, s1 5 i = v 5 i := fun i => tn 5 i (by decide)
      have b6 : ∀ i, s1 6 i = v 6 i := fun i => tn 6 i (by decide)
      have b7 : ∀ i, s1 7 i = v 7 i := fun i => tn 7 i (by decide)
      have b9 : s1 9 0 = v 9 0 := tn 9 0 (by decide)
      have b46 : s1 46 0 = v 46 0 := tn 46 0 (by decide)
      have b38 : ∀ i, s1 38 i = v 38 i := fun i => tn 38 i (by decide)
      have hj1 : j < s1 9 0 := by rw [b9]; exact hj
      have hk1 : k < s1 46 0 := by rw [b46]; exact hk
      obtain ⟨k0, k1, k3, k7, -⟩ := hT.k hj
      have ky1 := (hT.k hy).2.1
      have hF := R1'.2.1
      have hX := R1'.2.2.1
      have hb1 : s1 9 0 ≤ 300 := by rw [b9]; exact hb
      have h100 := (hE' 100 0 (f100 R.2.1)).1
      have h5k := (hE' 5 k ((R.kt (show k < s 46 0 by rw [hs 46 0 (by decide)]; exact hk)).1)).1
      have h1y := (hE' 1 y ((R.t (show y < s 9 0 by rw [hs 9 0 (by decide)]; exact hy)).1)).1
      have hS1 : SR c1 111 (s1 9 0) m od := hS.cg (hsm' 111 (by decide)) (hsm' 112 (by decide)) (hsm' 113 (by decide)) (by rw [b9]; exact Nat.le_refl _)
      have hm1 : cI c1 112 0 j = if L j = true then 1 else 0 := by rw [(hsm' 112 (by decide)).1]; exact hm j (by omega)
      have hmet : met s1 k j = met s k j := by
        simp only [met]
        rw [t42, b0, hs 0 j (by decide)]
      show ∃ r : AD × CH, fX10_meetGates_2 (n + 1) (da d 100 0) (some (da d 5 k)) (some (da d 1 y)) (nI j) (cB d1 c1) = fX10_meetGates_2 n (da d 100 0) (some (da d 5 k)) (some (da d 1 y)) (nI (j + 1)) (cB r.1 r.2) ∧ Ex d r.1 ∧ RC r.1 r.2 (if M j = true then ltz (ntv s1 k j (rts j)) 4 (v 1 (v 5 j - 1)) (v 1 y) (v 5 j - 1) 0 0 0 (k + 1) 0 else s1) u w ∧ ∀ x, 111 ≤ x → sm x c r.2
      have hMj := hM j hj
      have stay : M j = false → ∃ r : AD × CH, fX10_meetGates_2 n (da d1 100 0) (some (da d1 5 k)) (some (da d1 1 y)) (nI (j + 1)) (cB d1 c1) = fX10_meetGates_2 n (da d1 100 0) (some (da d1 5 k)) (some (da d1 1 y)) (nI (j + 1)) (cB r.1 r.2) ∧ Ex d r.1 ∧ RC r.1 r.2 (if M j = true then ltz (ntv s1 k j (rts j)) 4 (v 1 (v 5 j - 1)) (v 1 y) (v 5 j - 1) 0 0 0 (k + 1) 0 else s1) u w ∧ ∀ x, 111 ≤ x → sm x c r.2 := fun hf => ⟨(d1, c1), rfl, hE', by rw [hf, if_neg (show ¬ false = true by decide)]; exact R1', hsm'⟩
      rw [← h100, ← h5k, ← h1y, fX10_meetGates_2, qa_100_0 hF hX, b1_s, qt_101 hF, b1_s, e_size R1', b2_s, b9, nI_ifle (by omega) (by omega), if_neg (by omega), qa_100_0 hF hX, b1_s, qt_101 hF, b1_s, e_find R1' hb1 hj1 (by rw [b7]; exact k7), b2_s, nI_1, b7]
      by_cases h7 : v 7 j = 0
      rotate_left
      · rw [if_neg h7, oe_0]
        refine stay ?_
        rw [hMj]
        cases eL : L j with
        | true => exact absurd (hLt j eL) h7
        | false => rfl
      rw [if_pos h7, oe_1, g_named R1' hj1, b1_s, b5]
      by_cases h3 : v 0 j = 3
      rotate_left
      · rw [if_pos (hT.ng hj h3).1, oe_0]
        refine stay ?_
        rw [hMj]
        simp [h3]
      obtain ⟨⟨o, o1, o2, o3, o4⟩, -⟩ := hT.g hj h3
      have ho : v 5 j - 1 = o := by omega
      rw [if_neg (by omega), oe_1, qa_100_7 hF hX, b1_s, qt_111 hF, b1_s, e_has (R1'.rr (Or.inl rfl)) (R1'.tn hb1) hS1 hj1, b2_s, hm1]
      cases eL : L j with
      | false =>
        rw [if_neg (show ¬ false = true by decide), if_pos rfl]
        exact stay (by rw [hMj, eL]; rfl)
      | true =>
        rw [if_pos rfl, if_neg (show ¬ (1 : Int32) = 0 by decide), b1_s, gk_tg R1' hk1, b1_s, e_hasMet R1' hb1 hk1 hj1, b2_s, hmet]
        cases em : met s k j with
        | true =>
          rw [if_pos rfl, if_neg (show ¬ (1 : Int32) = 0 by decide)]
          exact stay (by rw [hMj, eL, em]; simp)
        | false =>
          have hMt : M j = true := by rw [hMj, eL, em, h3]; rfl
          have hpart : fb_ct M (j + 1) ≤ fb_ct M (v 9 0) := fb_ct_mono M hj
          rw [fb_ct_succ, if_pos hMt] at hpart
          obtain ⟨n42, n43, n44⟩ := ntv_at (v := s1) (k := k) (x := j) (rt := rts j)
          have h42ne : s1 42 (300 * k + j) ≠ 1 := fun e => by
            have : met s1 k j = true := by simp only [met]; rw [e, b0, h3]; rfl
            rw [hmet, em] at this
            cases this
          obtain ⟨c2, x1, R2, hs2⟩ := e_meet2 (v' := ntv s1 k j (rts j)) (t := o) R1' hb1 hk1 hj1 (by rw [b9]; exact o2) (by rw [b0]; exact h3) (by rw [b5]; exact o1) h42ne (fun f i hf => ntv_n (by omega)) (fun f hf => ntv_n (by omega)) (fun h hh => ntv_n (by omega)) (fun i hi => by
            by_cases e : i = j
            · rw [e, n42, if_pos rfl]
            · rw [ntv_n (by omega), if_neg e]) (fun i hi hmi => ntv_n (fun hx => by
            have : i = j := by omega
            rw [this, hmet, em] at hmi
            cases hmi)) (by rw [n44, b0, if_pos h3])
          have hF2 := R2.2.1
          have hX2 := R2.2.2.1
          obtain ⟨d3, c3, x2, hE3, R3, hs3⟩ := e_fileOfWalk2 (kd := 4) (fr := v 1 y) (wk := k) (st := 0) (t := o) R2 (Or.inl rfl) (show o < s1 9 0 by rw [b9]; exact o2) hk1 (show s1 38 k < s1 9 0 by rw [b38, b9]; exact h38) (show s1 24 0 < 600 by omega)
          have ht3 : ntv s1 k j (rts j) 1 o = v 1 o := b1 o
          rw [if_pos rfl, ltv_eq, ht3] at R3
          have x2' : fX2_fileOfWalk (da d1 103 0) 4 (some (da d1 5 k)) (nI (v 1 y)) (some (da d1 1 o)) 0 (cB d1 c2) = some (nI (s1 24 0), cB d3 c3) := x2
          have gy : gI 5 2 (da d1 1 y) (cB d1 c2) = some (nI (v 1 y)) := by
            have := g_host R2 (show y < s1 9 0 by rw [b9]; exact hy)
            have e1 : ntv s1 k j (rts j) 1 y = v 1 y := b1 y
            rw [e1] at this
            exact this
          have gn2 : gP 5 6 (da d1 1 j) (cB d1 c2) = some (some (da d1 1 o)) := by
            have := g_named R2 (show j < s1 9 0 from hj1)
            have e1 : ntv s1 k j (rts j) 5 j = v 5 j := b5 j
            rw [e1, if_neg (by omega), ho] at this
            exact this
          have gn1 : gP 5 6 (da d1 1 j) (cB d1 c1) = some (some (da d1 1 o)) := by
            have := g_named R1' hj1
            rw [b5, if_neg (by omega), ho] at this
            exact this
          have e100 := (hE3 100 0 (f100 hF2)).1
          have e5 := (hE3 5 k ((R2.kt hk1).1)).1
          have e1y := (hE3 1 y ((R2.t (show y < s1 9 0 by rw [b9]; exact hy)).1)).1
          rw [if_neg (show ¬ false = true by decide), if_pos rfl, gn1, b1_s, gk_tg R1' hk1, b1_s, x1, b2_s, qa_100_1 hF2 hX2, b1_s, b1_s, gy, b1_s, gn2, b1_s, qt_103 hF2, b1_s, x2', b2_s]
          refine ⟨(d3, c3), rfl, hE'.trans hE3, ?_, fun x hx => ((hsm' x hx).trans (hs2 x (by omega))).trans (hs3 x (by omega))⟩
          rw [if_pos hMt, ho]
          exact R3)
    (by
      rintro n ⟨d1, c1⟩ ⟨hE, R1, hsm⟩
      have R1' : RC d1 c1 (mlv v k (v 1 y) M rts s (v 9 0)) u w := R1
      have hE' : Ex d d1 := hE
      have hF := R1'.2.1
      have hX := R1'.2.2.1
      have h100 := (hE' 100 0 (f100 R.2.1)).1
      have b9 : mlv v k (v 1 y) M rts s (v 9 0) 9 0 = v 9 0 := by rw [mlv_n (by omega), hs 9 0 (by decide)]
      refine ⟨d1, c1, ?_, hE', R1'⟩
      show fX10_meetGates_2 (n + 1) (da d 100 0) (some (da d 5 k)) (some (da d 1 y)) (nI (v 9 0)) (cB d1 c1) = _
      rw [← h100, fX10_meetGates_2, qa_100_0 hF hX, b1_s, qt_101 hF, b1_s, e_size R1', b2_s, b9, if_pos (Int32.le_refl _)])
  exact key (v 9 0) 700 0 (d, c) (by omega) (by omega) ⟨Ex.rfl, R, fun _ _ => sm.rfl⟩
/-- the reference's loop over the GATES that are met -/
theorem s_step108 {x11 : Int32} (hN : Nv s u) (hI : Inv D0 n s u w) (hT : iT v) (hs : ∀ f i, ¬ (14 ≤ f ∧ f ≤ 24) ∧ ¬ (41 ≤ f ∧ f ≤ 44) → s f i = v f i) (hk : k < v 46 0) (hy : y < v 9 0) (h37 : v 37 k = 0) (h41 : s 41 (8 * k + v 1 y) ≠ 0) (h48 : ∀ x, x < v 9 0 → u 48 x = if M x = true then 1 else 0) (hMx : ∀ x, x < v 9 0 → M x = true → v 0 x = 3 ∧ v 7 x = 0 ∧ v 1 x = v 1 y ∧ s 42 (300 * k + x) = 0) (hst : s 42 (300 * k + v 38 k) = 1 ∨ v 7 (v 38 k) = 1) (h38 : v 38 k < 300) (hrt : ∀ x, rts x ≤ 1 ∧ (rts x = 1 ↔ Rtd v x)) (hroom : s 24 0 + fb_ct M (v 9 0) + 1 ≤ 600) : ∃ u' w', fX11_stepped_108 100000 q (nI k) (nI y) (nI (v 1 y)) x11 0 (mB q z u w) = fX11_stepped_180 q (nI k) (nI y) (nI (v 1 y)) x11 (mB q z u' w') ∧ Nv (mlv v k (v 1 y) M rts s (v 9 0)) u' ∧ Inv D0 n (mlv v k (v 1 y) M rts s (v 9 0)) u' w' ∧ (∀ i, u' 2 i = u 2 i) ∧ ∀ i, w' 13 i = w 13 i := by
  have hb := hT.1
  have hb20 : v 46 0 ≤ 20 := by have := hI.2.2.2.2.2.1.1; rw [hs 46 0 (by decide)] at this; exact this
  have key := zlp (F := fun n j (r : Mu × Me) => fX11_stepped_108 n q (nI k) (nI y) (nI (v 1 y)) x11 j (mB q z r.1 r.2)) (N := v 9 0)
    (fun j r => Nv (mlv v k (v 1 y) M rts s j) r.1 ∧ Inv D0 n (mlv v k (v 1 y) M rts s j) r.1 r.2 ∧ (∀ x, r.1 48 x = u 48 x) ∧ (∀ i, r.1 2 i = u 2 i) ∧ ∀ i, r.2 13 i = w 13 i)
    (fun r => ∃ u' w', r = fX11_stepped_180 q (nI k) (nI y) (nI (v 1 y)) x11 (mB q z u' w') ∧ Nv (mlv v k (v 1 y) M rts s (v 9 0)) u' ∧ Inv D0 n (mlv v k (v 1 y) M rts s (v 9 0)) u' w' ∧ (∀ i, u' 2 i = u 2 i) ∧ ∀ i, w' 13 i = w 13 i)
    (by
      rintro f0 j ⟨u1, w1⟩ hj ⟨q1, q2, q3, q4, q5⟩
      left
      have hN1 : Nv (mlv v k (v 1 y) M rts s j) u1 := q1
      have hI1 : Inv D0 n (mlv v k (v 1 y) M rts s j) u1 w1 := q2
      have r48 : ∀ x, u1 48 x = u 48 x := q3
      have r2 : ∀ i, u1 2 i = u 2 i := q4
      have rw13 : ∀ i, w1 13 i = w 13 i := q5
      have t24 := mlv_24 (v := v) (k := k) (h := v 1 y) (M := M) (rts := rts) (s := s) j
      have tn : ∀ f i, ¬ (14 ≤ f ∧ f ≤ 24) ∧ ¬ (41 ≤ f ∧ f ≤ 44) → mlv v k (v 1 y) M rts s j f i = v f i := fun f i hf => by rw [mlv_n (by omega), hs f i hf]
      have t41 : mlv v k (v 1 y) M rts s j 41 (8 * k + v 1 y) = s 41 (8 * k + v 1 y) := mlv_n (by omega) j
      have t42 := mlv_42 (v := v) (k := k) (h := v 1 y) (M := M) (rts := rts) (s := s) (x' := j) (k' := k) (by omega) j (by omega)
      rw [if_neg (by omega)] at t42
      have t42s := mlv_42 (v := v) (k := k) (h := v 1 y) (M := M) (rts := rts) (s := s) (x' := v 38 k) (k' := k) h38 j (by omega)
      have e2 : mlv v k (v 1 y) M rts s (j + 1) = if M j = true then ltz (ntv (mlv v k (v 1 y) M rts s j) k j (rts j)) 4 (v 1 (v 5 j - 1)) (v 1 y) (v 5 j - 1) 0 0 0 (k + 1) 0 else mlv v k (v 1 y) M rts s j := rfl
      rw [e2]
      generalize mlv v k (v 1 y) M rts s j = s1 at *
      have b0 : ∀ i, s1 0 i = v 0 i := fun i => tn 0 i (by decide)
      have b1 : ∀ i, s1 1 i = v 1 i := fun i => tn 1 i (by decide)
      have b5 : ∀ i, s1 5 i = v 5 i := fun i => tn 5 i (by decide)
      have b7 : ∀ i, s1 7 i = v 7 i := fun i => tn 7 i (by decide)
      have b9 : s1 9 0 = v 9 0 := tn 9 0 (by decide)
      have b46 : s1 46 0 = v 46 0 := tn 46 0 (by decide)
      have b38 : ∀ i, s1 38 i = v 38 i := fun i => tn 38 i (by decide)
      have b37 : s1 37 k = v 37 k := tn 37 k (by decide)
      have hj1 : j < s1 9 0 := by rw [b9]; exact hj
      have r9 : u1 9 0 = nI (v 9 0) := by rw [hN1.k9, b9]
      have r48j : u1 48 j = if M j = true then 1 else 0 := by rw [r48]; exact h48 j hj
      show ∃ r : Mu × Me, fX11_stepped_108 (f0 + 1) q (nI k) (nI y) (nI (v 1 y)) x11 (nI j) (mB q z u1 w1) = fX11_stepped_108 f0 q (nI k) (nI y) (nI (v 1 y)) x11 (nI (j + 1)) (mB q z r.1 r.2) ∧ Nv (if M j = true then ltz (ntv s1 k j (rts j)) 4 (v 1 (v 5 j - 1)) (v 1 y) (v 5 j - 1) 0 0 0 (k + 1) 0 else s1) r.1 ∧ Inv D0 n (if M j = true then ltz (ntv s1 k j (rts j)) 4 (v 1 (v 5 j - 1)) (v 1 y) (v 5 j - 1) 0 0 0 (k + 1) 0 else s1) r.1 r.2 ∧ (∀ x, r.1 48 x = u 48 x) ∧ (∀ i, r.1 2 i = u 2 i) ∧ ∀ i, r.2 13 i = w 13 i
      rw [fX11_stepped_108, mG9, b1_s, r9, nI_ifle (by omega) (by omega), if_neg (by omega), mA48, b1_s, mX48, mI_n (by omega) (by decide), b1_s, r48j, nI_1]
      cases eM : M j with
      | false =>
        rw [if_neg (show ¬ false = true by decide), if_pos rfl]
        refine ⟨(u1, w1), rfl, ?_⟩
        rw [if_neg (show ¬ false = true by decide)]
        exact ⟨hN1, hI1, r48, r2, rw13⟩
      | true =>
        obtain ⟨g3, g7, g1, g42⟩ := hMx j hj eM
        obtain ⟨⟨o, o1, o2, o3, o4⟩, -⟩ := hT.g hj g3
        have ho : v 5 j - 1 = o := by omega
        have ky1 := (hT.k hy).2.1
        have hpart : fb_ct M (j + 1) ≤ fb_ct M (v 9 0) := fb_ct_mono M hj
        rw [fb_ct_succ, if_pos eM] at hpart
        have h42j : s1 42 (300 * k + j) = 0 := by rw [t42]; exact g42
        obtain ⟨u2, w2, rt, x1, hN2, hu2, hrt1, hrt2, hw1, hw2, hw3⟩ := x_note (q := q) (z := z) (k := k) hN1 hI1.1 hI1.2.2.2.1 hj1 (by omega) (fun i hi => hI1.2.2.2.2.2.1.2.2.2 k j i (by omega) (by omega) hi h42j)
        have hrr : rt = rts j := by
          have e1 : Rtd s1 j ↔ Rtd v j := rtd_eq (fun f i hf => tn f i (by omega))
          obtain ⟨c1, c2⟩ := hrt j
          by_cases hR : Rtd v j
          · rw [hrt2.mpr (e1.mpr hR), c2.mpr hR]
          · have a1 : rt ≠ 1 := fun e => hR (e1.mp (hrt2.mp e))
            have a2 : rts j ≠ 1 := fun e => hR (c2.mp e)
            omega
        subst hrr
        have hI2 : Inv D0 n (ntv s1 k j (rts j)) u1 w2 := hI1.note (by rw [b46]; exact hk) hj1 (by rw [b7]; exact g7) (by rw [b37]; exact h37) h42j (by rw [b1, g1, t41]; exact h41) hrt1 hrt2 hw2 hw3
        have hI2' := hI2.uw (fun i => hu2 2 i (Or.inl rfl))
        have h600 : ntv s1 k j (rts j) 24 0 < 600 := by show s1 24 0 < 600; omega
        have h22 : ntv s1 k j (rts j) 22 (ntv s1 k j (rts j) 24 0) = 0 := hI2.2.2.1.2.2 _ (Nat.le_refl _) h600
        obtain ⟨u3, y1, hN3, hu3⟩ := s_letter2 (q := q) (z := z) (w := w2) (kd := 4) (to := v 1 o) (fr := v 1 y) (t := o) (wt := 0) hN2 h600 h22
        have y1' : fX11_letter q 4 (nI (v 1 o)) (nI (v 1 y)) (nI o) 0 (mB q z u2 w2) = some (nI (s1 24 0), mB q z u3 w2) := y1
        have hN4 := hN3.wr (k := 21) (i := ntv s1 k j (rts j) 24 0) (n := k + 1) (x := nI k) (by rw [dv_e rfl])
        rw [ltz_21 (v := ntv s1 k j (rts j))] at hN4
        have r5 : u2 5 j = nI o := by
          rw [hN2.k5]
          have : ntv s1 k j (rts j) 5 j = v 5 j := b5 j
          rw [this, o1, dv_e rfl]
        have r1o : u2 1 o = nI (v 1 o) := by
          rw [hN2.k1]
          have : ntv s1 k j (rts j) 1 o = v 1 o := b1 o
          rw [this]
        have hst1 : s1 42 (300 * k + v 38 k) = 1 ∨ v 7 (v 38 k) = 1 := by
          rcases hst with h | h
          · left
            rw [t42s]
            split
            · rfl
            · exact h
          · exact Or.inr h
        have hI3 := hI2'.wlet (kd := 4) (to := v 1 o) (fr := v 1 y) (t := o) (k := k) (st := 0) h600 (Or.inl rfl) (show o < s1 9 0 by rw [b9]; exact o2) (show s1 0 o ≠ 3 by rw [b0]; exact o3) (hT.k o2).2.1 ky1 (fun _ => (b1 o).symm) (show k < s1 46 0 by rw [b46]; exact hk) (by decide) (fun _ => by
          have e38 : ntv s1 k j (rts j) 38 k = v 38 k := b38 k
          have e7 : ntv s1 k j (rts j) 7 (v 38 k) = v 7 (v 38 k) := b7 _
          rw [e38, e7]
          right
          rcases hst1 with h | h
          · left
            by_cases e : v 38 k = j
            · rw [e]; exact ntv_at.1
            · rw [ntv_n (by omega)]; exact h
          · exact Or.inr h)
        rw [if_pos rfl, if_neg (show ¬ (1 : Int32) = 0 by decide), mtg, b1_s, x1, b2_s, mA1, b1_s, mA5, b1_s, mX5, mI_n (by omega) (by decide), b1_s, r5, mX1, mI_n (by omega) (by decide), b1_s, r1o, b1_s, mX5, mI_n (by omega) (by decide), b1_s, r5, mtg, b1_s, y1', b2_s, mA21, b1_s, mY21 (mC_n (show s1 24 0 < 600 by omega) (by decide)), b1_s, nI_c (show s1 24 0 < 2147483648 by omega)]
        refine ⟨(zu u3 21 (s1 24 0) (nI k), w2), rfl, ?_⟩
        rw [if_pos rfl, ho]
        refine ⟨hN4, hI3.uw (fun i => ?_), fun x => ?_, fun i => ?_, fun i => (hw1 13 i (by decide)).trans (rw13 i)⟩
        · show zu u3 21 (s1 24 0) (nI k) 2 i = u2 2 i
          rw [zu_n (by omega)]
          exact hu3 2 i (by decide)
        · show zu u3 21 (s1 24 0) (nI k) 48 x = u 48 x
          rw [zu_n (by omega), hu3 48 x (by decide), hu2 48 x (Or.inr rfl)]
          exact r48 x
        · show zu u3 21 (s1 24 0) (nI k) 2 i = u 2 i
          rw [zu_n (by omega), hu3 2 i (by decide), hu2 2 i (Or.inl rfl)]
          exact r2 i)
    (by
      rintro f0 ⟨u1, w1⟩ ⟨q1, q2, q3, q4, q5⟩
      have hN1 : Nv (mlv v k (v 1 y) M rts s (v 9 0)) u1 := q1
      refine ⟨u1, w1, ?_, hN1, q2, q4, q5⟩
      have b9 : mlv v k (v 1 y) M rts s (v 9 0) 9 0 = v 9 0 := by rw [mlv_n (by omega), hs 9 0 (by decide)]
      have r9 : u1 9 0 = nI (v 9 0) := by rw [hN1.k9, b9]
      show fX11_stepped_108 (f0 + 1) q (nI k) (nI y) (nI (v 1 y)) x11 (nI (v 9 0)) (mB q z u1 w1) = _
      rw [fX11_stepped_108, mG9, b1_s, r9, if_pos (Int32.le_refl _)])
  exact key (v 9 0) 100000 0 (u, w) (by omega) (by omega) ⟨hN, hI, fun _ => rfl, fun _ => rfl, fun _ => rfl⟩
end ME
