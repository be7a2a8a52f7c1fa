section DB
variable {d d' : AD} {c c' : CH} {v v' : Nu} {u u' : Mu} {w w' : Me} {n q z m r t p k l b0 g wt x h kd to fr st : Nat} {D : Nat → Prop}
/-- a letter of a WALK more -/
theorem Inv.wlet (hI : Inv D n v u w) (h600 : v 24 0 < 600) (hkd : kd = 4 ∨ kd = 5) (ht : t < v 9 0) (h3 : v 0 t ≠ 3) (hto : to < 8) (hfr : fr < 8) (h4 : kd = 4 → to = v 1 t) (hk : k < v 46 0) (hst : st ≤ 300) (hx : v 37 k = 0 → (kd = 4 ∧ t = v 38 k) ∨ v 42 (300 * k + v 38 k) = 1 ∨ v 7 (v 38 k) = 1) : Inv D n (ltz v kd to fr t 0 0 0 (k + 1) st) u w := by
  obtain ⟨hT, hF, hL, hW, hC, hK, hX, hS, hG, hQ, hM⟩ := hI
  obtain ⟨a14, a15, a16, a17, a18, a19, a20, a21, a22, a23⟩ := ltz_l (v := v) (kd := kd) (to := to) (fr := fr) (t := t) (wt := 0) (rt := 0) (pl := 0) (wk := k + 1) (st := st)
  refine ⟨hT, hF, hL.ltz h600 ?_, hW, hC, hK, hX.ltz (fun k' e h37 => ?_), fun s hs hs3 => ?_, hG, fun g s => ?_, hM.ltz (fun e => by omega)⟩
  · simp only [LO]
    rw [a14, a15, a16, a17, a18, a19, a20, a21, a22, a23]
    exact ⟨by omega, hto, hfr, ht, h3, by decide, hst, fun e => by omega, fun _ => ⟨rfl, rfl⟩, fun e => h4 (by omega), fun e => by omega, fun _ => rfl, fun _ => ⟨k, rfl, hk⟩, fun e => by omega⟩
  · have : k' = k := by omega
    subst this
    exact hx h37
  · obtain ⟨s1, s2⟩ := hS s hs hs3
    rw [lsum_ltz]
    have e1 : gsum (ltz v kd to fr t 0 0 0 (k + 1) st) s = gsum v s := rfl
    have e3 : ltz v kd to fr t 0 0 0 (k + 1) st 4 s = v 4 s := rfl
    rw [e1, e3]
    by_cases e : t = s
    · rw [if_pos e]; omega
    · rw [if_neg e]; omega
  · rw [qlet_ltz, if_neg (by omega)]
    exact hQ g s
theorem kkv_k {f i : Nat} (hf : f = 38 ∨ f = 41) (hi : f = 38 → i ≠ v 46 0) (hi2 : f = 41 → i < 8 * v 46 0 ∨ 8 * v 46 0 + 8 ≤ i) : kkv v t f i = v f i := by
  simp only [kkv]
  rw [if_neg (by omega), if_neg (by omega), if_neg (by omega)]
/-- a WALK is begun -/
theorem Inv.begin (hI : Inv D n v u w) (h20 : v 46 0 < 20) (ht : t < v 9 0) (h3 : v 0 t ≠ 3) : Inv D n (kkv v t) u w := by
  obtain ⟨hT, hF, hL, hW, hC, hK, hX, hS, hG, hQ, hM⟩ := hI
  refine ⟨hT, hF, ⟨hL.1, fun l hl => ?_, hL.2.2⟩, hW, hC, ⟨by rw [kkv_46]; omega, fun k hk => ?_, fun k h1 h2 => ?_, hK.2.2.2⟩, fun l k hl h21 h37 => ?_, hS, hG, hQ, hM⟩
  · obtain ⟨o1, o2, o3, o4, o5, o6, o7, o8, o9, o10, o11, o12, o13, o14⟩ := hL.2.1 l hl
    refine ⟨o1, o2, o3, o4, o5, o6, o7, o8, o9, o10, o11, o12, fun e => ?_, o14⟩
    obtain ⟨k, k1, k2⟩ := o13 e
    exact ⟨k, k1, by rw [kkv_46]; omega⟩
  · rw [kkv_46] at hk
    by_cases e : k = v 46 0
    · subst e
      obtain ⟨b1, b2, b3, b4⟩ := hK.2.2.1 _ (Nat.le_refl _) h20
      have e39 : kkv v t 39 (v 46 0) = 0 := b2
      have e40 : kkv v t 40 (v 46 0) = 0 := b3
      have e37 : kkv v t 37 (v 46 0) = 0 := b1
      refine ⟨by rw [kkv_38]; exact ht, by rw [kkv_38]; exact h3, by omega, by omega, by omega, fun x hx => ?_, fun g hg => by rw [kkv_41 hg]; omega, fun _ => ⟨by omega, fun x hx hx2 => ?_⟩⟩
      · obtain ⟨c1, c2, c3⟩ := b4 x hx
        have e42 : kkv v t 42 (300 * v 46 0 + x) = 0 := c1
        have e43 : kkv v t 43 (300 * v 46 0 + x) = 0 := c2
        have e44 : kkv v t 44 (300 * v 46 0 + x) = 0 := c3
        rw [e42, e43, e44]
        exact ⟨by omega, by omega, by omega, fun e => by omega⟩
      · have e42 : kkv v t 42 (300 * v 46 0 + x) = 0 := (b4 x hx).1
        rw [e42] at hx2
        cases hx2
    · obtain ⟨a1, a2, a3, a4, a5, a6, a7, a8⟩ := hK.2.1 k (by omega)
      have e38 : kkv v t 38 k = v 38 k := kkv_k (Or.inl rfl) (fun _ => e) (fun h => by omega)
      have e41 : ∀ g, g < 8 → kkv v t 41 (8 * k + g) = v 41 (8 * k + g) := fun g hg => kkv_k (Or.inr rfl) (fun h => by omega) (fun _ => by omega)
      refine ⟨by rw [e38]; exact a1, by rw [e38]; exact a2, a3, a4, a5, a6, fun g hg => by rw [e41 g hg]; exact a7 g hg, fun e37 => ⟨(a8 e37).1, fun x hx hx2 => ?_⟩⟩
      have hg := (hT.k ((a6 x hx).2.2.2 hx2)).2.1
      have := (a8 e37).2 x hx hx2
      have e1 : kkv v t 1 x = v 1 x := rfl
      rw [e1, e41 _ hg]
      exact this
  · rw [kkv_46] at h1
    exact hK.2.2.1 k (by omega) h2
  · obtain ⟨o1, o2, o3, o4, o5, o6, o7, o8, o9, o10, o11, o12, o13, o14⟩ := hL.2.1 l hl
    have hk : k < v 46 0 := by
      have h21' : v 21 l = k + 1 := h21
      by_cases e : 4 ≤ v 14 l
      · obtain ⟨k', k1, k2⟩ := o13 e
        omega
      · have := o14 (by omega)
        omega
    have e38 : kkv v t 38 k = v 38 k := kkv_k (Or.inl rfl) (fun _ => by omega) (fun h => by omega)
    rw [e38]
    exact hX l k hl h21 h37
/-! the reference -/
theorem s_holdsOut (hN : Nv v u) (hT : iT v) (ht : t < v 9 0) : fX11_holdsOut q (nI t) (mB q z u w) = some (if v 7 t = 0 ∧ v 0 t ≠ 3 ∧ 0 < v 4 t ∧ v 8 t = 0 then 1 else 0, mB q z u w) := by
  obtain ⟨k0, k1, k3, k7, k8, k4, k6⟩ := hT.k ht
  have hb := hT.1
  unfold fX11_holdsOut
  simp (disch := omega) only [mA7, mA0, mA4, mA8, b1_s, mX7, mX0, mX4, mX8, mI_n, hN.k7, hN.k0, hN.k4, hN.k8, nI_if0, nI_if3]
  by_cases h7 : v 7 t = 0
  · rw [if_pos h7]
    by_cases h3 : v 0 t = 3
    · rw [if_pos h3, if_neg (fun h => h.2.1 h3)]
      rfl
    · rw [if_neg h3]
      by_cases h4 : v 4 t = 0
      · rw [h4, if_pos (show nI 0 ≤ 0 from Int32.le_refl _), if_neg (by omega)]
        rfl
      · rw [if_neg (nI_nle (by omega) (by omega))]
        by_cases h8 : v 8 t = 0
        · rw [if_pos h8, if_pos ⟨h7, h3, by omega, h8⟩]
          rfl
        · rw [if_neg h8, if_neg (fun h => h8 h.2.2.2)]
          rfl
  · rw [if_neg h7, if_neg (fun h => h7 h.1)]
    rfl
def kkp (v : Nu) (t j : Nat) : Nu := fun f i => if f = 38 ∧ i = v 46 0 then t else if f = 41 ∧ 8 * v 46 0 ≤ i ∧ i < 8 * v 46 0 + j then 0 else v f i
theorem kkp_0 : kkp v t 0 = zu v 38 (v 46 0) t := by
  funext f i
  simp only [kkp, zu]
  by_cases e : f = 38 ∧ i = v 46 0
  · rw [if_pos e, if_pos e]
  · rw [if_neg e, if_neg e, if_neg (by omega)]
theorem kkp_s {j : Nat} : zu (kkp v t j) 41 (8 * v 46 0 + j) 0 = kkp v t (j + 1) := by
  funext f i
  simp only [kkp, zu]
  by_cases e1 : f = 41 ∧ i = 8 * v 46 0 + j
  · rw [if_pos e1, if_neg (by omega), if_pos (by omega)]
  · rw [if_neg e1]
    by_cases e : f = 38 ∧ i = v 46 0
    · rw [if_pos e, if_pos e]
    · rw [if_neg e, if_neg e]
      by_cases e2 : f = 41 ∧ 8 * v 46 0 ≤ i ∧ i < 8 * v 46 0 + j
      · rw [if_pos e2, if_pos (by omega)]
      · rw [if_neg e2, if_neg (by omega)]
theorem kkp_8 : zu (kkp v t 8) 46 0 (v 46 0 + 1) = kkv v t := by
  funext f i
  simp only [kkp, kkv, zu]
  by_cases e1 : f = 46 ∧ i = 0
  · rw [if_pos e1, if_neg (by omega), if_neg (by omega)]
    simp [e1]
  · rw [if_neg e1, if_neg e1]
theorem s_doubt84 (h20 : v 46 0 < 20) (ht : t < v 9 0) (hb : v 9 0 ≤ 300) (h600 : v 24 0 < 600) (h22 : v 22 (v 24 0) = 0) : ∀ (m j n' : Nat) (u : Mu), j + m = 8 → m < n' → Nv (kkp v t j) u → ∃ u', fX11_doubt_84 n' q (nI t) (nI j) (mB q z u w) = some (nI (v 46 0), mB q z u' w) ∧ Nv (ltz (kkv v t) 4 (v 1 t) (v 1 t) t 0 0 0 (v 46 0 + 1) 0) u' ∧ ∀ i, u' 2 i = u 2 i := by
  intro m
  induction m with
  | zero =>
    intro j n' u e1 e2 hN
    obtain ⟨n', rfl⟩ : ∃ a, n' = a + 1 := ⟨n' - 1, by omega⟩
    have : j = 8 := by omega
    subst this
    obtain ⟨u1, y1, hN1, hu1⟩ := s_letter (v := kkp v t 8) (q := q) (z := z) (w := w) (kd := 4) (to := v 1 t) (fr := v 1 t) (t := t) (wt := 0) hN h600 h22
    have y1' : fX11_letter q 4 (nI (v 1 t)) (nI (v 1 t)) (nI t) 0 (mB q z u w) = some (nI (v 24 0), mB q z u1 w) := y1
    have q46 : u1 46 0 = nI (v 46 0) := by
      rw [hN1.k46]
      rfl
    have hN2 : Nv (zu (zu (ltz (kkp v t 8) 4 (v 1 t) (v 1 t) t 0 0 0 0 0) 21 (v 24 0) (v 46 0 + 1)) 46 0 (v 46 0 + 1)) (zu (zu u1 21 (v 24 0) (nI (v 46 0))) 46 0 (nI (v 46 0 + 1))) := (hN1.wr (by rw [dv_e rfl])).wr (by rw [dv_n rfl])
    have e21 : zu (ltz (kkp v t 8) 4 (v 1 t) (v 1 t) t 0 0 0 0 0) 21 (v 24 0) (v 46 0 + 1) = ltz (kkp v t 8) 4 (v 1 t) (v 1 t) t 0 0 0 (v 46 0 + 1) 0 := ltz_21 (v := kkp v t 8)
    have e46 : zu (ltz (kkp v t 8) 4 (v 1 t) (v 1 t) t 0 0 0 (v 46 0 + 1) 0) 46 0 (v 46 0 + 1) = ltz (kkv v t) 4 (v 1 t) (v 1 t) t 0 0 0 (v 46 0 + 1) 0 := by
      rw [← kkp_8]
      simp only [ltz]
      rw [zu_comm (a := 24) (by decide), zu_comm (a := 23) (by decide), zu_comm (a := 22) (by decide), zu_comm (a := 21) (by decide), zu_comm (a := 20) (by decide), zu_comm (a := 19) (by decide), zu_comm (a := 18) (by decide), zu_comm (a := 17) (by decide), zu_comm (a := 16) (by decide), zu_comm (a := 15) (by decide), zu_comm (a := 14) (by decide)]
      rfl
    rw [e21, e46] at hN2
    have q1 : u 1 t = nI (v 1 t) := by rw [hN.k1]; rfl
    have p46 : zu u1 21 (v 24 0) (nI (v 46 0)) 46 0 = nI (v 46 0) := q46
    have e3 : nI (v 46 0 + 1) - 1 = nI (v 46 0) := nI_pred _
    have q46b : zu (zu u1 21 (v 24 0) (nI (v 46 0))) 46 0 (nI (v 46 0 + 1)) 46 0 = nI (v 46 0 + 1) := zu_s
    rw [fX11_doubt_84, if_pos (show (8 : Int32) ≤ nI 8 from Int32.le_refl _)]
    simp (disch := omega) only [mA1, b1_s, mX1, mI_n, q1]
    rw [mtg, b1_s, y1', b2_s, mA21, b1_s, mG46, b1_s, q46, mY21 (mC_n h600 (by decide)), b1_s, nI_c (by omega), mG46, b1_s, p46, nI_1, mP46, b1_s, mG46, b1_s, q46b, e3]
    exact ⟨_, rfl, hN2, fun i => hu1 i⟩
  | succ m ih =>
    intro j n' u e1 e2 hN
    obtain ⟨n', rfl⟩ : ∃ a, n' = a + 1 := ⟨n' - 1, by omega⟩
    have q46 : u 46 0 = nI (v 46 0) := by rw [hN.k46]; rfl
    have hN2 := hN.wr (k := 41) (i := 8 * v 46 0 + j) (n := 0) (x := -1) (by rw [dv_0 rfl])
    rw [kkp_s] at hN2
    obtain ⟨u', f1, f2, f3⟩ := ih (j + 1) n' _ (by omega) (by omega) hN2
    rw [fX11_doubt_84, if_neg (show ¬ (8 : Int32) ≤ nI j from nI_ge (b := 8) (by omega) (by decide)), mA41, b1_s, mG46, b1_s, q46, n8, mY41 (mC_n (show 8 * v 46 0 + j < 160 by omega) (by decide)), b1_s, nI_c (by omega), nI_1]
    exact ⟨u', f1, f2, fun i => f3 i⟩
theorem i20 (hb : v 46 0 ≤ 20) {α : Type} {x y : α} : (if nI (v 46 0) = 20 then x else y) = if v 46 0 = 20 then x else y := nI_ifeq (b := 20) (by omega) (by decide)
theorem st_doubt : st1 (Jx b0 q) b0 q fX10_doubt fX11_doubt := by
  intro n x y v1 hn hJ
  obtain ⟨d, c, v, u, w, z, rfl, rfl, rfl, R, hN, hI⟩ := id hJ
  have hF := R.2.1
  have hX := R.2.2.1
  have hT := hI.1
  have hb := hT.1
  have hL := hI.2.2.1
  have hb2 := hL.1
  have hK := hI.2.2.2.2.2.1
  have hb3 := hK.1
  unfold fX10_doubt fX11_doubt
  rw [qa_100_0 hF hX, b1_s, qt_101 hF, b1_s, mtg, b1_s]
  rcases b_there (q := q) (z := z) R hT hN v1 with ⟨t, ht, h7, rfl, e1, e2⟩ | ⟨e1, e2⟩
  rotate_left
  · rw [e1, b2_s, oe_0, e2, b2_s, if_pos rfl]
    exact b_ref 0 R hN hI (by decide) (by decide)
  obtain ⟨k0, k1, k3, k7, k8, k4, k6⟩ := hT.k ht
  rw [e1, b2_s, oe_1, e2, b2_s, if_neg (show ¬ (1 : Int32) = 0 by decide), g_kind R ht, b1_s, mA0, b1_s, mX0, mI_n (by omega) (by decide), b1_s, hN.k0, nI_if3 (by omega), nI_if3 (by omega)]
  by_cases h3 : v 0 t = 3
  · rw [if_pos h3, if_pos h3]
    exact b_ref 1 R hN hI (by decide) (by decide)
  rw [if_neg h3, if_neg h3, g_tg R ht, b1_s, e_isAnchor R ht (by omega) k8, b2_s, mtg, b1_s, s_holdsOut hN hT ht, b2_s]
  by_cases ha : 0 < v 4 t ∧ v 8 t = 0
  rotate_left
  · rw [if_neg ha, if_pos rfl, if_neg (show ¬ (v 7 t = 0 ∧ v 0 t ≠ 3 ∧ 0 < v 4 t ∧ v 8 t = 0) from fun h => ha ⟨h.2.2.1, h.2.2.2⟩), if_pos rfl]
    exact b_ref 4 R hN hI (by decide) (by decide)
  rw [if_pos ha, if_neg (show ¬ (1 : Int32) = 0 by decide), if_pos (show v 7 t = 0 ∧ v 0 t ≠ 3 ∧ 0 < v 4 t ∧ v 8 t = 0 from ⟨h7, h3, ha.1, ha.2⟩), if_neg (show ¬ (1 : Int32) = 0 by decide), cgI (t := 10) (f100 hF) rfl, b1_s, show cI c 100 0 10 = nI (v 46 0) from R.2.2.2.2.2.2.1.1, qa_100_3 hF hX, b1_s, qn_107 hF hX, b1_s, nI_ifle (by omega) (by omega), mG46, b1_s, hN.k46, i20 hb3]
  by_cases h20 : v 46 0 = 20
  · rw [if_pos (by omega), if_pos h20]
    exact b_ref 5 R hN hI (by decide) (by decide)
  rw [if_neg (by omega), if_neg h20, qa_100_1 hF hX, b1_s, qt_103 hF, b1_s, e_room1 R hb2, b2_s, mG24, b1_s, hN.k24, i600 hb2]
  by_cases h600 : v 24 0 = 600
  · rw [if_neg (show ¬ v 24 0 + 1 ≤ 600 by omega), if_pos rfl, if_pos h600]
    exact b_ref 5 R hN hI (by decide) (by decide)
  have hlt : v 24 0 < 600 := by omega
  have hlt2 : v 46 0 < 20 := by omega
  have h22 : v 22 (v 24 0) = 0 := hL.2.2 _ (Nat.le_refl _) hlt
  obtain ⟨f37, f39, f40, f42⟩ := hK.2.2.1 _ (Nat.le_refl _) hlt2
  rw [if_pos (show v 24 0 + 1 ≤ 600 by omega), if_neg (show ¬ (1 : Int32) = 0 by decide), if_neg h600]
  obtain ⟨d1, c1, x1, hE1, R1⟩ := e_begin (t := t) (K := fun a24 s33 => (b1 (gA 10 1 (da d 100 0) s33) fun a34 => (b1 (gI 5 2 (da d 1 t) s33) fun x35 => (b1 (tg 2 a34 s33) fun _ => (b2 (fX2_fileOfWalk a34 4 (some a24) x35 (some (da d 1 t)) 0 s33) fun x37 s38 => (b1 (gI 9 0 a24 s38) fun x39 => some (x39, s38))))))) R ht hlt2 ⟨f37, f39, f40, fun n hn => (f42 n hn).1⟩
  have h100 := (hE1 100 0 (f100 hF)).1
  have h1t := (hE1 1 t (R.t ht).1).1
  have k46 : v 46 0 < kkv v t 46 0 := by rw [kkv_46]; omega
  have s38 : kkv v t 38 (v 46 0) < kkv v t 9 0 := by rw [kkv_38]; exact ht
  obtain ⟨d2, c2, x2, hE2, R2⟩ := e_fileOfWalk (kd := 4) (fr := v 1 t) (wk := v 46 0) (st := 0) (t := t) R1 (Or.inl rfl) ht k46 s38 hlt
  rw [if_pos rfl, ltv_eq] at R2
  have x2' : fX2_fileOfWalk (da d1 103 0) 4 (some (da d1 5 (v 46 0))) (nI (v 1 t)) (some (da d1 1 t)) 0 (cB d1 c1) = some (nI (v 24 0), cB d2 c2) := x2
  have gh : gI 5 2 (da d1 1 t) (cB d1 c1) = some (nI (v 1 t)) := g_host (v := kkv v t) R1 ht
  have h5 := (hE2 5 (v 46 0) (R1.kt k46).1).1
  have gn : gI 9 0 (da d2 5 (v 46 0)) (cB d2 c2) = some (nI (v 46 0)) := gk_num R2 (show v 46 0 < ltz (kkv v t) 4 (v 1 t) (v 1 t) t 0 0 0 (v 46 0 + 1) 0 46 0 from k46)
  have x3 : (b1 (gA 10 1 (da d 100 0) (cB d1 c1)) fun a34 => (b1 (gI 5 2 (da d 1 t) (cB d1 c1)) fun x35 => (b1 (tg 2 a34 (cB d1 c1)) fun _ => (b2 (fX2_fileOfWalk a34 4 (some (da d1 5 (v 46 0))) x35 (some (da d 1 t)) 0 (cB d1 c1)) fun x37 s38 => (b1 (gI 9 0 (da d1 5 (v 46 0)) s38) fun x39 => some (x39, s38)))))) = some (nI (v 46 0), cB d2 c2) := by
    rw [← h100, ← h1t, qa_100_1 R1.2.1 R1.2.2.1, b1_s, gh, b1_s, qt_103 R1.2.1, b1_s, x2', b2_s, ← h5, gn, b1_s]
  have hN1 : Nv (kkp v t 0) (zu u 38 (v 46 0) (nI t)) := by
    rw [kkp_0]
    exact hN.wr (by rw [dv_n rfl])
  obtain ⟨u2, y2, hN2, hu2⟩ := s_doubt84 (q := q) (z := z) (w := w) hlt2 ht hb hlt h22 8 0 100000 _ (by omega) (by omega) hN1
  rw [mA38, b1_s, b1_s, mY38 (mC_n hlt2 (by decide)), b1_s, nI_c (by omega)]
  have hu : ∀ i, u2 2 i = u 2 i := fun i => hu2 i
  refine ⟨_, _, _, x1.trans x3, y2, rfl, d2, c2, _, u2, w, z, rfl, rfl, ((hE1.trans hE2) 100 0 (f100 hF)).1, R2.uw hu (fun _ => rfl), hN2, ?_⟩
  refine (((hI.begin hlt2 ht h3).wlet hlt (Or.inl rfl) ht h3 k1 k1 (fun _ => rfl) k46 (by decide) (fun _ => Or.inl ⟨rfl, ?_⟩)).up).uw hu
  rw [kkv_38]
end DB
