section BL
variable {d d' : AD} {c c' : CH} {v v' : Nu} {u u' : Mu} {w w' : Me} {n q z m r t k l b0 g wt x y h i s told : Nat} {D : Nat → Prop}
def bkv (v : Nu) (k told : Nat) : Nu := zu (zu v 39 k (v 39 k + 1)) 40 k (v 40 k + told)
theorem c23_bkv : zu (bkv v k told) 23 l 0 = bkv (zu v 23 l 0) k told := by
  simp only [bkv]
  rw [zu_comm (a := 40) (by decide), zu_comm (a := 39) (by decide)]
  rfl
theorem bkv_39 : bkv v k told 39 k = v 39 k + 1 := by
  simp only [bkv]
  rw [zu_n (by omega), zu_s]
theorem bkv_40 : bkv v k told 40 k = v 40 k + told := by
  simp only [bkv]
  rw [zu_s]
/-- how a walk ends, in the class -/
theorem e_endWalk [Decidable (chg v k)] [Decidable (AL v k (v 38 k))] (R : RC d c v u w) (hT : iT v) (hW : iW v) (hk : k < v 46 0) (h38 : v 38 k < v 9 0) (h44 : ∀ x, x < 300 → v 44 (300 * k + x) ≤ 40000) (h41b : ∀ h, h < 8 → v 41 (8 * k + h) ≤ 100000) (h30 : ∀ h, h < 8 → v 30 h ≤ 100000) (hP : ¬ chg v k → iP v k) : ∃ c', fX10_endWalk (da d 100 0) (some (da d 5 k)) (cB d c) = some ((), cB d c') ∧ RC d c' (if chg v k then zu v 37 k 2 else if AL v k (v 38 k) then zu v 37 k 1 else tch (zu (zu v 37 k 3) 8 (v 38 k) 1) (v 1 (v 38 k))) u w := by
  have l5 := (R.kt hk).1
  unfold fX10_endWalk
  rw [qa_100_4 R.2.1 R.2.2.1, b1_s, b1_s, gk_tg R hk, b1_s, e_isChanged R hk h41b h30, b2_s]
  by_cases hc : chg v k
  · rw [if_pos hc, if_neg (show ¬ (1 : Int32) = 0 by decide), if_pos hc, cpI (t := 9) R.1.1 l5 rfl, b1_s]
    exact ⟨_, rfl, R.kend (e := 2) hk⟩
  · obtain ⟨c1, e1, R1⟩ := e_isStartAlive R hT hW hk (hP hc) h44 h38
    rw [if_neg hc, if_pos rfl, if_neg hc, qt_100 R.2.1, b1_s, e1, b2_s]
    by_cases ha : AL v k (v 38 k)
    · rw [if_pos ha, if_neg (show ¬ (1 : Int32) = 0 by decide), if_pos ha, cpI (t := 9) R1.1.1 l5 rfl, b1_s]
      exact ⟨_, rfl, R1.kend (e := 1) hk⟩
    · have R2 := R1.kend (e := 3) hk
      have R3 : RC d _ (zu (zu v 37 k 3) 8 (v 38 k) 1) u w := R2.broken (e := 1) (n := v 38 k) h38
      have hs1 : gA 9 1 (da d 5 k) (cB d (kwI 5 k 6 (nI 3) c1)) = some (da d 1 (v 38 k)) := gk_start (v := zu v 37 k 3) R2 hk
      have hs2 : gA 9 1 (da d 5 k) (cB d (kwI 1 (v 38 k) 9 (nI 1) (kwI 5 k 6 (nI 3) c1))) = some (da d 1 (v 38 k)) := gk_start (v := zu (zu v 37 k 3) 8 (v 38 k) 1) R3 hk
      have hs3 : gI 5 2 (da d 1 (v 38 k)) (cB d (kwI 1 (v 38 k) 9 (nI 1) (kwI 5 k 6 (nI 3) c1))) = some (nI (v 1 (v 38 k))) := g_host (v := zu (zu v 37 k 3) 8 (v 38 k) 1) R3 h38
      have h8 := (hT.k h38).2.1
      obtain ⟨c2, e2, R4⟩ := e_touch2 R3 h8
      have p1 : pI 9 6 (da d 5 k) 3 (cB d c1) = some (cB d (kwI 5 k 6 (nI 3) c1)) := cpI (t := 9) R1.1.1 l5 rfl
      have p2 : pZ 5 9 (da d 1 (v 38 k)) 1 (cB d (kwI 5 k 6 (nI 3) c1)) = some (cB d (kwI 1 (v 38 k) 9 (nI 1) (kwI 5 k 6 (nI 3) c1))) := cpZ (t := 5) R2.1.1 (R2.t (n := v 38 k) h38).1 rfl (Or.inr rfl)
      rw [if_neg ha, if_pos rfl, if_neg ha, p1, b1_s, hs1, b1_s, p2, b1_s, hs2, b1_s, hs3, b1_s, qt_100 R3.2.1, b1_s, e2, b2_s]
      exact ⟨_, rfl, R4⟩
/-- how a walk ends, in the reference -/
theorem s_endWalk [Decidable (chg v k)] [Decidable (AL v k (v 38 k))] (hN : Nv v u) (hT : iT v) (hW : iW v) (hk : k < 20) (h38 : v 38 k < v 9 0) (h42 : ∀ x, x < 300 → v 42 (300 * k + x) ≤ 1 ∧ v 43 (300 * k + x) ≤ 1 ∧ v 44 (300 * k + x) ≤ 40000 ∧ (v 42 (300 * k + x) = 1 → x < v 9 0)) (h41b : ∀ h, h < 8 → v 41 (8 * k + h) ≤ 100000) (h30 : ∀ h, h < 8 → v 30 h ≤ 100000) (hP : ¬ chg v k → aN v w k) : ∃ u', fX11_backs_65 100000 q (nI k) 0 0 (mB q z u w) = some ((), mB q z u' w) ∧ Nv (if chg v k then zu v 37 k 2 else if AL v k (v 38 k) then zu v 37 k 1 else tch (zu (zu v 37 k 3) 8 (v 38 k) 1) (v 1 (v 38 k))) u' ∧ ∀ i, u' 2 i = u 2 i := by
  have hb := hT.1
  rw [s_changed hN hk h41b h30, fX11_backs_65, if_pos (Int32.le_refl _), mA38, b1_s, mX38, mI_n hk (by decide), b1_s, hN.k38]
  by_cases hc : chg v k
  · rw [if_pos hc, if_neg (show ¬ (1 : Int32) = 0 by decide), if_pos hc, mA37, b1_s, mY37 (mC_n hk (by decide)), b1_s, nI_c (by omega)]
    exact ⟨_, rfl, hN.wr (by rw [dv_n rfl]; rfl), fun i => zu_n (by omega)⟩
  · obtain ⟨u1, e1, s1⟩ := x_isAlive (q := q) (z := z) (s := v 38 k) hN hT hW hk h42 (hP hc) h38
    have hN1 := hN.sc s1.sc
    rw [if_neg hc, if_pos rfl, if_neg hc, mtg, b1_s, e1, b2_s]
    by_cases ha : AL v k (v 38 k)
    · rw [if_pos ha, if_neg (show ¬ (1 : Int32) = 0 by decide), if_pos ha, mA37, b1_s, mY37 (mC_n hk (by decide)), b1_s, nI_c (by omega)]
      exact ⟨_, rfl, hN1.wr (by rw [dv_n rfl]; rfl), fun i => (zu_n (by omega)).trans (s1 2 i (by decide))⟩
    · have h8 := (hT.k h38).2.1
      have hN2 : Nv (zu v 37 k 3) (zu u1 37 k 3) := hN1.wr (by rw [dv_n rfl]; rfl)
      have hN3 : Nv (zu (zu v 37 k 3) 8 (v 38 k) 1) (zu (zu u1 37 k 3) 8 (v 38 k) (vp_nar .boolean 1)) := hN2.wr (by rw [dv_n rfl]; rfl)
      obtain ⟨t1, t2, t3⟩ := hN3.touch (q := q) (z := z) (w := w) h8
      have r1 : zu (zu u1 37 k 3) 8 (v 38 k) (vp_nar .boolean 1) 1 (v 38 k) = nI (v 1 (v 38 k)) := hN3.k1 _
      rw [if_neg ha, if_pos rfl, if_neg ha, mA37, b1_s, mY37 (mC_n hk (by decide)), b1_s, nI_c (by omega), mA8, b1_s, mY8 (mC_n (by omega) (by decide)), b1_s, nI_c (by omega), mA30, b1_s, mA1, b1_s, mX1, mI_n (by omega) (by decide), b1_s, r1, t1, b1_s, t2, b1_s]
      exact ⟨_, rfl, t3, fun i => by
        rw [zu_n (by omega), zu_n (by omega), zu_n (by omega)]
        exact s1 2 i (by decide)⟩
/-- a letter BACK -/
theorem b_back (R : RC d c v u w) (hN : Nv v u) (hI : Inv D0 n v u w) (hn : n < 512) (hl : l < v 24 0) (h23 : v 23 l = 1) (h14 : v 14 l = 5) : Dok q n l d c v u w z := by
  obtain ⟨hT, hF, hL, hW, hC, hK, hX, hS, hG, hQ, hM⟩ := id hI
  have hb := hT.1
  have hb2 := hL.1
  have hb20 := hK.1
  obtain ⟨o1, o2, o3, o4, o5, o6, o7, o8, o9, o10, o11, o12, o13, o14⟩ := hL.2.1 l hl
  obtain ⟨k, k1, k2⟩ := o13 (by omega)
  obtain ⟨a1, a2, a3, a4, a5, a6, a7, a8⟩ := hK.2.1 k k2
  have hd : fX11_deliver q (nI l) (mB q z u w) = (b2 (fX11_backs q (nI l) (mB q z (zu u 23 l 0) w)) fun _ s46 => some (1, s46)) := by
    rw [s_deliver hN hT hL hl h23, if_neg (by omega)]
    have := s_deliver86 (q := q) (z := z) (w := w) (t := v 17 l) (h := v 15 l) (f := 0) hN hT hL hl (by omega) (by decide)
    rw [if_neg (by rw [if_neg (by omega)]; omega)] at this
    refine Eq.trans this ?_
    rw [s_126 hN (by omega) o1, if_neg (by omega), if_neg (by omega), if_neg (by omega), if_neg (by omega), if_neg (by omega), mtg, b1_s]
  have gw : gP 0 7 (da d 4 l) (cB d c) = some (some (da d 5 k)) := by
    rw [gl_walk R hl, k1, if_neg (by omega)]
    rfl
  have hI0 := hI.camew hl h23 (by omega)
  have hN0 : Nv (zu v 23 l 0) (zu u 23 l 0) := hN.came
  have r21 : zu u 23 l 0 21 l = nI k := by
    have := hN.k21 l
    rw [k1, dv_e rfl] at this
    exact this
  have r37 : zu u 23 l 0 37 k = nI (v 37 k) := hN0.k37 k
  right
  by_cases h37 : v 37 k = 0
  rotate_left
  · refine ⟨d, c, v, zu u 23 l 0, w, e_arr5 R hl h14 ?_ (Or.inr rfl), Ex.rfl, R.uw (fun i => rfl) (fun _ => rfl), hl, ?_, hN0, (hI0.up).uw (fun _ => rfl)⟩
    · unfold fX10_arriveBack
      rw [b1_s, gw, b1_s, oe_1, gk_end R k2, b1_s, if_neg (nI_ne0 (by omega) (by omega))]
      rfl
    · rw [hd]
      unfold fX11_backs
      rw [mA21, b1_s, mX21, mI_n (by omega) (by decide), b1_s, r21, mA37, b1_s, mX37, mI_n (by omega) (by decide), b1_s, r37, if_neg (nI_ne0 (by omega) (by omega)), b2_s]
  have hle := (a8 h37).1
  have h30 := hC.1
  obtain ⟨c1, e1, R1⟩ := e_comeBack (told := v 22 l) R k2
  have R1' : RC d c1 (bkv v k (v 22 l)) u w := R1
  -- the reference's numbers
  have hN1 : Nv (zu (zu v 23 l 0) 39 k (v 39 k + 1)) (zu (zu u 23 l 0) 39 k (nI (v 39 k + 1))) := hN0.wr (by rw [dv_n rfl])
  have hN2 : Nv (bkv (zu v 23 l 0) k (v 22 l)) (zu (zu (zu u 23 l 0) 39 k (nI (v 39 k + 1))) 40 k (nI (v 40 k + v 22 l))) := hN1.wr (by rw [dv_n rfl]; rfl)
  have q39 : zu u 23 l 0 39 k = nI (v 39 k) := hN0.k39 k
  have q40 : zu (zu u 23 l 0) 39 k (nI (v 39 k + 1)) 40 k = nI (v 40 k) := hN1.k40 k
  have q22 : zu (zu u 23 l 0) 39 k (nI (v 39 k + 1)) 22 l = nI (v 22 l) := hN1.k22 l
  have q39' : zu (zu (zu u 23 l 0) 39 k (nI (v 39 k + 1))) 40 k (nI (v 40 k + v 22 l)) 39 k = nI (v 39 k + 1) := by
    rw [zu_n (by omega), zu_s]
  have q40' : zu (zu (zu u 23 l 0) 39 k (nI (v 39 k + 1))) 40 k (nI (v 40 k + v 22 l)) 40 k = nI (v 40 k + v 22 l) := zu_s
  have hr : fX11_backs q (nI l) (mB q z (zu u 23 l 0) w) = if 1 + (v 40 k + v 22 l) ≤ v 39 k + 1 then fX11_backs_65 100000 q (nI k) 0 0 (mB q z (zu (zu (zu u 23 l 0) 39 k (nI (v 39 k + 1))) 40 k (nI (v 40 k + v 22 l))) w) else some ((), mB q z (zu (zu (zu u 23 l 0) 39 k (nI (v 39 k + 1))) 40 k (nI (v 40 k + v 22 l))) w) := by
    unfold fX11_backs
    rw [mA21, b1_s, mX21, mI_n (by omega) (by decide), b1_s, r21, mA37, b1_s, mX37, mI_n (by omega) (by decide), b1_s, r37, h37, if_pos (show nI 0 = 0 from rfl), mA39, b1_s, mX39, mI_n (by omega) (by decide), b1_s, q39, nI_1, mY39 (mC_n (by omega) (by decide)), b1_s, nI_c (by omega), mA40, b1_s, mX40, mI_n (by omega) (by decide), b1_s, q40, mA22, b1_s, mX22, mI_n (by omega) (by decide), b1_s, q22, nI_add, mY40 (mC_n (by omega) (by decide)), b1_s, nI_c (by omega), mA39, b1_s, mX39, mI_n (by omega) (by decide), b1_s, q39', mA40, b1_s, mX40, mI_n (by omega) (by decide), b1_s, q40', show (1 : Int32) = nI 1 from rfl, nI_add, nI_ifle (by omega) (by omega)]
  -- the class's numbers
  have hcl : fX10_arriveBack (da d 100 0) (some (da d 4 l)) (cB d c) = if 1 + (v 40 k + v 22 l) ≤ v 39 k + 1 then (b2 (fX10_endWalk (da d 100 0) (some (da d 5 k)) (cB d c1)) fun _ s15 => rz 1 s15) else rz 1 (cB d c1) := by
    unfold fX10_arriveBack
    rw [b1_s, gw, b1_s, oe_1, gk_end R k2, b1_s, h37, if_pos (show nI 0 = 0 from rfl), gl_told R hl, b1_s, gk_tg R k2, b1_s, e1, b2_s, gk_backs R1' k2, b1_s, gk_steps R1' k2, b1_s, bkv_39, bkv_40, nI_ifeq (by omega) (by omega)]
    by_cases e : v 39 k + 1 = 1 + (v 40 k + v 22 l)
    · rw [if_pos e, if_pos (by omega), qt_100 R1'.2.1, b1_s]
    · rw [if_neg e, if_neg (by omega)]
  by_cases hend : 1 + (v 40 k + v 22 l) ≤ v 39 k + 1
  rotate_left
  · rw [if_neg hend] at hcl hr
    refine ⟨d, c1, bkv v k (v 22 l), _, w, e_arr5 R hl h14 (hcl.trans rfl) (Or.inr rfl), Ex.rfl, R1'.uw (fun i => ?_) (fun _ => rfl), hl, by rw [hd, hr, b2_s], by rw [c23_bkv]; exact hN2, ?_⟩
    · rw [zu_n (by omega), zu_n (by omega), zu_n (by omega)]
    · rw [c23_bkv]
      have := (hI0.up).backs (k := k) (told := v 22 l) (e := 0) k2 (show v 39 k + 1 ≤ n + 1 by omega) (show v 40 k + v 22 l ≤ 300 * (n + 1) by omega) h37 (Or.inl ⟨rfl, show v 39 k + 1 ≤ v 40 k + v 22 l by omega⟩)
      have e : zu (bkv (zu v 23 l 0) k (v 22 l)) 37 k 0 = bkv (zu v 23 l 0) k (v 22 l) := zu_id (show bkv (zu v 23 l 0) k (v 22 l) 37 k = 0 from h37)
      rw [← e]
      exact Inv.uw this (fun i => by rw [zu_n (by omega), zu_n (by omega), zu_n (by omega)])
  rw [if_pos hend] at hcl hr
  haveI := Classical.propDecidable (chg v k)
  haveI : Decidable (chg (bkv v k (v 22 l)) k) := Classical.propDecidable _
  haveI : Decidable (AL (bkv v k (v 22 l)) k (bkv v k (v 22 l) 38 k)) := Classical.propDecidable _
  haveI : Decidable (chg (bkv (zu v 23 l 0) k (v 22 l)) k) := Classical.propDecidable _
  haveI : Decidable (AL (bkv (zu v 23 l 0) k (v 22 l)) k (bkv (zu v 23 l 0) k (v 22 l) 38 k)) := Classical.propDecidable _
  have haN : ¬ chg v k → aN v w k := fun hc x hx e => by
    have h9 := (a6 x hx).2.2.2 e
    refine ⟨h9, ((a8 h37).2 x hx e).2 ?_ (fun h => h)⟩
    have b1 := ((a8 h37).2 x hx e).1
    have b8 := (hT.k h9).2.1
    by_cases e2 : v 41 (8 * k + v 1 x) = v 30 (v 1 x) + 1
    · exact e2
    · exact absurd ⟨v 1 x, b8, b1, e2⟩ hc
  obtain ⟨c2, e2, R2⟩ := e_endWalk (v := bkv v k (v 22 l)) (k := k) R1' hT hW k2 a1 (fun x hx => (a6 x hx).2.2.1) (fun h hh => by have := a7 h hh; have := h30 h hh; show v 41 (8 * k + h) ≤ 100000; omega) (fun h hh => by have := h30 h hh; show v 30 h ≤ 100000; omega) (fun hc => (haN hc).p)
  obtain ⟨u3, y3, hN3, hu3⟩ := s_endWalk (v := bkv (zu v 23 l 0) k (v 22 l)) (k := k) (q := q) (z := z) (w := w) hN2 hT hW (by omega) a1 a6 (fun h hh => by have := a7 h hh; have := h30 h hh; show v 41 (8 * k + h) ≤ 100000; omega) (fun h hh => by have := h30 h hh; show v 30 h ≤ 100000; omega) (fun hc => haN hc)
  rw [e2, b2_s] at hcl
  have hu : ∀ i, u3 2 i = u 2 i := fun i => by
    rw [hu3 i, zu_n (by omega), zu_n (by omega), zu_n (by omega)]
  have inv : ∀ e, 1 ≤ e ∧ e ≤ 3 → Inv D0 (n + 1) (zu (bkv (zu v 23 l 0) k (v 22 l)) 37 k e) u3 w := fun e he => ((hI0.up).backs (k := k) (told := v 22 l) (e := e) k2 (show v 39 k + 1 ≤ n + 1 by omega) (show v 40 k + v 22 l ≤ 300 * (n + 1) by omega) h37 (Or.inr he)).uw hu
  by_cases hc : chg v k
  · rw [if_pos (show chg (bkv v k (v 22 l)) k from hc)] at R2
    rw [if_pos (show chg (bkv (zu v 23 l 0) k (v 22 l)) k from hc)] at hN3
    have eq : zu (zu (bkv v k (v 22 l)) 37 k 2) 23 l 0 = zu (bkv (zu v 23 l 0) k (v 22 l)) 37 k 2 := by
      rw [zu_comm (a := 37) (by decide), c23_bkv]
    exact ⟨d, c2, _, u3, w, e_arr5 R hl h14 (hcl.trans rfl) (Or.inr rfl), Ex.rfl, R2.uw hu (fun _ => rfl), hl, by rw [hd, hr, y3, b2_s], by rw [eq]; exact hN3, by rw [eq]; exact inv 2 (by decide)⟩
  · rw [if_neg (show ¬ chg (bkv v k (v 22 l)) k from hc)] at R2
    rw [if_neg (show ¬ chg (bkv (zu v 23 l 0) k (v 22 l)) k from hc)] at hN3
    by_cases ha : AL v k (v 38 k)
    · rw [if_pos (show AL (bkv v k (v 22 l)) k (bkv v k (v 22 l) 38 k) from ha)] at R2
      rw [if_pos (show AL (bkv (zu v 23 l 0) k (v 22 l)) k (bkv (zu v 23 l 0) k (v 22 l) 38 k) from ha)] at hN3
      have eq : zu (zu (bkv v k (v 22 l)) 37 k 1) 23 l 0 = zu (bkv (zu v 23 l 0) k (v 22 l)) 37 k 1 := by
        rw [zu_comm (a := 37) (by decide), c23_bkv]
      exact ⟨d, c2, _, u3, w, e_arr5 R hl h14 (hcl.trans rfl) (Or.inr rfl), Ex.rfl, R2.uw hu (fun _ => rfl), hl, by rw [hd, hr, y3, b2_s], by rw [eq]; exact hN3, by rw [eq]; exact inv 1 (by decide)⟩
    · rw [if_neg (show ¬ AL (bkv v k (v 22 l)) k (bkv v k (v 22 l) 38 k) from ha)] at R2
      rw [if_neg (show ¬ AL (bkv (zu v 23 l 0) k (v 22 l)) k (bkv (zu v 23 l 0) k (v 22 l) 38 k) from ha)] at hN3
      have eq : zu (tch (zu (zu (bkv v k (v 22 l)) 37 k 3) 8 (v 38 k) 1) (v 1 (v 38 k))) 23 l 0 = tch (zu (zu (bkv (zu v 23 l 0) k (v 22 l)) 37 k 3) 8 (v 38 k) 1) (v 1 (v 38 k)) := by
        rw [zu_tch (by decide), zu_comm (a := 8) (by decide), zu_comm (a := 37) (by decide), c23_bkv]
      have hnm : ¬ Mt v (v 38 k) := fun hm => by
        rcases hX l k hl k1 h37 with h | h | h
        · omega
        · exact ha (Mt.al hI (haN hc) hm a1 (pas_iff.mpr ⟨h, a2⟩))
        · have := (hM _ hm).1
          omega
      have hnm0 : ¬ Mt (zu v 23 l 0) (v 38 k) := fun hm => hnm (hm (Mt v) (fun b hb => Cl.base (by
        rcases hb with h | ⟨j, j1, j2, j3, j4⟩ | h
        · exact Or.inl h
        · refine Or.inr (Or.inl ⟨j, j1, ?_, j3, j4⟩)
          by_cases e : j = l
          · rw [e, zu_s] at j2
            omega
          · rw [zu_n (by omega)] at j2
            exact j2
        · exact Or.inr (Or.inr h))) (fun x y hx hxy => hx.step hxy))
      refine ⟨d, c2, tch (zu (zu (bkv v k (v 22 l)) 37 k 3) 8 (v 38 k) 1) (v 1 (v 38 k)), u3, w, e_arr5 R hl h14 (hcl.trans rfl) (Or.inr rfl), Ex.rfl, R2.uw hu (fun _ => rfl), hl, by rw [hd, hr, y3, b2_s], by rw [eq]; exact hN3, ?_⟩
      rw [eq]
      exact ((inv 3 (by decide)).broke (s := v 38 k) a1 a2 hnm0).touch1 (fun g hg => h30 g hg)
end BL
