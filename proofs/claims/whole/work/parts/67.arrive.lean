section DC
variable {d d' : AD} {c c' : CH} {v v' : Nu} {u u' : Mu} {w w' : Me} {n q z m r t p k l b0 g wt x h : Nat} {od : Nat → Nat} {D : Nat → Prop}
theorem e_wremove2 {i : Nat} (R : RC d c v u w) (hi : i < v 29 0) (hb : v 29 0 ≤ 16) : ∃ c', fX7_remove (da d 105 0) (nI i) (cB d c) = some ((), cB d c') ∧ RC d c' (wrv v i) u w ∧ sm 10 c c' := by
  obtain ⟨a1, a2, a3⟩ := id R.2.2.2.2.2.1
  have hF := R.2.1
  have hX := R.2.2.1
  have hA := R.1.1
  have hN : cN c 106 0 = 16 := hX.2.2.2.2.1
  have key := zlp (F := fun n k (c' : CH) => fX7_remove_28 n (da d 105 0) (nI (v 29 0 - 1)) k (cB d c')) (N := v 29 0 - 1)
    (fun k c' => i ≤ k ∧ WF d c' ∧ (∀ k, k ≠ 106 → sm k c c') ∧ cN c' 106 0 = 16 ∧ ∀ j, j < v 29 0 → cQ c' 106 0 j = if i ≤ j ∧ j < k then cQ c 106 0 (j + 1) else cQ c 106 0 j)
    (fun y => ∃ c', y = some ((), cB d c') ∧ RC d c' (wrv v i) u w ∧ sm 10 c c')
    (by
      rintro n k c' hk ⟨p0, p1, p2, p3, p4⟩
      left
      have e0 : cI c' 105 0 1 = nI (v 29 0) := ((p2 105 (by decide)).1 0 1).trans a1
      have e1 : cQ c' 105 0 0 = some (106, 0) := ((p2 105 (by decide)).2.1 0 0).trans hX.2.1.2.2.1
      obtain ⟨q, q1, -⟩ := a2 (k + 1) (by omega)
      have e2 : cQ c' 106 0 (k + 1) = some (10, q) := by rw [p4 _ (by omega), if_neg (by omega)]; exact q1
      have hl : lvd d 10 q := R.1.2.2 106 0 _ _ q1
      refine ⟨kwQ 106 0 k (some (10, q)) c', ?_, by omega, p1.wQ (f106 hF) (fun y hy => by cases hy; exact hl), fun k' hk' => (p2 k' hk').Q hk', p3, fun j hj => ?_⟩
      · show fX7_remove_28 (n + 1) (da d 105 0) (nI (v 29 0 - 1)) (nI k) (cB d c') = _
        rw [fX7_remove_28, nI_1, nI_ifle (by omega) (by omega), if_neg (by omega), cgA (t := 7) (f105 hF) rfl e1, b1_s]
        dsimp only
        rw [b1_s, cxP (t := 18) (f106 hF) rfl (by rw [p3]; omega) (by omega), b1_s, e2]
        show b1 (yP 18 8 (da d 106 0) (nI k) (some (da d 10 q)) (cB d c')) _ = _
        rw [cyP (t := 18) (e := 8) (r := some (da d 10 q)) (some (10, q)) hA (f106 hF) rfl (by rw [p3]; omega) (by omega) rfl (fun y hy => by cases hy; exact ⟨hl, rfl⟩), b1_s]
      · by_cases e : j = k
        · subst e
          rw [if_pos (by omega), q1]
          exact z3_s
        · have ev : cQ (kwQ 106 0 k (some (10, q)) c') 106 0 j = cQ c' 106 0 j := z3_n (by omega)
          rw [ev, p4 j hj]
          by_cases e3 : i ≤ j ∧ j < k
          · rw [if_pos e3, if_pos (by omega)]
          · rw [if_neg e3, if_neg (by omega)])
    (by
      rintro n c' ⟨p0, p1, p2, p3, p4⟩
      have e0 : cI c' 105 0 1 = nI (v 29 0) := ((p2 105 (by decide)).1 0 1).trans a1
      have e1 : cQ c' 105 0 0 = some (106, 0) := ((p2 105 (by decide)).2.1 0 0).trans hX.2.1.2.2.1
      have w5 := (p1.wI (i := 1) (v := nI (v 29 0 - 1)) (f105 hF)).wQ (i := v 29 0 - 1) (q := none) (f106 hF) (fun y hy => by cases hy)
      refine ⟨kwQ 106 0 (v 29 0 - 1) none (kwI 105 0 1 (nI (v 29 0 - 1)) c'), ?_, R.wait Ex.rfl w5 (fun _ _ _ => Iff.rfl) (fun k h1 h2 h3 => ((p2 k h3).I h2).Q h3) (fun i => (p2 105 (by decide)).2.1 0 i) ⟨(p2 105 (by decide)).2.2.2 0, by rw [hN]; exact p3⟩ (fun k i hk => ?_) ⟨?_, fun k hk => ?_, a3⟩, ((p2 10 (by decide)).I (by decide)).Q (by decide)⟩
      · show fX7_remove_28 (n + 1) (da d 105 0) (nI (v 29 0 - 1)) (nI (v 29 0 - 1)) (cB d c') = _
        rw [fX7_remove_28, if_pos (Int32.le_refl _), cgA (t := 7) (f105 hF) rfl e1, b1_s]
        dsimp only
        rw [cyP (t := 18) (e := 8) (r := none) none hA (f106 hF) rfl (by rw [p3]; omega) (by omega) rfl (fun y hy => by cases hy), b1_s, cpI (t := 7) hA (f105 hF) rfl, b1_s]
        rfl
      · simp only [wrv]
        rw [if_neg (by omega), if_neg (by omega)]
      · have : wrv v i 29 0 = v 29 0 - 1 := by simp [wrv]
        rw [this]
        rfl
      · have : wrv v i 29 0 = v 29 0 - 1 := by simp [wrv]
        rw [this] at hk
        have ev : cQ (kwQ 106 0 (v 29 0 - 1) none (kwI 105 0 1 (nI (v 29 0 - 1)) c')) 106 0 k = cQ c' 106 0 k := z3_n (by omega)
        have s10 := p2 10 (by decide)
        have z26 : ∀ f, 26 ≤ f ∧ f ≤ 28 → wrv v i f k = v f (if i ≤ k then k + 1 else k) := by
          intro f hf
          simp only [wrv]
          by_cases e : i ≤ k
          · rw [if_pos (by omega), if_pos e]
          · rw [if_neg (by omega), if_neg (by omega), if_neg e]
        obtain ⟨q, q1, q2, q3, q4⟩ := a2 (if i ≤ k then k + 1 else k) (by split <;> omega)
        refine ⟨q, ?_, ?_, ?_, ?_⟩
        · rw [ev, p4 k (by omega), ← q1]
          by_cases e : i ≤ k
          · rw [if_pos (by omega), if_pos e]
          · rw [if_neg (by omega), if_neg e]
        · rw [z26 26 (by omega), ← q2]; exact s10.2.1 q 0
        · rw [z26 27 (by omega), ← q3]; exact s10.2.1 q 1
        · rw [z26 28 (by omega), ← q4]; exact s10.1 q 2)
  unfold fX7_remove
  rw [cgI (t := 7) (f105 hF) rfl, b1_s, a1, if_neg (nI_pos (by omega)), show nI (v 29 0) - 1 = nI (v 29 0 - 1) from (by rw [show v 29 0 = (v 29 0 - 1) + 1 by omega, nI_pred]; rfl), nI_iflt (by omega) (by omega), if_neg (by omega), cgA (t := 7) (f105 hF) rfl hX.2.1.2.2.1, b1_s]
  dsimp only
  rw [cxN (t := 18) (f106 hF) rfl, b1_s, hN, nI_iflt (by omega) (by omega), if_pos (by omega)]
  exact key (v 29 0 - 1 - i) 100000 i c (by omega) (by omega) ⟨Nat.le_refl _, R.1, fun _ _ => sm.rfl, hN, fun j hj => by rw [if_neg (by omega)]⟩
theorem zu_comm {α : Type} {f : Nat → Nat → α} {a i b j : Nat} {x y : α} (h : a ≠ b) : zu (zu f a i x) b j y = zu (zu f b j y) a i x := by
  funext k' i'
  simp only [zu]
  by_cases e1 : k' = a ∧ i' = i
  · rw [if_neg (show ¬ (k' = b ∧ i' = j) by omega), if_pos e1, if_pos e1]
  · rw [if_neg e1, if_neg e1]
theorem c23_plc {a b e y : Nat} : zu (plc v t p a b e) 23 l y = plc (zu v 23 l y) t p a b e := by
  simp only [plc]
  rw [zu_comm (a := 12) (by decide), zu_comm (a := 11) (by decide), zu_comm (a := 10) (by decide)]
theorem c23_tkv {y : Nat} : zu (tkv v t wt) 23 l y = tkv (zu v 23 l y) t wt := by
  simp only [tkv]
  rw [zu_comm (a := 8) (by decide), zu_comm (a := 4) (by decide)]
  rfl
theorem c23_mk5 {kd hs pl e y : Nat} : zu (mk5 v kd hs pl m e) 23 l y = mk5 (zu v 23 l y) kd hs pl m e := by
  funext k' i'
  simp only [mk5, mkv, zu]
  by_cases e : k' = 23
  · subst e
    simp
  · simp [e]
theorem c23_ltz {kd to fr wt rt pl wk st y : Nat} (hl : l ≠ v 24 0) : zu (ltz v kd to fr t wt rt pl wk st) 23 l y = ltz (zu v 23 l y) kd to fr t wt rt pl wk st := by
  have e23 : ∀ f : Nu, zu (zu f 23 (v 24 0) 1) 23 l y = zu (zu f 23 l y) 23 (v 24 0) 1 := by
    intro f
    funext k' i'
    simp only [zu]
    by_cases e1 : k' = 23 ∧ i' = l
    · rw [if_pos e1, if_neg (by omega), if_pos e1]
    · rw [if_neg e1]
      by_cases e2 : k' = 23 ∧ i' = v 24 0
      · rw [if_pos e2, if_pos e2]
      · rw [if_neg e2, if_neg e2, if_neg e1]
  simp only [ltz]
  rw [zu_comm (a := 24) (by decide), e23, zu_comm (a := 22) (by decide), zu_comm (a := 21) (by decide), zu_comm (a := 20) (by decide), zu_comm (a := 19) (by decide), zu_comm (a := 18) (by decide), zu_comm (a := 17) (by decide), zu_comm (a := 16) (by decide), zu_comm (a := 15) (by decide), zu_comm (a := 14) (by decide)]
  rfl
theorem c23_wrv {i y : Nat} : zu (wrv v i) 23 l y = wrv (zu v 23 l y) i := by
  funext k j
  simp only [zu, wrv]
  by_cases e : k = 23
  · subst e
    simp
  · simp [e]
/-! the class: what letters do -/
theorem e_takes (R : RC d c v u w) (hT : iT v) (ht : t < v 9 0) (hw : wt ≤ v 4 t) : ∃ c', fX5_takeFromExit (da d 1 t) (nI wt) (cB d c) = some ((), cB d c') ∧ RC d c' (tkv v t wt) u w := by
  obtain ⟨k0, k1, k3, k7, k8, k4, k6⟩ := hT.k ht
  have R1 := R.exit (e := v 4 t - wt) ht
  have ge : gI 5 8 (da d 1 t) (cB d (kwI 1 t 8 (nI (v 4 t - wt)) c)) = some (nI (v 4 t - wt)) := by
    have := g_exit R1 ht
    rw [zu_s] at this
    exact this
  unfold fX5_takeFromExit
  rw [g_exit R ht, b1_s, pk_sub hw, cpI (t := 5) R.1.1 (R.t ht).1 rfl, b1_s, ge, b1_s, nI_if0 (by omega)]
  by_cases e : v 4 t - wt = 0
  · rw [if_pos e, cpZ (t := 5) R1.1.1 (R1.t ht).1 rfl (Or.inl rfl), b1_s]
    refine ⟨_, rfl, ?_⟩
    have R2 := R1.broken (e := 0) ht
    have : tkv v t wt = zu (zu v 4 t (v 4 t - wt)) 8 t 0 := by simp only [tkv]; rw [if_pos e]
    rw [this]
    exact R2
  · rw [if_neg e]
    refine ⟨_, rfl, ?_⟩
    have : tkv v t wt = zu v 4 t (v 4 t - wt) := by
      simp only [tkv]
      rw [if_neg e]
      exact zu_id rfl
    rw [this]
    exact R1
theorem s_takes (hN : Nv v u) (hT : iT v) (ht : t < v 9 0) (hw : wt ≤ v 4 t) : ∃ u', fX11_takes q (nI t) (nI wt) (mB q z u w) = some ((), mB q z u' w) ∧ Nv (tkv v t wt) u' ∧ ∀ i, u' 2 i = u 2 i := by
  obtain ⟨k0, k1, k3, k7, k8, k4, k6⟩ := hT.k ht
  have hb := hT.1
  have C := mC_n (show t < 300 by omega) (show (300 : Nat) < 2147483648 by decide)
  have hN1 : Nv (zu v 4 t (v 4 t - wt)) (zu u 4 t (nI (v 4 t - wt))) := hN.wr (by rw [dv_n rfl])
  unfold fX11_takes
  rw [mA4, b1_s, mX4, mI_n (by omega) (by decide), b1_s, hN.k4, pk_sub hw, mY4 C, b1_s, nI_c (by omega), mA4, b1_s, mX4, mI_n (by omega) (by decide), b1_s, zu_s, nI_if0 (by omega)]
  by_cases e : v 4 t - wt = 0
  · rw [if_pos e, mA8, b1_s, mY8 C, b1_s, nI_c (by omega), nar0]
    refine ⟨_, rfl, ?_, fun _ => rfl⟩
    have : tkv v t wt = zu (zu v 4 t (v 4 t - wt)) 8 t 0 := by simp only [tkv]; rw [if_pos e]
    rw [this]
    exact hN1.wr (by rw [dv_n rfl]; rfl)
  · rw [if_neg e]
    refine ⟨_, rfl, ?_, fun _ => rfl⟩
    have : tkv v t wt = zu v 4 t (v 4 t - wt) := by
      simp only [tkv]
      rw [if_neg e]
      exact zu_id rfl
    rw [this]
    exact hN1
/-- HOME, in the class -/
theorem e_arriveHome (R : RC d c v u w) (hT : iT v) (hl : l < v 24 0) (ht : v 17 l < v 9 0) (hw : v 18 l ≤ v 4 (v 17 l)) (h8 : v 15 l < 8) : ∃ c', fX10_arriveHome (da d 100 0) (some (da d 4 l)) (cB d c) = some (1, cB d c') ∧ RC d c' (tch (tkv v (v 17 l) (v 18 l)) (v 15 l)) u w := by
  obtain ⟨c1, r1, R1⟩ := e_takes R hT ht hw
  obtain ⟨c2, r2, R2⟩ := e_touch2 R1 h8
  have gt : gI 0 2 (da d 4 l) (cB d c1) = some (nI (v 15 l)) := gl_to (v := tkv v (v 17 l) (v 18 l)) R1 hl
  unfold fX10_arriveHome
  rw [b1_s, gl_aboutA R hl, b1_s, gl_weight R hl, b1_s, g_tg R ht, b1_s, r1, b2_s, gt, b1_s, qt_100 R1.2.1, b1_s, r2, b2_s]
  exact ⟨c2, rfl, R2⟩
/-- MORE, in the class -/
theorem e_arriveMore (R : RC d c v u w) (hT : iT v) (h600 : v 24 0 < 600) (hl : l < v 24 0) (ht : v 17 l < v 9 0) (h8 : v 15 l < 8) : ∃ d' c', fX10_arriveMore (da d 100 0) (some (da d 4 l)) (cB d c) = some (1, cB d' c') ∧ Ex d d' ∧ RC d' c' (tch (ltz (zu v 4 (v 17 l) (v 4 (v 17 l) + 64)) 2 (v 16 l) (v 15 l) (v 17 l) 64 0 0 0 0) (v 15 l)) u w := by
  have R1 := R.exit (e := v 4 (v 17 l) + 64) ht
  obtain ⟨d', c2, e1, hE, R2⟩ := e_fileOfWeight (kd := 2) (fr := v 15 l) (to := v 16 l) (wt := 64) (t := v 17 l) R1 ht h600
  have e1' : fX2_fileOfWeight (da d 103 0) 2 (nI (v 15 l)) (nI (v 16 l)) (some (da d 1 (v 17 l))) 64 (cB d (kwI 1 (v 17 l) 8 (nI (v 4 (v 17 l) + 64)) c)) = some (nI (v 24 0), cB d' c2) := e1
  rw [ltv_eq] at R2
  obtain ⟨c3, r3, R3⟩ := e_touch2 R2 h8
  have e64 : nI (v 4 (v 17 l)) + 64 = nI (v 4 (v 17 l) + 64) := nI_add _ 64
  have g2 : gI 0 2 (da d 4 l) (cB d (kwI 1 (v 17 l) 8 (nI (v 4 (v 17 l) + 64)) c)) = some (nI (v 15 l)) := gl_to (v := zu v 4 (v 17 l) (v 4 (v 17 l) + 64)) R1 hl
  have g1 : gI 0 1 (da d 4 l) (cB d (kwI 1 (v 17 l) 8 (nI (v 4 (v 17 l) + 64)) c)) = some (nI (v 16 l)) := gl_from (v := zu v 4 (v 17 l) (v 4 (v 17 l) + 64)) R1 hl
  have g3 : gA 0 3 (da d 4 l) (cB d (kwI 1 (v 17 l) 8 (nI (v 4 (v 17 l) + 64)) c)) = some (da d 1 (v 17 l)) := gl_aboutA (v := zu v 4 (v 17 l) (v 4 (v 17 l) + 64)) R1 hl
  have h100 := (hE 100 0 (f100 R.2.1)).1
  have h4l := (hE 4 l (R.lt hl).1).1
  have g5 : gI 0 2 (da d' 4 l) (cB d' c2) = some (nI (v 15 l)) := by
    have := gl_to R2 (l := l) (show l < ltz (zu v 4 (v 17 l) (v 4 (v 17 l) + 64)) 2 (v 16 l) (v 15 l) (v 17 l) 64 0 0 0 0 24 0 from (by rw [ltz_24]; show l < v 24 0 + 1; omega))
    rw [ltz_n (v := zu v 4 (v 17 l) (v 4 (v 17 l) + 64)) (k := 15) (show l ≠ v 24 0 by omega) (by omega)] at this
    exact this
  unfold fX10_arriveMore
  rw [qa_100_1 R.2.1 R.2.2.1, b1_s, qt_103 R.2.1, b1_s, e_room1 R (by omega), b2_s, if_pos (show v 24 0 + 1 ≤ 600 by omega), if_neg (show ¬ (1 : Int32) = 0 by decide), b1_s, gl_aboutA R hl, b1_s, g_exit R ht, b1_s, e64, cpI (t := 5) R.1.1 (R.t ht).1 rfl, b1_s, qa_100_1 R1.2.1 R1.2.2.1, b1_s, g2, b1_s, g1, b1_s, g3, b1_s, qt_103 R1.2.1, b1_s, e1', b2_s, ← h4l, ← h100, g5, b1_s, qt_100 R2.2.1, b1_s, r3, b2_s]
  exact ⟨d', c3, rfl, hE, R3⟩
theorem e_arriveMore0 (R : RC d c v u w) (h600 : v 24 0 = 600) : fX10_arriveMore (da d 100 0) (some (da d 4 l)) (cB d c) = some (0, cB d c) := by
  unfold fX10_arriveMore
  rw [qa_100_1 R.2.1 R.2.2.1, b1_s, qt_103 R.2.1, b1_s, e_room1 R (by omega), b2_s, if_neg (show ¬ v 24 0 + 1 ≤ 600 by omega), if_pos rfl]
  rfl
end DC
