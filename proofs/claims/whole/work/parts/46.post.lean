section PO
variable {d d' : AD} {c c' : CH} {v v' : Nu} {u u' : Mu} {w w' : Me} {n m r t p k l : Nat} {od : Nat → Nat}
/-- the tables with a new letter -/
def ltv (v : Nu) (kd to fr t wt rt pl wk st : Nat) : Nu := fun k i => if i = v 24 0 ∧ 14 ≤ k ∧ k ≤ 23 then (if k = 14 then kd else if k = 15 then to else if k = 16 then fr else if k = 17 then t else if k = 18 then wt else if k = 19 then rt else if k = 20 then pl else if k = 21 then wk else if k = 22 then st else 1) else if k = 24 ∧ i = 0 then v 24 0 + 1 else v k i
theorem ltv_n {kd to fr t wt rt pl wk st k i : Nat} (h1 : ¬ (i = v 24 0 ∧ 14 ≤ k ∧ k ≤ 23)) (h2 : ¬ (k = 24 ∧ i = 0)) : ltv v kd to fr t wt rt pl wk st k i = v k i := by
  simp only [ltv]
  rw [if_neg h1, if_neg h2]
theorem ltv_24 {kd to fr t wt rt pl wk st : Nat} : ltv v kd to fr t wt rt pl wk st 24 0 = v 24 0 + 1 := by
  simp only [ltv]
  rw [if_neg (by omega)]
  simp
theorem ltv_l {kd to fr t wt rt pl wk st : Nat} : ltv v kd to fr t wt rt pl wk st 14 (v 24 0) = kd ∧ ltv v kd to fr t wt rt pl wk st 15 (v 24 0) = to ∧ ltv v kd to fr t wt rt pl wk st 16 (v 24 0) = fr ∧ ltv v kd to fr t wt rt pl wk st 17 (v 24 0) = t ∧ ltv v kd to fr t wt rt pl wk st 18 (v 24 0) = wt ∧ ltv v kd to fr t wt rt pl wk st 19 (v 24 0) = rt ∧ ltv v kd to fr t wt rt pl wk st 20 (v 24 0) = pl ∧ ltv v kd to fr t wt rt pl wk st 21 (v 24 0) = wk ∧ ltv v kd to fr t wt rt pl wk st 22 (v 24 0) = st ∧ ltv v kd to fr t wt rt pl wk st 23 (v 24 0) = 1 := by
  simp [ltv]
/-- the class has a new letter -/
theorem RC.post {kd to fr t wt rt pl wk st : Nat} (R : RC d c v u w) (hE : Ex d d') (hw : WF d' c') (hd : ∀ k x, lvd d' k x ↔ lvd d k x ∨ (k = 4 ∧ x = v 24 0)) (hs : ∀ k, k ≠ 4 → k ≠ 103 → k ≠ 104 → sm k c c') (h4 : ∀ x i, x ≠ v 24 0 → cI c' 4 x i = cI c 4 x i ∧ cQ c' 4 x i = cQ c 4 x i) (h104 : ∀ x, x ≠ v 24 0 → cQ c' 104 0 x = cQ c 104 0 x) (h104' : cQ c' 104 0 (v 24 0) = some (4, v 24 0)) (h103 : cI c' 103 0 1 = nI (v 24 0 + 1)) (h103' : ∀ i, cQ c' 103 0 i = cQ c 103 0 i) (hN : cN c' 103 0 = cN c 103 0 ∧ cN c' 104 0 = cN c 104 0) (hL : LF c' (ltv v kd to fr t wt rt pl wk st) (v 24 0)) : RC d' c' (ltv v kd to fr t wt rt pl wk st) u w := by
  obtain ⟨-, R1, R2, R3, R4, R5, R6, R7, R8⟩ := R
  have hd' : ∀ k x, k ≠ 4 → (lvd d' k x ↔ lvd d k x) := fun k x hk => by
    rw [hd]
    exact ⟨fun h => h.elim id (by omega), Or.inl⟩
  refine ⟨hw, R1.ex hE, R2.cg (fun k i hk => ?_) (fun k hk => ?_), R3.cg (hs _ (by decide) (by decide) (by decide)) (hs _ (by decide) (by decide) (by decide)) (hs _ (by decide) (by decide) (by decide)) (hs _ (by decide) (by decide) (by decide)) (hs _ (by decide) (by decide) (by decide)) (hs _ (by decide) (by decide) (by decide)) (hs _ (by decide) (by decide) (by decide)) (fun k x hk => hd' k x (by omega)) (fun k i hk => ltv_n (by omega) (by omega)) (fun _ => rfl) (fun _ => rfl), ⟨by rw [ltv_24]; exact h103, fun x hx => ?_, fun x hx => ?_⟩, R5.cg (hs _ (by decide) (by decide) (by decide)) (hs _ (by decide) (by decide) (by decide)) (hs _ (by decide) (by decide) (by decide)) (fun x => hd' 10 x (by decide)) (fun k i hk => ltv_n (by omega) (by omega)), R6.cg (fun k hk => hs k (by omega) (by omega) (by omega)) (hs _ (by decide) (by decide) (by decide)) ((hs 100 (by decide) (by decide) (by decide)).1 0 10) (fun k x hk => hd' k x (by omega)) (fun k i hk => ltv_n (by omega) (by omega)) (fun k x _ _ _ => ⟨ltv_n (by omega) (by omega), ltv_n (by omega) (by omega)⟩), R7.cg (hs _ (by decide) (by decide) (by decide)) (hs _ (by decide) (by decide) (by decide)) (hs _ (by decide) (by decide) (by decide)) ((hs 100 (by decide) (by decide) (by decide)).1 0 11) ((hs 100 (by decide) (by decide) (by decide)).1 0 12) (fun k i hk => ltv_n (by omega) (by omega)), R8.cg (fun k hk => hs k (by omega) (by omega) (by omega)) (by rw [ltv_n (by omega) (by omega)]; exact Nat.le_refl _)⟩
  · by_cases e : k = 103
    · rw [e]; exact h103' i
    · exact (hs k (by simp only [fixS] at hk; omega) e (by simp only [fixS] at hk; omega)).2.1 0 i
  · by_cases e : k = 103
    · rw [e]; exact hN.1
    · by_cases e2 : k = 104
      · rw [e2]; exact hN.2
      · exact (hs k (by omega) e e2).2.2.2 0
  · rw [ltv_24] at hx
    by_cases e : x = v 24 0
    · subst e
      exact ⟨(hd _ _).mpr (Or.inr ⟨rfl, rfl⟩), h104', hL⟩
    · obtain ⟨y1, y2, y3⟩ := R4.2.1 x (by omega)
      refine ⟨(hd _ _).mpr (Or.inl y1), by rw [h104 x e]; exact y2, ?_⟩
      simp only [LF, (h4 x _ e).1, (h4 x _ e).2, ltv_n (v := v) (kd := kd) (to := to) (fr := fr) (t := t) (wt := wt) (rt := rt) (pl := pl) (wk := wk) (st := st) (i := x) (k := 14) (by omega) (by omega), ltv_n (v := v) (kd := kd) (to := to) (fr := fr) (t := t) (wt := wt) (rt := rt) (pl := pl) (wk := wk) (st := st) (i := x) (k := 15) (by omega) (by omega), ltv_n (v := v) (kd := kd) (to := to) (fr := fr) (t := t) (wt := wt) (rt := rt) (pl := pl) (wk := wk) (st := st) (i := x) (k := 16) (by omega) (by omega), ltv_n (v := v) (kd := kd) (to := to) (fr := fr) (t := t) (wt := wt) (rt := rt) (pl := pl) (wk := wk) (st := st) (i := x) (k := 17) (by omega) (by omega), ltv_n (v := v) (kd := kd) (to := to) (fr := fr) (t := t) (wt := wt) (rt := rt) (pl := pl) (wk := wk) (st := st) (i := x) (k := 18) (by omega) (by omega), ltv_n (v := v) (kd := kd) (to := to) (fr := fr) (t := t) (wt := wt) (rt := rt) (pl := pl) (wk := wk) (st := st) (i := x) (k := 19) (by omega) (by omega), ltv_n (v := v) (kd := kd) (to := to) (fr := fr) (t := t) (wt := wt) (rt := rt) (pl := pl) (wk := wk) (st := st) (i := x) (k := 20) (by omega) (by omega), ltv_n (v := v) (kd := kd) (to := to) (fr := fr) (t := t) (wt := wt) (rt := rt) (pl := pl) (wk := wk) (st := st) (i := x) (k := 21) (by omega) (by omega), ltv_n (v := v) (kd := kd) (to := to) (fr := fr) (t := t) (wt := wt) (rt := rt) (pl := pl) (wk := wk) (st := st) (i := x) (k := 22) (by omega) (by omega), ltv_n (v := v) (kd := kd) (to := to) (fr := fr) (t := t) (wt := wt) (rt := rt) (pl := pl) (wk := wk) (st := st) (i := x) (k := 23) (by omega) (by omega)]
      exact y3
  · rw [ltv_24] at hx
    rw [hd]
    intro h
    rcases h with h | h
    · exact R4.2.2 x (by omega) h
    · omega
/-- the cells of a new letter -/
def lnew (l : Nat) (x0 x1 x2 : Int32) (q3 : Option (Nat × Nat)) (c : CH) : CH := kwQ 4 l 3 q3 (kwI 4 l 2 x2 (kwI 4 l 1 x1 (kwI 4 l 0 x0 (kwI 4 l 9 1 (kwI 4 l 8 0 (kwQ 4 l 7 none (kwI 4 l 6 (-1) (kwQ 4 l 5 none (kwI 4 l 4 0 c)))))))))
theorem e_linit {x0 x1 x2 : Int32} (hw : WF d c) (h1 : lvd d 4 l) (ht : lvd d 1 t) : fX0_init (da d 4 l) x0 x1 x2 (some (da d 1 t)) (cB d c) = some ((), cB d (lnew l x0 x1 x2 (some (1, t)) c)) ∧ WF d (lnew l x0 x1 x2 (some (1, t)) c) := by
  have hA := hw.1
  refine ⟨?_, (((((((((hw.wI h1).wQ h1 (fun y hy => by cases hy)).wI h1).wQ h1 (fun y hy => by cases hy)).wI h1).wI h1).wI h1).wI h1).wI h1).wQ h1 (fun y hy => by cases hy; exact ht)⟩
  unfold fX0_init
  rw [cpI (t := 0) hA h1 rfl, b1_s, cpP (t := 0) (r := none) none hA h1 rfl rfl, b1_s, cpI (t := 0) hA h1 rfl, b1_s, cpP (t := 0) (r := none) none hA h1 rfl rfl, b1_s, cpI (t := 0) hA h1 rfl, b1_s, cpZ (t := 0) hA h1 rfl (Or.inr rfl), b1_s, cpI (t := 0) hA h1 rfl, b1_s, cpI (t := 0) hA h1 rfl, b1_s, cpI (t := 0) hA h1 rfl, b1_s, cpP (t := 0) (r := some (da d 1 t)) (some (1, t)) hA h1 rfl rfl, b1_s]
  rfl
theorem e_file (hw : WF d c) (hF : FL d) (hL : lvd d 4 l) (hl : l < 600) (h0 : cQ c 103 0 0 = some (104, 0)) (hN : cN c 104 0 = 600) (h1 : cI c 103 0 1 = nI l) : fX2_file (da d 103 0) (some (da d 4 l)) (cB d c) = some (nI l, cB d (kwI 103 0 1 (nI (l + 1)) (kwQ 104 0 l (some (4, l)) c))) ∧ WF d (kwI 103 0 1 (nI (l + 1)) (kwQ 104 0 l (some (4, l)) c)) := by
  have hA := hw.1
  refine ⟨?_, (hw.wQ (f104 hF) (fun y hy => by cases hy; exact hL)).wI (f103 hF)⟩
  unfold fX2_file
  rw [cgI (t := 2) (f103 hF) rfl, b1_s, h1, cgA (t := 2) (f103 hF) rfl h0, b1_s]
  dsimp only
  rw [cxN (t := 15) (f104 hF) rfl, b1_s, hN, nI_iflt (by omega) (by omega), if_pos hl, b1_s, b1_s, cyP (t := 15) (e := 0) (r := some (da d 4 l)) (some (4, l)) hA (f104 hF) rfl (by rw [hN]; exact hl) (by omega) rfl (fun y hy => by cases hy; exact ⟨hL, rfl⟩), b1_s, cgI (t := 2) (f103 hF) rfl, b1_s, show cI (kwQ 104 0 l (some (4, l)) c) 103 0 1 = nI l from h1, nI_1, cpI (t := 2) hA (f103 hF) rfl, b1_s, cgI (t := 2) (f103 hF) rfl, b1_s, show cI (kwI 103 0 1 (nI (l + 1)) (kwQ 104 0 l (some (4, l)) c)) 103 0 1 = nI (l + 1) from rfl, nI_pred]
theorem post0 (R : RC d c v u w) : ¬ lvd d 4 (v 24 0) ∧ WF (dnew 4 (v 24 0) d) (kwN 4 (v 24 0) 0 c) ∧ Ex d (dnew 4 (v 24 0) d) ∧ lvd (dnew 4 (v 24 0) d) 4 (v 24 0) ∧ (∀ k x, lvd (dnew 4 (v 24 0) d) k x ↔ lvd d k x ∨ (k = 4 ∧ x = v 24 0)) ∧ nO 0 (cB d c) = some (da (dnew 4 (v 24 0) d) 4 (v 24 0), cB (dnew 4 (v 24 0) d) (kwN 4 (v 24 0) 0 c)) := by
  have g4 := R.2.2.2.2.1.2.2 (v 24 0) (Nat.le_refl _)
  exact ⟨g4, R.1.new (by decide) g4, Ex.rfl.new R.1.1 g4, (dnew_new (by decide)).2, fun k x => dnew_iff R.1.1 (by decide) g4, cnO R.1 (by decide) g4 rfl⟩
theorem e_fileName {fr wt root : Nat} (R : RC d c v u w) (ht : t < v 9 0) (hr : root < v 9 0) (hl : v 24 0 < 600) : ∃ d' c', fX2_fileName (da d 103 0) (nI fr) (some (da d 1 t)) (nI wt) (some (da d 1 root)) (nI p) (cB d c) = some (nI (v 24 0), cB d' c') ∧ Ex d d' ∧ RC d' c' (ltv v 0 (v 1 root) fr t wt (root + 1) (p + 1) 0 0) u w := by
  obtain ⟨g4, w1, e1, L4, hd, hO⟩ := post0 R
  have hF := R.2.1.ex e1
  have hX := R.2.2.1
  obtain ⟨et, Lt⟩ := e1 1 t (R.t ht).1
  obtain ⟨er, Lr⟩ := e1 1 root (R.t hr).1
  have e103 := (e1 103 0 (f103 R.2.1)).1
  have th : cI (kwN 4 (v 24 0) 0 c) 1 root 2 = nI (v 1 root) := (R.t hr).2.2.2.2.1.2.2.1
  obtain ⟨i1, w2⟩ := e_linit (x0 := 0) (x1 := nI fr) (x2 := nI (v 1 root)) w1 L4 Lt
  have w3 := ((w2.wI (i := 4) (v := nI wt) L4).wQ (i := 5) (q := some (1, root)) L4 (fun y hy => by cases hy; exact Lr)).wI (i := 6) (v := nI p) L4
  obtain ⟨i2, w4⟩ := e_file w3 hF L4 hl hX.2.1.2.1 hX.2.2.2.1 R.2.2.2.2.1.1
  obtain ⟨m1, m2, m3, m4, m5, m6, m7, m8, m9, m10⟩ := ltv_l (v := v) (kd := 0) (to := v 1 root) (fr := fr) (t := t) (wt := wt) (rt := root + 1) (pl := p + 1) (wk := 0) (st := 0)
  refine ⟨_, _, ?_, e1, R.post e1 w4 hd (fun k h1 h2 h3 => ((((((((((((((((sm.rfl.N h1).I h1).Q h1).I h1).Q h1).I h1).I h1).I h1).I h1).I h1).Q h1).I h1).Q h1).I h1).Q h3).I h2)) (fun x i hx => ?_) (fun x hx => z3_n (f := c.2.2.1) (by omega)) (z3_s (f := c.2.2.1)) rfl (fun i => rfl) ⟨rfl, rfl⟩ ?_⟩
  · unfold fX2_fileName
    rw [hO, b2_s, b1_s, ← er, ← et, cgI (t := 5) Lr rfl, b1_s, th, i1, b2_s, cpI (t := 0) w1.1 L4 rfl, b1_s, cpP (t := 0) (r := some (da (dnew 4 (v 24 0) d) 1 root)) (some (1, root)) w1.1 L4 rfl rfl, b1_s, cpI (t := 0) w1.1 L4 rfl, b1_s, ← e103, ctg (t := 2) (f103 hF) rfl, b1_s, i2, b2_s]
  · simp [cI, cQ, lnew, kwI, kwQ, kwN, z3, hx]
  · simp only [LF, m1, m2, m3, m4, m5, m6, m7, m8, m9, m10, dv_e (k := 20) (n := p) rfl]
    simp [cI, cQ, lnew, kwI, kwQ, kwN, z3, qe]
    exact ⟨rfl, rfl⟩
theorem e_fileOfWeight {kd fr to wt : Nat} (R : RC d c v u w) (ht : t < v 9 0) (hl : v 24 0 < 600) : ∃ d' c', fX2_fileOfWeight (da d 103 0) (nI kd) (nI fr) (nI to) (some (da d 1 t)) (nI wt) (cB d c) = some (nI (v 24 0), cB d' c') ∧ Ex d d' ∧ RC d' c' (ltv v kd to fr t wt 0 0 0 0) u w := by
  obtain ⟨g4, w1, e1, L4, hd, hO⟩ := post0 R
  have hF := R.2.1.ex e1
  have hX := R.2.2.1
  obtain ⟨et, Lt⟩ := e1 1 t (R.t ht).1
  have e103 := (e1 103 0 (f103 R.2.1)).1
  obtain ⟨i1, w2⟩ := e_linit (x0 := nI kd) (x1 := nI fr) (x2 := nI to) w1 L4 Lt
  have w3 := w2.wI (i := 4) (v := nI wt) L4
  obtain ⟨i2, w4⟩ := e_file w3 hF L4 hl hX.2.1.2.1 hX.2.2.2.1 R.2.2.2.2.1.1
  obtain ⟨m1, m2, m3, m4, m5, m6, m7, m8, m9, m10⟩ := ltv_l (v := v) (kd := kd) (to := to) (fr := fr) (t := t) (wt := wt) (rt := 0) (pl := 0) (wk := 0) (st := 0)
  refine ⟨_, _, ?_, e1, R.post e1 w4 hd (fun k h1 h2 h3 => ((((((((((((((sm.rfl.N h1).I h1).Q h1).I h1).Q h1).I h1).I h1).I h1).I h1).I h1).Q h1).I h1).Q h3).I h2)) (fun x i hx => ?_) (fun x hx => z3_n (f := c.2.2.1) (by omega)) (z3_s (f := c.2.2.1)) rfl (fun i => rfl) ⟨rfl, rfl⟩ ?_⟩
  · unfold fX2_fileOfWeight
    rw [hO, b2_s, ← et, i1, b2_s, cpI (t := 0) w1.1 L4 rfl, b1_s, ← e103, ctg (t := 2) (f103 hF) rfl, b1_s, i2, b2_s]
  · simp [cI, cQ, lnew, kwI, kwQ, kwN, z3, hx]
  · simp only [LF, m1, m2, m3, m4, m5, m6, m7, m8, m9, m10, dv_0 (k := 20) rfl]
    simp [cI, cQ, lnew, kwI, kwQ, kwN, z3, qe]
    exact ⟨rfl, rfl⟩
theorem e_fileOfWalk {kd fr wk st : Nat} (R : RC d c v u w) (hkd : kd = 4 ∨ kd = 5) (ht : t < v 9 0) (hk : wk < v 46 0) (hs : v 38 wk < v 9 0) (hl : v 24 0 < 600) : ∃ d' c', fX2_fileOfWalk (da d 103 0) (nI kd) (some (da d 5 wk)) (nI fr) (some (da d 1 t)) (nI st) (cB d c) = some (nI (v 24 0), cB d' c') ∧ Ex d d' ∧ RC d' c' (ltv v kd (if kd = 4 then v 1 t else v 1 (v 38 wk)) fr t 0 0 0 (wk + 1) st) u w := by
  obtain ⟨g4, w1, e1, L4, hd, hO⟩ := post0 R
  have hF := R.2.1.ex e1
  have hX := R.2.2.1
  obtain ⟨et, Lt⟩ := e1 1 t (R.t ht).1
  have hK := R.2.2.2.2.2.2.1.2.1 wk hk
  obtain ⟨ek, Lk⟩ := e1 5 wk hK.1
  have e103 := (e1 103 0 (f103 R.2.1)).1
  obtain ⟨i1, w2⟩ := e_linit (x0 := nI kd) (x1 := nI fr) (x2 := nI (if kd = 4 then v 1 t else v 1 (v 38 wk))) w1 L4 Lt
  have w3 := (w2.wQ (i := 7) (q := some (5, wk)) L4 (fun y hy => by cases hy; exact Lk)).wI (i := 8) (v := nI st) L4
  obtain ⟨i2, w4⟩ := e_file w3 hF L4 hl hX.2.1.2.1 hX.2.2.2.1 R.2.2.2.2.1.1
  obtain ⟨m1, m2, m3, m4, m5, m6, m7, m8, m9, m10⟩ := ltv_l (v := v) (kd := kd) (to := if kd = 4 then v 1 t else v 1 (v 38 wk)) (fr := fr) (t := t) (wt := 0) (rt := 0) (pl := 0) (wk := wk + 1) (st := st)
  have key : fX2_fileOfWalk_20 (da d 103 0) (nI kd) (some (da d 5 wk)) (nI fr) (some (da d 1 t)) (nI st) (nI (if kd = 4 then v 1 t else v 1 (v 38 wk))) (cB d c) = some (nI (v 24 0), cB (dnew 4 (v 24 0) d) (kwI 103 0 1 (nI (v 24 0 + 1)) (kwQ 104 0 (v 24 0) (some (4, v 24 0)) (kwI 4 (v 24 0) 8 (nI st) (kwQ 4 (v 24 0) 7 (some (5, wk)) (lnew (v 24 0) (nI kd) (nI fr) (nI (if kd = 4 then v 1 t else v 1 (v 38 wk))) (some (1, t)) (kwN 4 (v 24 0) 0 c))))))) := by
    unfold fX2_fileOfWalk_20
    rw [hO, b2_s, ← et, i1, b2_s, ← ek, cpP (t := 0) (r := some (da (dnew 4 (v 24 0) d) 5 wk)) (some (5, wk)) w1.1 L4 rfl rfl, b1_s, cpI (t := 0) w1.1 L4 rfl, b1_s, ← e103, ctg (t := 2) (f103 hF) rfl, b1_s, i2, b2_s]
  refine ⟨_, _, ?_, e1, R.post e1 w4 hd (fun k h1 h2 h3 => (((((((((((((((sm.rfl.N h1).I h1).Q h1).I h1).Q h1).I h1).I h1).I h1).I h1).I h1).Q h1).Q h1).I h1).Q h3).I h2)) (fun x i hx => ?_) (fun x hx => z3_n (f := c.2.2.1) (by omega)) (z3_s (f := c.2.2.1)) rfl (fun i => rfl) ⟨rfl, rfl⟩ ?_⟩
  · rw [← key]
    unfold fX2_fileOfWalk
    rcases hkd with rfl | rfl
    · rw [if_pos (show nI 4 = 4 from rfl), b1_s, g_host R ht, b1_s, if_pos rfl]
    · rw [if_neg (show ¬ nI 5 = 4 by decide), b1_s, cgA (t := 9) hK.1 rfl hK.2.2.2.2.2.2.1.2.1, b1_s]
      dsimp only
      rw [g_host R hs, b1_s, if_neg (by decide)]
  · simp [cI, cQ, lnew, kwI, kwQ, kwN, z3, hx]
  · simp only [LF, m1, m2, m3, m4, m5, m6, m7, m8, m9, m10, dv_0 (k := 20) rfl]
    simp [cI, cQ, lnew, kwI, kwQ, kwN, z3, qe]
    exact ⟨rfl, rfl⟩
end PO
