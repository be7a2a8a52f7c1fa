section DN
variable {d d' : AD} {c c' : CH} {v v' : Nu} {u u' : Mu} {w w' : Me} {n q z m r t p k l b0 g wt x h : Nat} {D : Nat → Prop}
/-- the letter's PLACE holds a thing, the HOST's count: in the class -/
theorem e_name44 (R : RC d c v u w) (hT : iT v) (hl : l < v 24 0) (hr : v 19 l = r + 1) (hp : v 20 l = p + 1) (hr9 : r < v 9 0) (hp3 : p < v 3 r) (hx : x < v 9 0) (h8 : v 15 l < 8) : ∃ c', fX10_arriveName_44 (da d 100 0) (da d 4 l) (some (da d 1 x)) (cB d c) = some (1, cB d c') ∧ RC d c' (tch (plc v r p 1 x (v 12 (8 * r + p))) (v 15 l)) u w := by
  obtain ⟨i10, i11, i12⟩ := plc_in (v := v) (t := r) (p := p) (a := 1) (b := x) (e := v 12 (8 * r + p))
  obtain ⟨c1, r1, R1⟩ := e_holdThing (v' := plc v r p 1 x (v 12 (8 * r + p))) (some x) R hT hr9 hp3 (fun s hs => by cases hs; exact hx) (fun k i h => plc_n h) (fun s hs => by cases hs; exact ⟨i10, i11⟩) (fun h => by cases h)
  have r1' : fX5_holdThing (da d 1 r) (nI p) (some (da d 1 x)) (cB d c) = some ((), cB d c1) := r1
  obtain ⟨c2, r2, R2⟩ := e_touch2 R1 h8
  have gt : gI 0 2 (da d 4 l) (cB d c1) = some (nI (v 15 l)) := gl_to (v := plc v r p 1 x (v 12 (8 * r + p))) R1 hl
  have ga : gP 0 5 (da d 4 l) (cB d c) = some (some (da d 1 r)) := by
    rw [gl_target R hl, hr, if_neg (by omega)]
    rfl
  have gp : gI 0 6 (da d 4 l) (cB d c) = some (nI p) := by rw [gl_place R hl, hp, dv_e rfl]
  unfold fX10_arriveName_44 fX10_arriveName_69
  rw [oe_1, ga, b1_s, oe_1, b1_s, gp, b1_s, b1_s, g_tg R hr9, b1_s, r1', b2_s, gt, b1_s, qt_100 R1.2.1, b1_s, r2, b2_s]
  exact ⟨c2, rfl, R2⟩
/-- a NAME at the thing's own HOST -/
theorem e_nameOwn (R : RC d c v u w) (hT : iT v) (hl : l < v 24 0) (hr : v 19 l = r + 1) (hp : v 20 l = p + 1) (hr9 : r < v 9 0) (hp3 : p < v 3 r) (ht : v 17 l < v 9 0) (ht3 : v 0 (v 17 l) ≠ 3) (hw : v 18 l ≤ v 4 (v 17 l)) (h8 : v 15 l < 8) (hh : v 15 l = v 1 (v 17 l)) : ∃ c', fX10_arriveName (da d 100 0) (some (da d 4 l)) (cB d c) = some (1, cB d c') ∧ RC d c' (tch (plc (tkv v (v 17 l) (v 18 l)) r p 1 (v 17 l) (v 12 (8 * r + p))) (v 15 l)) u w := by
  obtain ⟨c1, r1, R1⟩ := e_takes R hT ht hw
  have k8 := (hT.k ht).2.2.2.2.1
  have k4 := (hT.k ht).2.2.2.2.2.1
  have hT1 : iT (tkv v (v 17 l) (v 18 l)) := by
    refine iT.brk (v := zu v 4 (v 17 l) (v 4 (v 17 l) - v 18 l)) (hT.exit ht ht3 (by omega)) ht3 ?_
    split <;> omega
  obtain ⟨c2, r2, R2⟩ := e_name44 (v := tkv v (v 17 l) (v 18 l)) (x := v 17 l) R1 hT1 hl hr hp hr9 hp3 ht h8
  unfold fX10_arriveName
  rw [b1_s, gl_aboutA R hl, b1_s, gl_to R hl, b1_s, g_host R ht, b1_s, if_pos (by rw [hh]), gl_weight R hl, b1_s, g_tg R ht, b1_s, r1, b2_s, r2]
  exact ⟨c2, rfl, R2⟩
/-- a NAME elsewhere, where there is a GATE -/
theorem e_nameGate (R : RC d c v u w) (hT : iT v) (hl : l < v 24 0) (hr : v 19 l = r + 1) (hp : v 20 l = p + 1) (hr9 : r < v 9 0) (hp3 : p < v 3 r) (ht : v 17 l < v 9 0) (h8 : v 15 l < 8) (hh : v 15 l ≠ v 1 (v 17 l)) (hg : gfi v (nI (v 15 l)) (v 17 l) = g) (hg9 : g < v 9 0) (hg3 : v 0 g = 3) (hw : v 6 g + v 18 l ≤ 40000) : ∃ c', fX10_arriveName (da d 100 0) (some (da d 4 l)) (cB d c) = some (1, cB d c') ∧ RC d c' (tch (plc (zu v 6 g (v 6 g + v 18 l)) r p 1 g (v 12 (8 * r + p))) (v 15 l)) u w := by
  have R1 := R.weight (e := v 6 g + v 18 l) hg9
  have g1 := (hT.g hg9 hg3).2.2.2
  have k1 := (hT.k ht).2.1
  have hT1 : iT (zu v 6 g (v 6 g + v 18 l)) := hT.weight hg9 hg3 (by omega)
  obtain ⟨c2, r2, R2⟩ := e_name44 (v := zu v 6 g (v 6 g + v 18 l)) (x := g) R1 hT1 hl hr hp hr9 hp3 hg9 h8
  have gm : fX10_gateWithMore (da d 100 0) (nI (v 15 l)) (some (da d 1 (v 17 l))) (nI (v 18 l)) (cB d c) = some (some (da d 1 g), cB d (kwI 1 g 7 (nI (v 6 g + v 18 l)) c)) := by
    unfold fX10_gateWithMore fX10_gateWithMore_41
    rw [qa_100_0 R.2.1 R.2.2.1, b1_s, qt_101 R.2.1, b1_s, e_gateAt R hT ht, b2_s, hg, if_pos hg9, oe_1, g_weight R hg9, b1_s, nI_add, cpI (t := 5) R.1.1 (R.t hg9).1 rfl, b1_s]
  unfold fX10_arriveName
  rw [b1_s, gl_aboutA R hl, b1_s, gl_to R hl, b1_s, g_host R ht, b1_s, nI_ifeq (by omega) (by omega), if_neg hh, b1_s, b1_s, gl_weight R hl, b1_s, qt_100 R.2.1, b1_s, gm, b2_s, r2]
  exact ⟨c2, rfl, R2⟩
/-- a NAME elsewhere, no room for a GATE -/
theorem e_nameNone (R : RC d c v u w) (hT : iT v) (hl : l < v 24 0) (ht : v 17 l < v 9 0) (h8 : v 15 l < 8) (hh : v 15 l ≠ v 1 (v 17 l)) (hg : ¬ gfi v (nI (v 15 l)) (v 17 l) < v 9 0) (h300 : v 9 0 = 300) : fX10_arriveName (da d 100 0) (some (da d 4 l)) (cB d c) = some (0, cB d c) := by
  have k1 := (hT.k ht).2.1
  have gm : fX10_gateWithMore (da d 100 0) (nI (v 15 l)) (some (da d 1 (v 17 l))) (nI (v 18 l)) (cB d c) = some (none, cB d c) := by
    unfold fX10_gateWithMore
    rw [qa_100_0 R.2.1 R.2.2.1, b1_s, qt_101 R.2.1, b1_s, e_gateAt R hT ht, b2_s, if_neg hg, oe_0, qa_100_0 R.2.1 R.2.2.1, b1_s, qt_101 R.2.1, b1_s, e_makeO R h300, b2_s, oe_0]
  unfold fX10_arriveName
  rw [b1_s, gl_aboutA R hl, b1_s, gl_to R hl, b1_s, g_host R ht, b1_s, nI_ifeq (by omega) (by omega), if_neg hh, b1_s, b1_s, gl_weight R hl, b1_s, qt_100 R.2.1, b1_s, gm, b2_s]
  unfold fX10_arriveName_44
  rw [oe_0]
  rfl
/-- a NAME elsewhere, with a new GATE -/
theorem e_nameNew (R : RC d c v u w) (hT : iT v) (hF : iF v u) (h46 : v 46 0 ≤ 20) (hl : l < v 24 0) (hr : v 19 l = r + 1) (hp : v 20 l = p + 1) (hr9 : r < v 9 0) (hp3 : p < v 3 r) (ht : v 17 l < v 9 0) (h8 : v 15 l < 8) (hh : v 15 l ≠ v 1 (v 17 l)) (hg : ¬ gfi v (nI (v 15 l)) (v 17 l) < v 9 0) (h300 : v 9 0 < 300) (hT2 : iT (mk5 v 3 (v 15 l) 0 (v 17 l + 1) (v 18 l))) : ∃ d' c', fX10_arriveName (da d 100 0) (some (da d 4 l)) (cB d c) = some (1, cB d' c') ∧ Ex d d' ∧ RC d' c' (tch (plc (mk5 v 3 (v 15 l) 0 (v 17 l + 1) (v 18 l)) r p 1 (v 9 0) (v 12 (8 * r + p))) (v 15 l)) u w := by
  have k1 := (hT.k ht).2.1
  obtain ⟨f1, f2, f3, f4, f5, f6, f7⟩ := hF _ (Nat.le_refl _) h300
  obtain ⟨d', c1, m1, hE, R1⟩ := e_make (kd := 3) (h := v 15 l) (pl := 0) R hT hF h46 h300 (by decide)
  have m1' : fX6_make (da d 101 0) 3 (nI (v 15 l)) 0 (cB d c) = some (some (da d' 1 (v 9 0)), cB d' c1) := m1
  have T9 : v 9 0 < mkv v 3 (v 15 l) 0 9 0 := by rw [mkv_9]; omega
  have t9 : v 17 l < mkv v 3 (v 15 l) 0 9 0 := by rw [mkv_9]; omega
  have R2 := R1.named (e := v 17 l) T9 t9 (fun k hk => by
    have : mkv v 3 (v 15 l) 0 42 (300 * k + v 9 0) = v 42 (300 * k + v 9 0) := rfl
    rw [this, f7 k (by have hk' : k < v 46 0 := hk; omega)]
    decide)
  have R3 := R2.weight (e := v 18 l) T9
  have h100 := (hE 100 0 (f100 R.2.1)).1
  have h4l := (hE 4 l (R.lt hl).1).1
  have h1t := (hE 1 (v 17 l) (R.t ht).1).1
  have hr9' : r < mk5 v 3 (v 15 l) 0 (v 17 l + 1) (v 18 l) 9 0 := by rw [mk5_9]; omega
  have e3 := (mk5_0 (v := v) (kd := 3) (h := v 15 l) (pl := 0) (m := v 17 l + 1) (wt := v 18 l) hr9).2.2.1
  obtain ⟨c2, r2, R4⟩ := e_name44 (v := mk5 v 3 (v 15 l) 0 (v 17 l + 1) (v 18 l)) (x := v 9 0) R3 hT2 hl hr hp hr9' (by rw [e3]; exact hp3) (by rw [mk5_9]; omega) h8
  have gw : gI 5 7 (da d' 1 (v 9 0)) (cB d' (kwQ 1 (v 9 0) 6 (some (1, v 17 l)) c1)) = some (nI 0) := by
    have := g_weight R2 T9
    have e6 : zu (mkv v 3 (v 15 l) 0) 5 (v 9 0) (v 17 l + 1) 6 (v 9 0) = 0 := f3
    rw [e6] at this
    exact this
  have gm : fX10_gateWithMore (da d 100 0) (nI (v 15 l)) (some (da d 1 (v 17 l))) (nI (v 18 l)) (cB d c) = some (some (da d' 1 (v 9 0)), cB d' (kwI 1 (v 9 0) 7 (nI (v 18 l)) (kwQ 1 (v 9 0) 6 (some (1, v 17 l)) c1))) := by
    unfold fX10_gateWithMore fX10_gateWithMore_41
    rw [qa_100_0 R.2.1 R.2.2.1, b1_s, qt_101 R.2.1, b1_s, e_gateAt R hT ht, b2_s, if_neg hg, oe_0, qa_100_0 R.2.1 R.2.2.1, b1_s, qt_101 R.2.1, b1_s, m1', b2_s, oe_1, ← h1t, cpP (t := 5) (r := some (da d' 1 (v 17 l))) (some (1, v 17 l)) R1.1.1 (R1.t T9).1 rfl rfl, b1_s, gw, b1_s, nI_add, Nat.zero_add, cpI (t := 5) R2.1.1 (R2.t T9).1 rfl, b1_s]
  unfold fX10_arriveName
  rw [b1_s, gl_aboutA R hl, b1_s, gl_to R hl, b1_s, g_host R ht, b1_s, nI_ifeq (by omega) (by omega), if_neg hh, b1_s, b1_s, gl_weight R hl, b1_s, qt_100 R.2.1, b1_s, gm, b2_s, ← h100, ← h4l, r2]
  exact ⟨d', c2, rfl, hE, R4⟩
/-- GIVE, in the class: the GATE is there, and a name WAITS for it -/
theorem e_arriveGive {k0 : Nat} (R : RC d c v u w) (hT : iT v) (hW : iW v) (h600 : v 24 0 ≤ 600) (hl : l < v 24 0) (ht : v 17 l < v 9 0) (h8 : v 15 l < 8) (hg : gfi v (nI (v 15 l)) (v 17 l) = v 26 k0) (hk : k0 < v 29 0) (hf : fst1 v (v 26 k0) = k0) (hg5 : v 5 (v 26 k0) = v 17 l + 1) (h18 : v 18 l = 64) (hw : v 6 (v 26 k0) + 64 ≤ 40000) :
    (v 24 0 = 600 ∧ fX10_arriveGive (da d 100 0) (some (da d 4 l)) (cB d c) = some (0, cB d c)) ∨ (v 24 0 < 600 ∧ ∃ d' c', fX10_arriveGive (da d 100 0) (some (da d 4 l)) (cB d c) = some (1, cB d' c') ∧ Ex d d' ∧ RC d' c' (tch (ltz (zu (zu (wrv v k0) 6 (v 26 k0) (v 6 (v 26 k0) + 64)) 6 (v 26 k0) (v 6 (v 26 k0) + 64 - (v 6 (v 26 k0) + 64) / 2)) 0 (v 1 (v 27 k0)) (v 1 (v 26 k0)) (v 17 l) ((v 6 (v 26 k0) + 64) / 2) (v 27 k0 + 1) (v 28 k0 + 1) 0 0) (v 15 l)) u w) := by
  obtain ⟨w1, w2, w3, w4, w5, w6⟩ := hW.2 k0 hk
  have hb16 := hW.1
  obtain ⟨qq, q1, q2, q3, q4, q5, q6, q7, q8⟩ := e_wat R hb16 hk
  have ff := e_firstFor (t := v 26 k0) R hb16 (fun k hk => (hW.2 k hk).1) w1
  rw [hf, if_pos hk] at ff
  unfold fX10_arriveGive
  rw [qa_100_0 R.2.1 R.2.2.1, b1_s, b1_s, gl_to R hl, b1_s, gl_aboutA R hl, b1_s, qt_101 R.2.1, b1_s, e_gateAt R hT ht, b2_s, hg, if_pos w1, oe_1, qa_100_2 R.2.1 R.2.2.1, b1_s, qt_105 R.2.1, b1_s, ff, b2_s]
  unfold fX10_arriveGive_32
  rw [qa_100_2 R.2.1 R.2.2.1, b1_s, qt_105 R.2.1, b1_s, q1, b2_s, oe_1, qa_100_1 R.2.1 R.2.2.1, b1_s, qt_103 R.2.1, b1_s, e_room1 R h600, b2_s]
  by_cases e600 : v 24 0 = 600
  · left
    rw [if_neg (show ¬ v 24 0 + 1 ≤ 600 by omega), if_pos rfl]
    exact ⟨e600, rfl⟩
  · right
    refine ⟨by omega, ?_⟩
    rw [if_pos (show v 24 0 + 1 ≤ 600 by omega), if_neg (show ¬ (1 : Int32) = 0 by decide)]
    unfold fX10_arriveGive_61
    have R1 := R.weight (e := v 6 (v 26 k0) + 64) w1
    have hT1 : iT (zu v 6 (v 26 k0) (v 6 (v 26 k0) + 64)) := hT.weight w1 w2 (by omega)
    obtain ⟨c2, x1, R2, sm10⟩ := e_wremove2 (i := k0) R1 hk hb16
    have hc : wrv (zu v 6 (v 26 k0) (v 6 (v 26 k0) + 64)) k0 = zu (wrv v k0) 6 (v 26 k0) (v 6 (v 26 k0) + 64) := by
      funext k j
      simp only [zu, wrv]
      by_cases e : k = 6
      · subst e
        simp
      · simp [e]
    rw [hc] at R2
    have hT2 : iT (zu (wrv v k0) 6 (v 26 k0) (v 6 (v 26 k0) + 64)) := hT1
    have e6 : zu (wrv v k0) 6 (v 26 k0) (v 6 (v 26 k0) + 64) 6 (v 26 k0) = v 6 (v 26 k0) + 64 := zu_s
    obtain ⟨d', c3, x2, hE, R3⟩ := e_sendHalf (v := zu (wrv v k0) 6 (v 26 k0) (v 6 (v 26 k0) + 64)) (g := v 26 k0) (m := v 17 l) (root := v 27 k0) (p := v 28 k0) R2 hT2 (show v 24 0 < 600 by omega) w1 w2 hg5 (by rw [e6]; omega) w4
    rw [e6] at R3
    have x2' : fX10_sendName (da d 100 0) (some (da d 1 (v 26 k0))) (some (da d 1 (v 27 k0))) (nI (v 28 k0)) (cB d c2) = some (nI (v 24 0), cB d' c3) := x2
    obtain ⟨c4, x3, R4⟩ := e_touch2 R3 h8
    have g10 : cQ (kwI 1 (v 26 k0) 7 (nI (v 6 (v 26 k0) + 64)) c) 10 qq 0 = cQ c 10 qq 0 := rfl
    have g10' : cQ (kwI 1 (v 26 k0) 7 (nI (v 6 (v 26 k0) + 64)) c) 10 qq 1 = cQ c 10 qq 1 := rfl
    have g10i : cI (kwI 1 (v 26 k0) 7 (nI (v 6 (v 26 k0) + 64)) c) 10 qq 2 = cI c 10 qq 2 := rfl
    have cq : ∀ i, cQ c2 10 qq i = cQ c 10 qq i := fun i => (sm10.2.1 qq i).trans rfl
    have ci : cI c2 10 qq 2 = cI c 10 qq 2 := (sm10.1 qq 2).trans rfl
    have s0 : gA 8 0 (da d 10 qq) (cB d c2) = some (da d 1 (v 26 k0)) := by
      rw [← q4]
      simp only [gA, cTt q2]
      show (if TK 10 = 8 then ((c2.2.2.1 (d.2.1 (d.2.2.2 10 qq)) (d.2.2.1 (d.2.2.2 10 qq)) 0).map _) else none) = (if TK 10 = 8 then ((c.2.2.1 (d.2.1 (d.2.2.2 10 qq)) (d.2.2.1 (d.2.2.2 10 qq)) 0).map _) else none)
      rw [q2.2.1, q2.2.2, show c2.2.2.1 10 qq 0 = c.2.2.1 10 qq 0 from cq 0]
    have s1 : gA 8 1 (da d 10 qq) (cB d c2) = some (da d 1 (v 27 k0)) := by
      rw [← q5]
      simp only [gA, cTt q2]
      show (if TK 10 = 8 then ((c2.2.2.1 (d.2.1 (d.2.2.2 10 qq)) (d.2.2.1 (d.2.2.2 10 qq)) 1).map _) else none) = (if TK 10 = 8 then ((c.2.2.1 (d.2.1 (d.2.2.2 10 qq)) (d.2.2.1 (d.2.2.2 10 qq)) 1).map _) else none)
      rw [q2.2.1, q2.2.2, show c2.2.2.1 10 qq 1 = c.2.2.1 10 qq 1 from cq 1]
    have s2 : gI 8 2 (da d 10 qq) (cB d c2) = some (nI (v 28 k0)) := by
      rw [cgI (t := 8) q2 rfl] at q8 ⊢
      rw [ci]
      exact q8
    have h100 := (hE 100 0 (f100 R.2.1)).1
    have h4l := (hE 4 l (R.lt hl).1).1
    have g5 : gI 0 2 (da d' 4 l) (cB d' c3) = some (nI (v 15 l)) := by
      have := gl_to R3 (l := l) (by rw [ltz_24]; show l < v 24 0 + 1; omega)
      rw [ltz_n (v := zu (zu (wrv v k0) 6 (v 26 k0) (v 6 (v 26 k0) + 64)) 6 (v 26 k0) (v 6 (v 26 k0) + 64 - (v 6 (v 26 k0) + 64) / 2)) (k := 15) (show l ≠ v 24 0 by omega) (by omega)] at this
      exact this
    have e64 : nI (v 6 (v 26 k0)) + nI 64 = nI (v 6 (v 26 k0) + 64) := nI_add _ _
    rw [oe_1, g_weight R w1, b1_s, gl_weight R hl, b1_s, h18, e64, cpI (t := 5) R.1.1 (R.t w1).1 rfl, b1_s]
    unfold fX10_arriveGive_78 fX10_arriveGive_111
    rw [oe_1, qa_100_2 R1.2.1 R1.2.2.1, b1_s, qt_105 R1.2.1, b1_s, x1, b2_s, s0, b1_s, s1, b1_s, s2, b1_s, qt_100 R2.2.1, b1_s, x2', b2_s, ← h4l, ← h100, g5, b1_s, qt_100 R3.2.1, b1_s, x3, b2_s]
    exact ⟨d', c4, rfl, hE, R4⟩
end DN
