section MA
variable {d d' : AD} {c c' : CH} {v v' : Nu} {u u' : Mu} {w w' : Me} {n m r t p k : Nat} {od : Nat → Nat}
theorem cnO {k0 x0 t : Nat} (hw : WF d c) (hk : k0 ≠ 0) (hn : ¬ lvd d k0 x0) (ht : TK k0 = t) : nO t (cB d c) = some (da (dnew k0 x0 d) k0 x0, cB (dnew k0 x0 d) (kwN k0 x0 0 c)) := by
  rw [nO, cnew hw hk hn ht]
  congr 2
  exact (dnew_new hk).1.symm
theorem cnA {k0 x0 t B n : Nat} (hw : WF d c) (hk : k0 ≠ 0) (hn : ¬ lvd d k0 x0) (ht : TK k0 = t) (h1 : n ≤ B) (h2 : n < 2147483648) : nA t B (nI n) (cB d c) = some (da (dnew k0 x0 d) k0 x0, cB (dnew k0 x0 d) (kwN k0 x0 n c)) := by
  rw [nA, if_pos ⟨nI_pos (by omega), by rw [nI_c h2]; exact h1⟩, nI_c h2, cnew hw hk hn ht]
  congr 2
  exact (dnew_new hk).1.symm
theorem cut8 {n : Nat} (h : n ≤ 8) : (if (0 : Int32) < (if (8 : Int32) < nI n then 8 else nI n) then (if (8 : Int32) < nI n then 8 else nI n) else 0) = nI n := by
  rw [if_neg (show ¬ (8 : Int32) < nI n from nI_nlt (b := n) (a := 8) h (by decide))]
  by_cases e : n = 0
  · rw [e]; rfl
  · rw [if_pos (show (0 : Int32) < nI n from (nI_ltI (a := 0) (by decide) (by omega)).mpr (by omega))]
theorem cut32 {n : Nat} (h : n ≤ 32) : (if (0 : Int32) < (if (32 : Int32) < nI n then 32 else nI n) then (if (32 : Int32) < nI n then 32 else nI n) else 0) = nI n := by
  rw [if_neg (show ¬ (32 : Int32) < nI n from nI_nlt (b := n) (a := 32) h (by decide))]
  by_cases e : n = 0
  · rw [e]; rfl
  · rw [if_pos (show (0 : Int32) < nI n from (nI_ltI (a := 0) (by decide) (by omega)).mpr (by omega))]
/-- the cells of a new thing -/
def tnew (n : Nat) (x1 x2 x3 : Int32) (pl : Nat) (c : CH) : CH := kwQ 1 n 4 (some (3, n)) (kwN 3 n pl (kwQ 1 n 3 (some (2, n)) (kwN 2 n pl (kwI 1 n 2 x3 (kwI 1 n 1 x2 (kwI 1 n 0 x1 (kwI 1 n 10 1 (kwI 1 n 9 0 (kwI 1 n 8 0 (kwI 1 n 7 0 (kwQ 1 n 6 none (kwI 1 n 5 0 c))))))))))))
theorem e_tinit {x1 x2 x3 : Int32} {pl : Nat} (hw : WF d c) (h1 : lvd d 1 n) (h2 : ¬ lvd d 2 n) (h3 : ¬ lvd d 3 n) (hp : pl ≤ 8) : fX5_init (da d 1 n) x1 x2 x3 (nI pl) (cB d c) = some ((), cB (dnew 3 n (dnew 2 n d)) (tnew n x1 x2 x3 pl c)) ∧ WF (dnew 3 n (dnew 2 n d)) (tnew n x1 x2 x3 pl c) ∧ Ex d (dnew 3 n (dnew 2 n d)) := by
  have hA := hw.1
  have w9 := ((((((((hw.wI (i := 5) (v := 0) h1).wQ (i := 6) (q := none) h1 (fun y hy => by cases hy)).wI (i := 7) (v := 0) h1).wI (i := 8) (v := 0) h1).wI (i := 9) (v := 0) h1).wI (i := 10) (v := 1) h1).wI (i := 0) (v := x1) h1).wI (i := 1) (v := x2) h1).wI (i := 2) (v := x3) h1
  have w10 := w9.new (n := pl) (k0 := 2) (x0 := n) (by decide) h2
  have o1 := dnew_old (k0 := 2) (x0 := n) hA h2 h1
  have o2 := dnew_new (d := d) (k0 := 2) (x0 := n) (by decide)
  have hA2 := w10.1
  have h3' : ¬ lvd (dnew 2 n d) 3 n := fun h => by
    rcases (dnew_iff hA (by decide) h2).mp h with h | h
    · exact h3 h
    · omega
  have w11 := w10.wQ (i := 3) (q := some (2, n)) o1.2 (fun y hy => by cases hy; exact o2.2)
  have w12 := w11.new (n := pl) (k0 := 3) (x0 := n) (by decide) h3'
  have o3 := dnew_old (k0 := 3) (x0 := n) hA2 h3' o1.2
  have o4 := dnew_new (d := dnew 2 n d) (k0 := 3) (x0 := n) (by decide)
  have w13 := w12.wQ (i := 4) (q := some (3, n)) o3.2 (fun y hy => by cases hy; exact o4.2)
  refine ⟨?_, w13, (Ex.rfl.new hA h2).new hA2 h3'⟩
  unfold fX5_init
  rw [cpI (t := 5) hA h1 rfl, b1_s, cpP (t := 5) (r := none) none hA h1 rfl rfl, b1_s, cpI (t := 5) hA h1 rfl, b1_s, cpI (t := 5) hA h1 rfl, b1_s, cpZ (t := 5) hA h1 rfl (Or.inl rfl), b1_s, cpZ (t := 5) hA h1 rfl (Or.inr rfl), b1_s, cpI (t := 5) hA h1 rfl, b1_s, cpI (t := 5) hA h1 rfl, b1_s, cpI (t := 5) hA h1 rfl, b1_s, cut8 hp, cnA (t := 17) (k0 := 2) (x0 := n) w9 (by decide) h2 rfl hp (by omega), b2_s, ← o1.1, cpP (t := 5) (r := some (da (dnew 2 n d) 2 n)) (some (2, n)) hA2 o1.2 rfl rfl, b1_s, cnA (t := 16) (k0 := 3) (x0 := n) w11 (by decide) h3' rfl hp (by omega), b2_s, ← o3.1, cpP (t := 5) (r := some (da (dnew 3 n (dnew 2 n d)) 3 n)) (some (3, n)) w12.1 o3.2 rfl rfl, b1_s]
  rfl
/-- what is not yet made holds nothing -/
def iF (v : Nu) (u : Mu) : Prop := ∀ t, v 9 0 ≤ t → t < 300 → u 2 t = 0 ∧ v 4 t = 0 ∧ v 6 t = 0 ∧ v 7 t = 0 ∧ v 8 t = 0 ∧ (∀ p, p < 8 → v 10 (8 * t + p) = 0) ∧ ∀ k, k < 20 → v 42 (300 * k + t) = 0
def mkv (v : Nu) (kd h pl : Nat) : Nu := zu (zu (zu (zu (zu v 0 (v 9 0) kd) 1 (v 9 0) h) 3 (v 9 0) pl) 5 (v 9 0) 0) 9 0 (v 9 0 + 1)
theorem mkv_n {kd h pl k i : Nat} (h1 : ¬ (k = 9 ∧ i = 0)) (h2 : ¬ (i = v 9 0 ∧ (k = 0 ∨ k = 1 ∨ k = 3 ∨ k = 5))) : mkv v kd h pl k i = v k i := by
  simp only [mkv]
  rw [zu_n (by omega), zu_n (by omega), zu_n (by omega), zu_n (by omega), zu_n (by omega)]
theorem mkv_9 {kd h pl : Nat} : mkv v kd h pl 9 0 = v 9 0 + 1 := zu_s
theorem mkv_at {kd h pl : Nat} : mkv v kd h pl 0 (v 9 0) = kd ∧ mkv v kd h pl 1 (v 9 0) = h ∧ mkv v kd h pl 3 (v 9 0) = pl ∧ mkv v kd h pl 5 (v 9 0) = 0 := by
  simp only [mkv]
  refine ⟨?_, ?_, ?_, ?_⟩
  · rw [zu_n (by omega), zu_n (by omega), zu_n (by omega), zu_n (by omega), zu_s]
  · rw [zu_n (by omega), zu_n (by omega), zu_n (by omega), zu_s]
  · rw [zu_n (by omega), zu_n (by omega), zu_s]
  · rw [zu_n (by omega), zu_s]
theorem e_make {kd h pl : Nat} (R : RC d c v u w) (hI : iT v) (hf : iF v u) (hkb : v 46 0 ≤ 20) (hn : v 9 0 < 300) (hpl : pl ≤ 8) : ∃ d' c', fX6_make (da d 101 0) (nI kd) (nI h) (nI pl) (cB d c) = some (some (da d' 1 (v 9 0)), cB d' c') ∧ Ex d d' ∧ RC d' c' (mkv v kd h pl) u w := by
  obtain ⟨f2, f4, f6, f7, f8, f10, f42⟩ := hf (v 9 0) (Nat.le_refl _) hn
  have hF := R.2.1
  have hX := R.2.2.1
  obtain ⟨a1, a2, a3, a4, a5⟩ := id R.2.2.2.1
  obtain ⟨g1, g2, g3⟩ := a3 (v 9 0) (Nat.le_refl _)
  have hA := R.1.1
  have w1 := R.1.new (n := 0) (k0 := 1) (x0 := v 9 0) (by decide) g1
  have o1 := dnew_new (d := d) (k0 := 1) (x0 := v 9 0) (by decide)
  have e1 : Ex d (dnew 1 (v 9 0) d) := Ex.rfl.new hA g1
  have g2' : ¬ lvd (dnew 1 (v 9 0) d) 2 (v 9 0) := fun h => by
    rcases (dnew_iff hA (by decide) g1).mp h with h | h
    · exact g2 h
    · omega
  have g3' : ¬ lvd (dnew 1 (v 9 0) d) 3 (v 9 0) := fun h => by
    rcases (dnew_iff hA (by decide) g1).mp h with h | h
    · exact g3 h
    · omega
  obtain ⟨i1, w2, e2⟩ := e_tinit (x1 := nI (v 9 0)) (x2 := nI kd) (x3 := nI h) w1 o1.2 g2' g3' hpl
  have e3 := e1.trans e2
  have hA2 := w2.1
  have L1 := (e2 1 (v 9 0) o1.2).2
  have L102 := (e3 102 0 (f102 hF)).2
  have L101 := (e3 101 0 (f101 hF)).2
  have w3 := (w2.wQ (i := v 9 0) (q := some (1, v 9 0)) L102 (fun y hy => by cases hy; exact L1)).wI (i := 1) (v := nI (v 9 0 + 1)) L101
  have hiff : ∀ k x, lvd (dnew 3 (v 9 0) (dnew 2 (v 9 0) (dnew 1 (v 9 0) d))) k x ↔ lvd d k x ∨ (x = v 9 0 ∧ (k = 1 ∨ k = 2 ∨ k = 3)) := by
    intro k x
    have j1 := dnew_AI hA (k0 := 1) (x0 := v 9 0) (by decide) g1
    have j2 := dnew_AI j1 (k0 := 2) (x0 := v 9 0) (by decide) g2'
    have g3'' : ¬ lvd (dnew 2 (v 9 0) (dnew 1 (v 9 0) d)) 3 (v 9 0) := fun h => by
      rcases (dnew_iff j1 (by decide) g2').mp h with h | h
      · exact g3' h
      · omega
    rw [dnew_iff j2 (by decide) g3'', dnew_iff j1 (by decide) g2', dnew_iff hA (by decide) g1]
    constructor
    · rintro (((h | h) | h) | h)
      · exact Or.inl h
      · exact Or.inr (by omega)
      · exact Or.inr (by omega)
      · exact Or.inr (by omega)
    · rintro (h | ⟨h1, h2 | h2 | h2⟩)
      · exact Or.inl (Or.inl (Or.inl h))
      · exact Or.inl (Or.inl (Or.inr ⟨h2, h1⟩))
      · exact Or.inl (Or.inr ⟨h2, h1⟩)
      · exact Or.inr ⟨h2, h1⟩
  have hs : ∀ k, k ≠ 1 → k ≠ 2 → k ≠ 3 → k ≠ 101 → k ≠ 102 → sm k c (kwI 101 0 1 (nI (v 9 0 + 1)) (kwQ 102 0 (v 9 0) (some (1, v 9 0)) (tnew (v 9 0) (nI (v 9 0)) (nI kd) (nI h) pl (kwN 1 (v 9 0) 0 c)))) := fun k h1 h2 h3 h4 h5 => (((((((((((((((sm.rfl.N h1).I h1).Q h1).I h1).I h1).I h1).I h1).I h1).I h1).I h1).N h2).Q h1).N h3).Q h1).Q h5).I h4
  refine ⟨_, _, ?_, e3, w3, hF.ex e3, hX.cg (fun k i hk => ?_) (fun k hk => ?_), ⟨?_, fun x hx => ?_, fun x hx => ?_, a4, ?_⟩, R.2.2.2.2.1.cg (hs _ (by decide) (by decide) (by decide) (by decide) (by decide)) (hs _ (by decide) (by decide) (by decide) (by decide) (by decide)) (hs _ (by decide) (by decide) (by decide) (by decide) (by decide)) (fun x => ?_) (fun k i hk => mkv_n (by omega) (by omega)), R.2.2.2.2.2.1.cg (hs _ (by decide) (by decide) (by decide) (by decide) (by decide)) (hs _ (by decide) (by decide) (by decide) (by decide) (by decide)) (hs _ (by decide) (by decide) (by decide) (by decide) (by decide)) (fun x => ?_) (fun k i hk => mkv_n (by omega) (by omega)), R.2.2.2.2.2.2.1.cg (fun k hk => hs k (by omega) (by omega) (by omega) (by omega) (by omega)) (hs _ (by decide) (by decide) (by decide) (by decide) (by decide)) ((hs 100 (by decide) (by decide) (by decide) (by decide) (by decide)).1 0 10) (fun k x hk => ?_) (fun k i hk => mkv_n (by omega) (by omega)) (fun k x hk hx h42 => ?_), R.2.2.2.2.2.2.2.1.cg (hs _ (by decide) (by decide) (by decide) (by decide) (by decide)) (hs _ (by decide) (by decide) (by decide) (by decide) (by decide)) (hs _ (by decide) (by decide) (by decide) (by decide) (by decide)) ((hs 100 (by decide) (by decide) (by decide) (by decide) (by decide)).1 0 11) ((hs 100 (by decide) (by decide) (by decide) (by decide) (by decide)).1 0 12) (fun k i hk => mkv_n (by omega) (by omega)), R.2.2.2.2.2.2.2.2.cg (fun k hk => hs k (by omega) (by omega) (by omega) (by omega) (by omega)) (by rw [mkv_9]; omega)⟩
  · unfold fX6_make
    have q1 : da d 101 0 = da (dnew 1 (v 9 0) d) 101 0 := (e1 101 0 (f101 hF)).1.symm
    have q2 : da (dnew 1 (v 9 0) d) 101 0 = da (dnew 3 (v 9 0) (dnew 2 (v 9 0) (dnew 1 (v 9 0) d))) 101 0 := ((e2 101 0 (e1 101 0 (f101 hF)).2).1).symm
    have q3 : da (dnew 1 (v 9 0) d) 1 (v 9 0) = da (dnew 3 (v 9 0) (dnew 2 (v 9 0) (dnew 1 (v 9 0) d))) 1 (v 9 0) := ((e2 1 (v 9 0) o1.2).1).symm
    rw [cgI (t := 6) (f101 hF) rfl, b1_s, a1, qa_101_0 hF hX, b1_s, qn_102 hF hX, b1_s, nI_iflt (by omega) (by omega), if_pos hn, cnO (t := 5) (k0 := 1) (x0 := v 9 0) R.1 (by decide) g1 rfl, b2_s, q1, cgI (t := 6) (e1 101 0 (f101 hF)).2 rfl, b1_s, show cI (kwN 1 (v 9 0) 0 c) 101 0 1 = nI (v 9 0) from a1, i1, b2_s, q2, q3]
    have hX3 : cQ (tnew (v 9 0) (nI (v 9 0)) (nI kd) (nI h) pl (kwN 1 (v 9 0) 0 c)) 101 0 0 = some (102, 0) := hX.2.1.1
    have hI3 : cI (tnew (v 9 0) (nI (v 9 0)) (nI kd) (nI h) pl (kwN 1 (v 9 0) 0 c)) 101 0 1 = nI (v 9 0) := a1
    have hN3 : cN (tnew (v 9 0) (nI (v 9 0)) (nI kd) (nI h) pl (kwN 1 (v 9 0) 0 c)) 102 0 = 300 := hX.2.2.1
    rw [cgA (t := 6) L101 rfl hX3, b1_s]
    dsimp only
    rw [cgI (t := 6) L101 rfl, b1_s, hI3, cyP (t := 17) (e := 5) (r := some _) (some (1, v 9 0)) hA2 L102 rfl (by rw [hN3]; exact hn) (by omega) rfl (fun y hy => by cases hy; exact ⟨L1, rfl⟩), b1_s, cgI (t := 6) L101 rfl, b1_s, show cI (kwQ 102 0 (v 9 0) (some (1, v 9 0)) (tnew (v 9 0) (nI (v 9 0)) (nI kd) (nI h) pl (kwN 1 (v 9 0) 0 c))) 101 0 1 = nI (v 9 0) from a1, nI_1, cpI (t := 6) hA2 L101 rfl, b1_s]
  · simp only [fixS] at hk
    rcases hk with rfl | rfl | rfl | rfl | rfl | rfl | rfl | rfl <;> rfl
  · show zu (zu (zu c.2.2.2 1 (v 9 0) 0) 2 (v 9 0) pl) 3 (v 9 0) pl k 0 = c.2.2.2 k 0
    rw [zu_n (by omega), zu_n (by omega), zu_n (by omega)]
  · rw [mkv_9]; rfl
  · rw [mkv_9] at hx
    by_cases e : x = v 9 0
    · subst e
      obtain ⟨m0, m1, m3, m5⟩ := mkv_at (v := v) (kd := kd) (h := h) (pl := pl)
      refine ⟨(hiff _ _).mpr (Or.inr (by omega)), (hiff _ _).mpr (Or.inr (by omega)), (hiff _ _).mpr (Or.inr (by omega)), z3_s (f := c.2.2.1), ?_, fun p hp => ?_⟩
      · simp only [TF, m0, m1, m3, m5, mkv_n (v := v) (kd := kd) (h := h) (pl := pl) (k := 4) (i := v 9 0) (by omega) (by omega), mkv_n (v := v) (kd := kd) (h := h) (pl := pl) (k := 6) (i := v 9 0) (by omega) (by omega), mkv_n (v := v) (kd := kd) (h := h) (pl := pl) (k := 7) (i := v 9 0) (by omega) (by omega), mkv_n (v := v) (kd := kd) (h := h) (pl := pl) (k := 8) (i := v 9 0) (by omega) (by omega), f2, f4, f6, f7, f8]
        simp [cI, cQ, cN, tnew, kwI, kwQ, kwN, z3, zu, qe, nI_0]
        rfl
      · rw [m3] at hp
        left
        refine ⟨by rw [mkv_n (by omega) (by omega)]; exact f10 p (by omega), (R.1.2.1 2 (v 9 0) g2).2.2.1 p, (R.1.2.1 3 (v 9 0) g3).2.2.1 p⟩
    · obtain ⟨y1, y2, y3, y4, y5, y6⟩ := a2 x (by omega)
      refine ⟨(hiff _ _).mpr (Or.inl y1), (hiff _ _).mpr (Or.inl y2), (hiff _ _).mpr (Or.inl y3), (z3_n (f := c.2.2.1) (by omega)).trans y4, ?_, fun p hp => ?_⟩
      · have z1 : ∀ i, cI (kwI 101 0 1 (nI (v 9 0 + 1)) (kwQ 102 0 (v 9 0) (some (1, v 9 0)) (tnew (v 9 0) (nI (v 9 0)) (nI kd) (nI h) pl (kwN 1 (v 9 0) 0 c)))) 1 x i = cI c 1 x i := by
          intro i
          simp [cI, tnew, kwI, kwQ, kwN, z3, e]
        have z2 : ∀ i, cQ (kwI 101 0 1 (nI (v 9 0 + 1)) (kwQ 102 0 (v 9 0) (some (1, v 9 0)) (tnew (v 9 0) (nI (v 9 0)) (nI kd) (nI h) pl (kwN 1 (v 9 0) 0 c)))) 1 x i = cQ c 1 x i := by
          intro i
          simp [cQ, tnew, kwI, kwQ, kwN, z3, e]
        have z4 : ∀ k, k = 2 ∨ k = 3 → cN (kwI 101 0 1 (nI (v 9 0 + 1)) (kwQ 102 0 (v 9 0) (some (1, v 9 0)) (tnew (v 9 0) (nI (v 9 0)) (nI kd) (nI h) pl (kwN 1 (v 9 0) 0 c)))) k x = cN c k x := by
          intro k hk
          show zu (zu (zu c.2.2.2 1 (v 9 0) 0) 2 (v 9 0) pl) 3 (v 9 0) pl k x = c.2.2.2 k x
          rw [zu_n (by omega), zu_n (by omega), zu_n (by omega)]
        have z5 : ∀ k, mkv v kd h pl k x = v k x ∨ k = 9 := fun k => by
          by_cases e9 : k = 9
          · exact Or.inr e9
          · exact Or.inl (mkv_n (by omega) (by omega))
        simp only [TF, z1, z2, z4 2 (Or.inl rfl), z4 3 (Or.inr rfl), (z5 0).resolve_right (by decide), (z5 1).resolve_right (by decide), (z5 3).resolve_right (by decide), (z5 4).resolve_right (by decide), (z5 5).resolve_right (by decide), (z5 6).resolve_right (by decide), (z5 7).resolve_right (by decide), (z5 8).resolve_right (by decide)]
        exact y5
      · rw [mkv_n (by omega) (by omega)] at hp
        simp only [PL, mkv_n (v := v) (kd := kd) (h := h) (pl := pl) (k := 10) (i := 8 * x + p) (by omega) (by omega), mkv_n (v := v) (kd := kd) (h := h) (pl := pl) (k := 11) (i := 8 * x + p) (by omega) (by omega), mkv_n (v := v) (kd := kd) (h := h) (pl := pl) (k := 12) (i := 8 * x + p) (by omega) (by omega)]
        exact y6 p hp
  · rw [mkv_9] at hx
    obtain ⟨y1, y2, y3⟩ := a3 x (by omega)
    rw [hiff, hiff, hiff]
    refine ⟨fun h => h.elim y1 (by omega), fun h => h.elim y2 (by omega), fun h => h.elim y3 (by omega)⟩
  · obtain ⟨nr, hnr⟩ := a5
    refine ⟨nr, fun r hr => ?_⟩
    rw [hiff, hiff]
    exact ⟨fun h => h.elim (hnr r hr).1 (by omega), fun h => h.elim (hnr r hr).2 (by omega)⟩
  · rw [hiff]; exact ⟨fun h => h.elim id (by omega), Or.inl⟩
  · rw [hiff]; exact ⟨fun h => h.elim id (by omega), Or.inl⟩
  · rw [hiff]; exact ⟨fun h => h.elim id (by omega), Or.inl⟩
  · rw [mkv_n (by omega) (by omega)] at h42
    have hne : x ≠ v 9 0 := fun e => by rw [e, f42 k (by omega)] at h42; omega
    exact ⟨mkv_n (by omega) (by omega), mkv_n (by omega) (by omega)⟩
end MA
