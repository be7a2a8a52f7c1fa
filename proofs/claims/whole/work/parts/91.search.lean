/-! While the class looks for what is meant. -/
def RV (d : AD) (c : CH) (v : Nu) (u : Mu) (w : Me) : Prop := WF d c ∧ FL d ∧ FX c ∧ TH d c v u w ∧ LE d c v ∧ WA d c v ∧ True
/-- only what belongs to the search changes -/
def Tr (c c' : CH) : Prop := (∀ k, ¬ (117 ≤ k ∧ k ≤ 123) → sm k c c') ∧ (∀ i, cQ c' 117 0 i = cQ c 117 0 i) ∧ (∀ i, cQ c' 118 0 i = cQ c 118 0 i) ∧ ∀ k x, cN c' k x = cN c k x
section RVs
variable {d d' : AD} {c c' : CH} {v v' : Nu} {u u' : Mu} {w w' : Me} {n m r p k l : Nat} {od : Nat → Nat} {x : Int32}
theorem tr_rfl : Tr c c := ⟨fun _ _ => sm.rfl, fun _ => Eq.refl _, fun _ => Eq.refl _, fun _ _ => Eq.refl _⟩
theorem Tr.trans {c2 : CH} (h1 : Tr c c') (h2 : Tr c' c2) : Tr c c2 := ⟨fun k hk => (h1.1 k hk).trans (h2.1 k hk), fun i => (h2.2.1 i).trans (h1.2.1 i), fun i => (h2.2.2.1 i).trans (h1.2.2.1 i), fun k x => (h2.2.2.2 k x).trans (h1.2.2.2 k x)⟩
theorem Tr.I {k i : Nat} {y : Int32} (hk : 117 ≤ k ∧ k ≤ 123) : Tr c (kwI k 0 i y c) := ⟨fun k' hk' => sm.rfl.I (by omega), fun _ => Eq.refl _, fun _ => Eq.refl _, fun _ _ => Eq.refl _⟩
theorem Tr.Q {k i : Nat} {y : Option (Nat × Nat)} (hk : 119 ≤ k ∧ k ≤ 123) : Tr c (kwQ k 0 i y c) := ⟨fun k' hk' => sm.rfl.Q (by omega), fun _ => z3_n (by omega), fun _ => z3_n (by omega), fun _ _ => Eq.refl _⟩
theorem Scc.tr (h : Scc 118 c c') : Tr c c' := ⟨fun k hk => h.sm (by omega), fun i => h.2.1 117 0 i (by decide), fun i => h.2.1 118 0 i (by decide), fun k x => by show c'.2.2.2 k x = c.2.2.2 k x; rw [h.2.2.2]⟩
theorem Tr.fx (h : Tr c c') (hX : FX c) : FX c' := by
  refine hX.cg (fun k i hk => ?_) (fun k _ => h.2.2.2 k 0)
  simp only [fixS] at hk
  by_cases e1 : k = 117
  · rw [e1]; exact h.2.1 i
  · by_cases e2 : k = 118
    · rw [e2]; exact h.2.2.1 i
    · exact (h.1 k (by omega)).2.1 0 i
theorem Tr.rv (h : Tr c c') (R : RC d c v u w) (hw : WF d c') : RV d c' v u w := by
  obtain ⟨-, R1, R2, R3, R4, R5, R6, R7, R8⟩ := R
  have g : ∀ k, k < 117 → sm k c c' := fun k hk => h.1 k (by omega)
  exact ⟨hw, R1, h.fx R2, R3.cg (g _ (by decide)) (g _ (by decide)) (g _ (by decide)) (g _ (by decide)) (g _ (by decide)) (g _ (by decide)) (g _ (by decide)) (fun _ _ _ => Iff.rfl) (fun _ _ _ => rfl) (fun _ => rfl) (fun _ => rfl), R4.cg (g _ (by decide)) (g _ (by decide)) (g _ (by decide)) (fun _ => Iff.rfl) (fun _ _ _ => rfl), R5.cg (g _ (by decide)) (g _ (by decide)) (g _ (by decide)) (fun _ => Iff.rfl) (fun _ _ _ => rfl), trivial⟩
theorem Tr.rc (h : Tr c c') (R : RC d c v u w) (hw : WF d c') (hS : SR c' 118 (v 9 0) m od) (h4 : cI c' 117 0 4 = 0) (hM : ∀ n, n < 300 → cI c' 121 0 n = 0) : RC d c' v u w := by
  obtain ⟨-, R1, R2, R3, R4, R5, R6, R7, R8⟩ := R
  have g : ∀ k, k < 117 → sm k c c' := fun k hk => h.1 k (by omega)
  obtain ⟨⟨m1, o1, s1⟩, ⟨m2, o2, s2⟩, ⟨m3, o3, s3⟩, s4, s5⟩ := R8
  exact ⟨hw, R1, h.fx R2, R3.cg (g _ (by decide)) (g _ (by decide)) (g _ (by decide)) (g _ (by decide)) (g _ (by decide)) (g _ (by decide)) (g _ (by decide)) (fun _ _ _ => Iff.rfl) (fun _ _ _ => rfl) (fun _ => rfl) (fun _ => rfl), R4.cg (g _ (by decide)) (g _ (by decide)) (g _ (by decide)) (fun _ => Iff.rfl) (fun _ _ _ => rfl), R5.cg (g _ (by decide)) (g _ (by decide)) (g _ (by decide)) (fun _ => Iff.rfl) (fun _ _ _ => rfl), R6.cg (fun k hk => g k (by omega)) (g _ (by decide)) ((g 100 (by decide)).1 0 10) (fun _ _ _ => Iff.rfl) (fun _ _ _ => rfl) (fun _ _ _ _ _ => ⟨rfl, rfl⟩), R7.cg (g _ (by decide)) (g _ (by decide)) (g _ (by decide)) ((g 100 (by decide)).1 0 11) ((g 100 (by decide)).1 0 12) (fun _ _ _ => rfl), ⟨m1, o1, s1.cg (g _ (by decide)) (g _ (by decide)) (g _ (by decide)) (Nat.le_refl _)⟩, ⟨m2, o2, s2.cg (g _ (by decide)) (g _ (by decide)) (g _ (by decide)) (Nat.le_refl _)⟩, ⟨m, od, hS⟩, h4, hM⟩
theorem RV.t (R : RV d c v u w) (hn : n < v 9 0) : lvd d 1 n ∧ lvd d 2 n ∧ lvd d 3 n ∧ cQ c 102 0 n = some (1, n) ∧ TF c v u n ∧ ∀ p, p < v 3 n → PL c v w n p := R.2.2.2.1.2.1 n hn
theorem RV.lt (R : RV d c v u w) (hl : l < v 24 0) : lvd d 4 l ∧ cQ c 104 0 l = some (4, l) ∧ LF c v l := R.2.2.2.2.1.2.1 l hl
theorem RV.tn (R : RV d c v u w) (hb : v 9 0 ≤ 300) : TN d c (v 9 0) := ⟨hb, fun n hn => ⟨(R.t hn).1, (R.t hn).2.2.2.2.1.1⟩⟩
theorem rg_tg (R : RV d c v u w) (hn : n < v 9 0) : tg 5 (da d 1 n) (cB d c) = some (da d 1 n) := ctg (R.t hn).1 rfl
theorem rg_num (R : RV d c v u w) (hn : n < v 9 0) : gI 5 0 (da d 1 n) (cB d c) = some (nI n) := by
  rw [cgI (t := 5) (R.t hn).1 rfl, (R.t hn).2.2.2.2.1.1]
theorem rg_kind (R : RV d c v u w) (hn : n < v 9 0) : gI 5 1 (da d 1 n) (cB d c) = some (nI (v 0 n)) := by
  rw [cgI (t := 5) (R.t hn).1 rfl, (R.t hn).2.2.2.2.1.2.1]
theorem rg_named (R : RV d c v u w) (hn : n < v 9 0) : gP 5 6 (da d 1 n) (cB d c) = some (if v 5 n = 0 then none else some (da d 1 (v 5 n - 1))) := by
  rw [cgP (t := 5) (R.t hn).1 rfl, (R.t hn).2.2.2.2.1.2.2.2.2.2.2.1]
  simp only [qe]
  by_cases h : v 5 n = 0
  · rw [if_pos h, if_pos h]; rfl
  · rw [if_neg h, if_neg h]; rfl
theorem rg_there (R : RV d c v u w) (hn : n < v 9 0) : gI 5 10 (da d 1 n) (cB d c) = some (nI (1 - v 7 n)) := by
  rw [cgI (t := 5) (R.t hn).1 rfl, (R.t hn).2.2.2.2.1.2.2.2.2.2.2.2.2.2.2.1]
theorem re_size (R : RV d c v u w) : fX6_size (da d 101 0) (cB d c) = some (nI (v 9 0), cB d c) := by
  unfold fX6_size
  rw [cgI (t := 6) (f101 R.2.1) rfl, b1_s, show cI c 101 0 1 = nI (v 9 0) from R.2.2.2.1.1]
theorem re_find (R : RV d c v u w) (hb : v 9 0 ≤ 300) (hn : n < v 9 0) (hg : v 7 n ≤ 1) : fX6_find (da d 101 0) (nI n) (cB d c) = some (if v 7 n = 0 then some (da d 1 n) else none, cB d c) := by
  obtain ⟨l1, -, -, q1, ⟨t0, t1, t2, t3, t4, t5, t6, t7, t8, t9, t10, t11, t12⟩, -⟩ := R.t hn
  have hF := R.2.1
  have hX := R.2.2.1
  unfold fX6_find
  rw [if_neg (nI_pos (by omega)), cgI (t := 6) (f101 hF) rfl, b1_s, show cI c 101 0 1 = nI (v 9 0) from R.2.2.2.1.1, if_neg (by rw [nI_leI (by omega) (by omega)]; omega), qa_101_0 hF hX, b1_s, qn_102 hF hX, b1_s, if_pos (by rw [nI_ltI (by omega) (by omega)]; omega), b1_s, cxP (t := 17) (f102 hF) rfl (by rw [show cN c 102 0 = 300 from hX.2.2.1]; omega) (by omega), b1_s, q1]
  show oe (some (da d 1 n)) _ _ = _
  rw [oe_1, cgI (t := 5) l1 rfl, b1_s, t10]
  rcases (show v 7 n = 0 ∨ v 7 n = 1 by omega) with h | h
  · rw [h]
    rw [if_neg (show ¬ nI (1 - 0) = 0 by decide), if_pos rfl]
  · rw [h]
    rw [if_pos (show nI (1 - 1) = 0 from rfl), if_neg (by decide)]
theorem re_placesSize (R : RV d c v u w) (hn : n < v 9 0) : fX5_placesSize (da d 1 n) (cB d c) = some (nI (v 3 n), cB d c) := by
  obtain ⟨l1, l2, -, -, ⟨t0, t1, t2, t3, t4, t5, t6, t7, t8, t9, t10, t11, t12⟩, -⟩ := R.t hn
  unfold fX5_placesSize
  rw [cgA (t := 5) l1 rfl t3, b1_s]
  show b1 (xN 17 (da d 2 n) _) _ = _
  rw [cxN (t := 17) l2 rfl, b1_s, t11]
theorem re_hasPlace (R : RV d c v u w) (hn : n < v 9 0) (hb : v 3 n ≤ 8) (hp : p < v 3 n) : fX5_hasPlace (da d 1 n) (nI p) (cB d c) = some (1, cB d c) := by
  obtain ⟨l1, l2, l3, -, ⟨t0, t1, t2, t3, t4, t5, t6, t7, t8, t9, t10, t11, t12⟩, -⟩ := R.t hn
  unfold fX5_hasPlace
  rw [if_neg (nI_pos (by omega)), cgA (t := 5) l1 rfl t3, b1_s]
  show b1 (xN 17 (da d 2 n) _) _ = _
  rw [cxN (t := 17) l2 rfl, b1_s, t11, if_neg (by rw [nI_leI (by omega) (by omega)]; omega), cgA (t := 5) l1 rfl t4, b1_s]
  show b1 (xN 16 (da d 3 n) _) _ = _
  rw [cxN (t := 16) l3 rfl, b1_s, t12, if_neg (by rw [nI_leI (by omega) (by omega)]; omega)]
  rfl
theorem re_thingAt (R : RV d c v u w) (hn : n < v 9 0) (hb : v 3 n ≤ 8) (hp : p < v 3 n) : fX5_thingAt (da d 1 n) (nI p) (cB d c) = some (if v 10 (8 * n + p) = 1 then some (da d 1 (v 11 (8 * n + p))) else none, cB d c) := by
  obtain ⟨l1, l2, l3, -, ⟨t0, t1, t2, t3, t4, t5, t6, t7, t8, t9, t10, t11, t12⟩, hpl⟩ := R.t hn
  unfold fX5_thingAt
  rw [ctg (t := 5) l1 rfl, b1_s, re_hasPlace R hn hb hp, b2_s, if_neg (by decide), cgA (t := 5) l1 rfl t3, b1_s]
  show b1 (xP 17 (da d 2 n) _ _) _ = _
  rw [cxP (t := 17) l2 rfl (by rw [t11]; exact hp) (by omega), b1_s]
  rcases hpl p hp with ⟨a1, a2, -⟩ | ⟨a1, a2, -⟩ | ⟨a1, a2, -⟩
  · rw [a2, a1]; rfl
  · rw [a2, a1]; rfl
  · rw [a2, a1]; rfl
theorem re_psize (R : RV d c v u w) : fX2_size (da d 103 0) (cB d c) = some (nI (v 24 0), cB d c) := by
  unfold fX2_size
  rw [cgI (t := 2) (f103 R.2.1) rfl, b1_s, show cI c 103 0 1 = nI (v 24 0) from R.2.2.2.2.1.1]
theorem re_pfind (R : RV d c v u w) (hb : v 24 0 ≤ 600) (hn : n < v 24 0) : fX2_find (da d 103 0) (nI n) (cB d c) = some (some (da d 4 n), cB d c) := by
  obtain ⟨l1, q1, -⟩ := R.2.2.2.2.1.2.1 n hn
  have hF := R.2.1
  have hX := R.2.2.1
  unfold fX2_find
  rw [if_neg (nI_pos (by omega)), cgI (t := 2) (f103 hF) rfl, b1_s, show cI c 103 0 1 = nI (v 24 0) from R.2.2.2.2.1.1, if_neg (by rw [nI_leI (by omega) (by omega)]; omega), qa_103_0 hF hX, b1_s, qn_104 hF hX, b1_s, if_neg (by rw [nI_leI (by omega) (by omega)]; omega), b1_s, cxP (t := 15) (f104 hF) rfl (by rw [show cN c 104 0 = 600 from hX.2.2.2.1]; omega) (by omega), b1_s, q1]
  rfl
theorem rgl_aboutA (R : RV d c v u w) (hl : l < v 24 0) : gA 0 3 (da d 4 l) (cB d c) = some (da d 1 (v 17 l)) := cgA (R.lt hl).1 rfl (R.lt hl).2.2.2.2.2.1
theorem rgl_target (R : RV d c v u w) (hl : l < v 24 0) : gP 0 5 (da d 4 l) (cB d c) = some (if v 19 l = 0 then none else some (da d 1 (v 19 l - 1))) := by
  rw [cgP (t := 0) (R.lt hl).1 rfl, (R.lt hl).2.2.2.2.2.2.2.1]
  simp only [qe]
  by_cases h : v 19 l = 0
  · rw [if_pos h, if_pos h]; rfl
  · rw [if_neg h, if_neg h]; rfl
theorem rgl_under (R : RV d c v u w) (hl : l < v 24 0) : gI 0 9 (da d 4 l) (cB d c) = some (nI (v 23 l)) := by rw [cgI (t := 0) (R.lt hl).1 rfl, (R.lt hl).2.2.2.2.2.2.2.2.2.2.2]
theorem re_wsize (R : RV d c v u w) : fX7_size (da d 105 0) (cB d c) = some (nI (v 29 0), cB d c) := by
  unfold fX7_size
  rw [cgI (t := 7) (f105 R.2.1) rfl, b1_s, R.2.2.2.2.2.1.1]
theorem re_wat (R : RV d c v u w) (hb : v 29 0 ≤ 16) (hk : k < v 29 0) : ∃ q, fX7_at (da d 105 0) (nI k) (cB d c) = some (some (da d 10 q), cB d c) ∧ lvd d 10 q ∧ cQ c 106 0 k = some (10, q) ∧ gA 8 0 (da d 10 q) (cB d c) = some (da d 1 (v 26 k)) ∧ gA 8 1 (da d 10 q) (cB d c) = some (da d 1 (v 27 k)) ∧ gP 8 0 (da d 10 q) (cB d c) = some (some (da d 1 (v 26 k))) ∧ gP 8 1 (da d 10 q) (cB d c) = some (some (da d 1 (v 27 k))) ∧ gI 8 2 (da d 10 q) (cB d c) = some (nI (v 28 k)) := by
  obtain ⟨a1, a2, a3⟩ := R.2.2.2.2.2.1
  obtain ⟨q, q1, q2, q3, q4⟩ := a2 k hk
  have hF := R.2.1
  have hX := R.2.2.1
  have hl : lvd d 10 q := R.1.2.2 106 0 k _ q1
  refine ⟨q, ?_, hl, q1, cgA hl rfl q2, cgA hl rfl q3, by rw [cgP (t := 8) hl rfl, q2]; rfl, by rw [cgP (t := 8) hl rfl, q3]; rfl, by rw [cgI (t := 8) hl rfl, q4]⟩
  unfold fX7_at
  rw [if_neg (nI_pos (by omega)), cgI (t := 7) (f105 hF) rfl, b1_s, a1, nI_ifle (by omega) (by omega), if_neg (by omega), qa_105_0 hF hX, b1_s, qn_106 hF hX, b1_s, nI_ifle (by omega) (by omega), if_neg (by omega), b1_s, cxP (t := 18) (f106 hF) rfl (by rw [show cN c 106 0 = 16 from hX.2.2.2.2.1]; omega) (by omega), b1_s, q1]
  rfl
end RVs
