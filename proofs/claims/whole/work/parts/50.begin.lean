section BG
variable {d d' : AD} {c c' : CH} {v v' : Nu} {u u' : Mu} {w w' : Me} {n m r t p k y g : Nat} {od : Nat → Nat}
/-- the cells of a new walk, before its counts -/
def wnew (k st : Nat) (c : CH) : CH := kwQ 5 k 1 (some (1, st)) (kwI 5 k 0 (nI k) (kwI 5 k 10 0 (kwI 5 k 9 0 (kwI 5 k 8 0 (kwI 5 k 7 1 (kwI 5 k 6 0 (kwQ 5 k 5 (some (9, k)) (kwN 9 k 8 (kwQ 5 k 4 (some (8, k)) (kwN 8 k 300 (kwQ 5 k 3 (some (7, k)) (kwN 7 k 300 (kwQ 5 k 2 (some (6, k)) (kwN 6 k 300 c))))))))))))))
def dwk (k : Nat) (d : AD) : AD := dnew 9 k (dnew 8 k (dnew 7 k (dnew 6 k d)))
theorem dstep {k0 x0 : Nat} (hA : AI d) (hk : k0 ≠ 0) (hn : ¬ lvd d k0 x0) {k x : Nat} (h : ¬ lvd d k x) (hne : ¬ (k = k0 ∧ x = x0)) : ¬ lvd (dnew k0 x0 d) k x := fun h2 => by
  rcases (dnew_iff hA hk hn).mp h2 with h3 | h3
  · exact h h3
  · exact hne h3
theorem e_winit (hw : WF d c) (h5 : lvd d 5 k) (h6 : ¬ lvd d 6 k) (h7 : ¬ lvd d 7 k) (h8 : ¬ lvd d 8 k) (h9 : ¬ lvd d 9 k) (ht : lvd d 1 t) : ∃ c', fX9_init (da d 5 k) (nI k) (some (da d 1 t)) (cB d c) = some ((), cB (dwk k d) c') ∧ WF (dwk k d) c' ∧ Ex d (dwk k d) ∧ (∀ s, s ≠ 9 → sm s (wnew k t c) c') ∧ (∀ x i, x ≠ k → cI c' 9 x i = cI c 9 x i) ∧ (∀ x i, cQ c' 9 x i = cQ c 9 x i) ∧ (∀ x, x ≠ k → cN c' 9 x = cN c 9 x) ∧ cN c' 9 k = 8 ∧ (∀ h, h < 8 → cI c' 9 k h = -1) ∧ (∀ s x, lvd (dwk k d) s x ↔ lvd d s x ∨ (6 ≤ s ∧ s ≤ 9 ∧ x = k)) := by
  have hA := hw.1
  have A6 := dnew_AI hA (k0 := 6) (x0 := k) (by decide) h6
  have h7' := dstep hA (by decide) h6 h7 (by omega)
  have A7 := dnew_AI A6 (k0 := 7) (x0 := k) (by decide) h7'
  have h8' := dstep A6 (by decide) h7' (dstep hA (by decide) h6 h8 (by omega)) (by omega)
  have A8 := dnew_AI A7 (k0 := 8) (x0 := k) (by decide) h8'
  have h9' := dstep A7 (by decide) h8' (dstep A6 (by decide) h7' (dstep hA (by decide) h6 h9 (by omega)) (by omega)) (by omega)
  have A9 := dnew_AI A8 (k0 := 9) (x0 := k) (by decide) h9'
  have E6 : Ex d (dnew 6 k d) := Ex.rfl.new hA h6
  have E7 : Ex (dnew 6 k d) (dnew 7 k (dnew 6 k d)) := Ex.rfl.new A6 h7'
  have E8 : Ex (dnew 7 k (dnew 6 k d)) (dnew 8 k (dnew 7 k (dnew 6 k d))) := Ex.rfl.new A7 h8'
  have E9 : Ex (dnew 8 k (dnew 7 k (dnew 6 k d))) (dwk k d) := Ex.rfl.new A8 h9'
  have p6 := E6 5 k h5
  have p7 := E7 5 k p6.2
  have p8 := E8 5 k p7.2
  have p9 := E9 5 k p8.2
  have EE : Ex d (dwk k d) := ((E6.trans E7).trans E8).trans E9
  have w1 := hw.new (n := 300) (k0 := 6) (x0 := k) (by decide) h6
  have L6 : lvd (dnew 6 k d) 6 k := (dnew_new (by decide)).2
  have w2 := w1.wQ (i := 2) (q := some (6, k)) p6.2 (fun y hy => by cases hy; exact L6)
  have w3 := w2.new (n := 300) (k0 := 7) (x0 := k) (by decide) h7'
  have L7 : lvd (dnew 7 k (dnew 6 k d)) 7 k := (dnew_new (by decide)).2
  have w4 := w3.wQ (i := 3) (q := some (7, k)) p7.2 (fun y hy => by cases hy; exact L7)
  have w5 := w4.new (n := 300) (k0 := 8) (x0 := k) (by decide) h8'
  have L8 : lvd (dnew 8 k (dnew 7 k (dnew 6 k d))) 8 k := (dnew_new (by decide)).2
  have w6 := w5.wQ (i := 4) (q := some (8, k)) p8.2 (fun y hy => by cases hy; exact L8)
  have w7 : WF (dwk k d) _ := w6.new (n := 8) (k0 := 9) (x0 := k) (by decide) h9'
  have L9 : lvd (dwk k d) 9 k := (dnew_new (by decide)).2
  have w8 := w7.wQ (i := 5) (q := some (9, k)) p9.2 (fun y hy => by cases hy; exact L9)
  have w9 := (((((w8.wI (i := 6) (v := 0) p9.2).wI (i := 7) (v := 1) p9.2).wI (i := 8) (v := 0) p9.2).wI (i := 9) (v := 0) p9.2).wI (i := 10) (v := 0) p9.2).wI (i := 0) (v := nI k) p9.2
  have Lt := (EE 1 t ht).2
  have w10 : WF (dwk k d) (wnew k t c) := w9.wQ (i := 1) (q := some (1, t)) p9.2 (fun y hy => by cases hy; exact Lt)
  have hA9 := w10.1
  have q5 : cQ (wnew k t c) 5 k 5 = some (9, k) := by simp [cQ, wnew, kwI, kwQ, kwN, z3]
  have n9 : cN (wnew k t c) 9 k = 8 := by simp [cN, wnew, kwI, kwQ, kwN, zu]
  have key := zlp (F := fun n i (c' : CH) => fX9_init_76 n (da (dwk k d) 5 k) i (cB (dwk k d) c')) (N := 8)
    (fun i c' => WF (dwk k d) c' ∧ (∀ s, s ≠ 9 → sm s (wnew k t c) c') ∧ (∀ x i, x ≠ k → cI c' 9 x i = cI (wnew k t c) 9 x i) ∧ (∀ x i, cQ c' 9 x i = cQ (wnew k t c) 9 x i) ∧ (∀ x, cN c' 9 x = cN (wnew k t c) 9 x) ∧ (∀ h, h < i → cI c' 9 k h = -1))
    (fun y => ∃ c', y = some ((), cB (dwk k d) c') ∧ WF (dwk k d) c' ∧ (∀ s, s ≠ 9 → sm s (wnew k t c) c') ∧ (∀ x i, x ≠ k → cI c' 9 x i = cI (wnew k t c) 9 x i) ∧ (∀ x i, cQ c' 9 x i = cQ (wnew k t c) 9 x i) ∧ (∀ x, cN c' 9 x = cN (wnew k t c) 9 x) ∧ (∀ h, h < 8 → cI c' 9 k h = -1))
    (by
      rintro n i c' hi ⟨r1, r2, r3, r4, r5, r6⟩
      left
      have e1 : cQ c' 5 k 5 = some (9, k) := ((r2 5 (by decide)).2.1 k 5).trans q5
      have e2 : cN c' 9 k = 8 := (r5 k).trans n9
      refine ⟨kwI 9 k i (-1) c', ?_, r1.wI L9, fun s hs => (r2 s hs).I hs, fun x j hx => (z3_n (by omega)).trans (r3 x j hx), r4, r5, fun h hh => ?_⟩
      · show fX9_init_76 (n + 1) (da (dwk k d) 5 k) (nI i) (cB (dwk k d) c') = _
        rw [fX9_init_76, cgA (t := 9) p9.2 rfl e1, b1_s]
        dsimp only
        rw [cxN (t := 12) L9 rfl, b1_s, e2, nI_ifle (by omega) (by omega), if_neg (by omega), b1_s, cyI hA9 L9 rfl (by rw [e2]; exact hi) (by omega), b1_s, nI_1]
      · by_cases e : h = i
        · rw [e]; exact z3_s
        · exact (z3_n (by omega)).trans (r6 h (by omega)))
    (by
      rintro n c' ⟨r1, r2, r3, r4, r5, r6⟩
      have e1 : cQ c' 5 k 5 = some (9, k) := ((r2 5 (by decide)).2.1 k 5).trans q5
      have e2 : cN c' 9 k = 8 := (r5 k).trans n9
      refine ⟨c', ?_, r1, r2, r3, r4, r5, r6⟩
      show fX9_init_76 (n + 1) (da (dwk k d) 5 k) (nI 8) (cB (dwk k d) c') = _
      rw [fX9_init_76, cgA (t := 9) p9.2 rfl e1, b1_s]
      dsimp only
      rw [cxN (t := 12) L9 rfl, b1_s, e2, if_pos (Int32.le_refl _)])
  obtain ⟨c', s1, s2, s3, s4, s5, s6, s7⟩ := key 8 100000 0 (wnew k t c) (by omega) (by omega) ⟨w10, fun _ _ => sm.rfl, fun _ _ _ => rfl, fun _ _ => rfl, fun _ => rfl, fun _ h => by omega⟩
  refine ⟨c', ?_, s2, EE, s3, fun x i hx => (s4 x i hx).trans rfl, fun x i => (s5 x i).trans rfl, fun x hx => (s6 x).trans ?_, (s6 k).trans n9, s7, fun s x => ?_⟩
  · unfold fX9_init
    rw [show (300 : Int32) = nI 300 from rfl, show (8 : Int32) = nI 8 from rfl, cnA (t := 14) (k0 := 6) (x0 := k) hw (by decide) h6 rfl (by omega) (by omega), b2_s, ← p6.1, cpP (t := 9) (r := some (da (dnew 6 k d) 6 k)) (some (6, k)) A6 p6.2 rfl rfl, b1_s, cnA (t := 14) (k0 := 7) (x0 := k) w2 (by decide) h7' rfl (by omega) (by omega), b2_s, ← p7.1, cpP (t := 9) (r := some (da (dnew 7 k (dnew 6 k d)) 7 k)) (some (7, k)) A7 p7.2 rfl rfl, b1_s, cnA (t := 12) (k0 := 8) (x0 := k) w4 (by decide) h8' rfl (by omega) (by omega), b2_s, ← p8.1, cpP (t := 9) (r := some (da (dnew 8 k (dnew 7 k (dnew 6 k d))) 8 k)) (some (8, k)) A8 p8.2 rfl rfl, b1_s, cnA (t := 12) (k0 := 9) (x0 := k) w6 (by decide) h9' rfl (by omega) (by omega), b2_s, ← p9.1]
    show b1 (pP 9 5 (da (dwk k d) 5 k) (some (da (dwk k d) 9 k)) (cB (dwk k d) _)) _ = _
    rw [cpP (t := 9) (r := some (da (dwk k d) 9 k)) (some (9, k)) hA9 p9.2 rfl rfl, b1_s, cpI (t := 9) hA9 p9.2 rfl, b1_s, cpI (t := 9) hA9 p9.2 rfl, b1_s, cpI (t := 9) hA9 p9.2 rfl, b1_s, cpI (t := 9) hA9 p9.2 rfl, b1_s, cpI (t := 9) hA9 p9.2 rfl, b1_s, cpI (t := 9) hA9 p9.2 rfl, b1_s, ← (EE 1 t ht).1, cpP (t := 9) (r := some (da (dwk k d) 1 t)) (some (1, t)) hA9 p9.2 rfl rfl, b1_s]
    exact s1
  · simp [cN, wnew, kwI, kwQ, kwN, zu, hx]
  · show lvd (dnew 9 k (dnew 8 k (dnew 7 k (dnew 6 k d)))) s x ↔ _
    rw [dnew_iff A8 (by decide) h9', dnew_iff A7 (by decide) h8', dnew_iff A6 (by decide) h7', dnew_iff hA (by decide) h6]
    constructor
    · rintro ((((h | h) | h) | h) | h)
      · exact Or.inl h
      · exact Or.inr (by omega)
      · exact Or.inr (by omega)
      · exact Or.inr (by omega)
      · exact Or.inr (by omega)
    · rintro (h | ⟨h1, h2, h3⟩)
      · exact Or.inl (Or.inl (Or.inl (Or.inl h)))
      · rcases (show s = 6 ∨ s = 7 ∨ s = 8 ∨ s = 9 by omega) with e | e | e | e
        · exact Or.inl (Or.inl (Or.inl (Or.inr ⟨e, h3⟩)))
        · exact Or.inl (Or.inl (Or.inr ⟨e, h3⟩))
        · exact Or.inl (Or.inr ⟨e, h3⟩)
        · exact Or.inr ⟨e, h3⟩
/-- the tables with a new walk -/
def kkv (v : Nu) (t : Nat) : Nu := fun f i => if f = 38 ∧ i = v 46 0 then t else if f = 41 ∧ 8 * v 46 0 ≤ i ∧ i < 8 * v 46 0 + 8 then 0 else if f = 46 ∧ i = 0 then v 46 0 + 1 else v f i
theorem kkv_n {f i : Nat} (h : f ≠ 38 ∧ f ≠ 41 ∧ f ≠ 46) : kkv v t f i = v f i := by
  simp only [kkv]
  rw [if_neg (by omega), if_neg (by omega), if_neg (by omega)]
theorem kkv_o {f i k : Nat} (h : f ≠ 46) (hk : ofk k f i) (hne : k ≠ v 46 0) : kkv v t f i = v f i := by
  simp only [kkv]
  rw [if_neg (by omega), if_neg (by omega), if_neg (by omega)]
theorem kkv_46 : kkv v t 46 0 = v 46 0 + 1 := by simp [kkv]
theorem kkv_38 : kkv v t 38 (v 46 0) = t := by simp [kkv]
theorem kkv_41 {h : Nat} (hh : h < 8) : kkv v t 41 (8 * v 46 0 + h) = 0 := by
  unfold kkv
  rw [if_neg (by omega), if_pos (by omega)]
theorem e_begin {K : Nat → Hz → Option (Int32 × Hz)} (R : RC d c v u w) (ht : t < v 9 0) (hk : v 46 0 < 20) (hf : v 37 (v 46 0) = 0 ∧ v 39 (v 46 0) = 0 ∧ v 40 (v 46 0) = 0 ∧ ∀ n, n < 300 → v 42 (300 * v 46 0 + n) = 0) : ∃ d' c', (b2 (nO 9 (cB d c)) fun a24 s25 => (b1 (gI 10 10 (da d 100 0) s25) fun x26 => (b2 (fX9_init a24 x26 (some (da d 1 t)) s25) fun _ s28 => (b1 (gA 10 3 (da d 100 0) s28) fun a29 => (b1 (gI 10 10 (da d 100 0) s28) fun x30 => (b1 (yP 19 9 a29 x30 (some a24) s28) fun s31 => (b1 (gI 10 10 (da d 100 0) s31) fun x32 => (b1 (pI 10 10 (da d 100 0) (x32 + 1) s31) fun s33 => K a24 s33)))))))) = K (da d' 5 (v 46 0)) (cB d' c') ∧ Ex d d' ∧ RC d' c' (kkv v t) u w := by
  obtain ⟨f37, f39, f40, f42⟩ := hf
  have hF := R.2.1
  have hX := R.2.2.1
  have hA := R.1.1
  obtain ⟨a1, a2, a3⟩ := id R.2.2.2.2.2.2.1
  obtain ⟨g5, g6, g7, g8, g9⟩ := a3 (v 46 0) (Nat.le_refl _)
  have w1 := R.1.new (n := 0) (k0 := 5) (x0 := v 46 0) (by decide) g5
  have E5 : Ex d (dnew 5 (v 46 0) d) := Ex.rfl.new hA g5
  have L5 : lvd (dnew 5 (v 46 0) d) 5 (v 46 0) := (dnew_new (by decide)).2
  obtain ⟨et, Lt⟩ := E5 1 t (R.t ht).1
  obtain ⟨c2, i1, w2, e2, b1', b2', b3, b4, b5, b6, b7⟩ := e_winit (t := t) w1 L5 (dstep hA (by decide) g5 g6 (by omega)) (dstep hA (by decide) g5 g7 (by omega)) (dstep hA (by decide) g5 g8 (by omega)) (dstep hA (by decide) g5 g9 (by omega)) Lt
  have EE := E5.trans e2
  have hiff : ∀ s x, lvd (dwk (v 46 0) (dnew 5 (v 46 0) d)) s x ↔ lvd d s x ∨ (5 ≤ s ∧ s ≤ 9 ∧ x = v 46 0) := by
    intro s x
    rw [b7, dnew_iff hA (by decide) g5]
    constructor
    · rintro ((h | h) | h)
      · exact Or.inl h
      · exact Or.inr (by omega)
      · exact Or.inr (by omega)
    · rintro (h | ⟨h1, h2, h3⟩)
      · exact Or.inl (Or.inl h)
      · by_cases e : s = 5
        · exact Or.inl (Or.inr ⟨e, h3⟩)
        · exact Or.inr (by omega)
  have L5' := (e2 5 (v 46 0) L5).2
  have F' := hF.ex EE
  have hA2 := w2.1
  have w3 := (w2.wQ (i := v 46 0) (q := some (5, v 46 0)) (f107 F') (fun y hy => by cases hy; exact L5')).wI (i := 10) (v := nI (v 46 0 + 1)) (f100 F')
  have hs : ∀ s, ¬ (5 ≤ s ∧ s ≤ 9) → sm s c c2 := fun s hs => by
    have h0 : sm s c (wnew (v 46 0) t (kwN 5 (v 46 0) 0 c)) := ((((((((((((((((sm.rfl.N (by omega)).N (by omega)).Q (by omega)).N (by omega)).Q (by omega)).N (by omega)).Q (by omega)).N (by omega)).Q (by omega)).I (by omega)).I (by omega)).I (by omega)).I (by omega)).I (by omega)).I (by omega)).Q (by omega))
    exact h0.trans (b1' s (by omega))
  have hs' : ∀ s, ¬ (5 ≤ s ∧ s ≤ 9) → s ≠ 100 → s ≠ 107 → sm s c (kwI 100 0 10 (nI (v 46 0 + 1)) (kwQ 107 0 (v 46 0) (some (5, v 46 0)) c2)) := fun s h1 h2 h3 => ((hs s h1).Q h3).I h2
  have e100 : ∀ i, cI c2 100 0 i = cI c 100 0 i := fun i => (hs 100 (by decide)).1 0 i
  have hX3 : cQ c2 100 0 3 = some (107, 0) := ((hs 100 (by decide)).2.1 0 3).trans hX.1.2.2.2.1
  have hN7 : cN c2 107 0 = 20 := ((hs 107 (by decide)).2.2.2 0).trans hX.2.2.2.2.2.1
  refine ⟨_, _, ?_, EE, w3, F', hX.cg (fun s i hk => ?_) (fun s hk => ?_), R.2.2.2.1.cg (hs' _ (by decide) (by decide) (by decide)) (hs' _ (by decide) (by decide) (by decide)) (hs' _ (by decide) (by decide) (by decide)) (hs' _ (by decide) (by decide) (by decide)) (hs' _ (by decide) (by decide) (by decide)) (hs' _ (by decide) (by decide) (by decide)) (hs' _ (by decide) (by decide) (by decide)) (fun s x h => ?_) (fun f i hf => kkv_n (by omega)) (fun _ => rfl) (fun _ => rfl), R.2.2.2.2.1.cg (hs' _ (by decide) (by decide) (by decide)) (hs' _ (by decide) (by decide) (by decide)) (hs' _ (by decide) (by decide) (by decide)) (fun x => ?_) (fun f i hf => kkv_n (by omega)), R.2.2.2.2.2.1.cg (hs' _ (by decide) (by decide) (by decide)) (hs' _ (by decide) (by decide) (by decide)) (hs' _ (by decide) (by decide) (by decide)) (fun x => ?_) (fun f i hf => kkv_n (by omega)), ⟨?_, fun x hx => ?_, fun x hx => ?_⟩, R.2.2.2.2.2.2.2.1.cg (hs' _ (by decide) (by decide) (by decide)) (hs' _ (by decide) (by decide) (by decide)) (hs' _ (by decide) (by decide) (by decide)) (e100 11) (e100 12) (fun f i hf => kkv_n (by omega)), R.2.2.2.2.2.2.2.2.cg (fun s hk => hs' s (by omega) (by omega) (by omega)) (by rw [kkv_n (by omega)]; exact Nat.le_refl _)⟩
  · have q1 : da d 100 0 = da (dnew 5 (v 46 0) d) 100 0 := (E5 100 0 (f100 hF)).1.symm
    have q2 : da (dnew 5 (v 46 0) d) 100 0 = da (dwk (v 46 0) (dnew 5 (v 46 0) d)) 100 0 := ((e2 100 0 (f100 (hF.ex E5))).1).symm
    have q3 : da (dnew 5 (v 46 0) d) 5 (v 46 0) = da (dwk (v 46 0) (dnew 5 (v 46 0) d)) 5 (v 46 0) := ((e2 5 (v 46 0) L5).1).symm
    rw [cnO (t := 9) (k0 := 5) (x0 := v 46 0) R.1 (by decide) g5 rfl, b2_s, q1, cgI (t := 10) (f100 (hF.ex E5)) rfl, b1_s, show cI (kwN 5 (v 46 0) 0 c) 100 0 10 = nI (v 46 0) from a1, ← et, i1, b2_s, q2, q3, cgA (t := 10) (f100 F') rfl hX3, b1_s]
    dsimp only
    rw [cgI (t := 10) (f100 F') rfl, b1_s, e100 10, a1, cyP (t := 19) (e := 9) (r := some _) (some (5, v 46 0)) hA2 (f107 F') rfl (by rw [hN7]; exact hk) (by omega) rfl (fun y hy => by cases hy; exact ⟨L5', rfl⟩), b1_s, cgI (t := 10) (f100 F') rfl, b1_s, show cI (kwQ 107 0 (v 46 0) (some (5, v 46 0)) c2) 100 0 10 = nI (v 46 0) from (e100 10).trans a1, nI_1, cpI (t := 10) hA2 (f100 F') rfl, b1_s]
  · refine Eq.trans ?_ ((hs s (by simp only [fixS] at hk; omega)).2.1 0 i)
    exact z3_n (f := c2.2.2.1) (by simp only [fixS] at hk; omega)
  · exact (hs s (by omega)).2.2.2 0
  · rw [hiff]; exact ⟨fun h => h.elim id (by omega), Or.inl⟩
  · rw [hiff]; exact ⟨fun h => h.elim id (by omega), Or.inl⟩
  · rw [hiff]; exact ⟨fun h => h.elim id (by omega), Or.inl⟩
  · rw [kkv_46]; rfl
  · rw [kkv_46] at hx
    by_cases e : x = v 46 0
    · subst e
      have hpas : ∀ n, n < 300 → pas (kkv v t) (v 46 0) n = false := fun n hn => by simp only [pas]; rw [kkv_n (by omega), f42 n hn]; rfl
      have hmet : ∀ n, n < 300 → met (kkv v t) (v 46 0) n = false := fun n hn => by simp only [met]; rw [kkv_n (by omega), f42 n hn]; rfl
      have c0 : fb_ct (pas (kkv v t) (v 46 0)) 300 = 0 := fb_ct_zero.mpr hpas
      have c1 : fb_ct (met (kkv v t) (v 46 0)) 300 = 0 := fb_ct_zero.mpr hmet
      have m0 : ∀ n, mew (kkv v t) (v 46 0) n = 0 := by
        intro n
        have := fb_sm_cong (f := fun g => if met (kkv v t) (v 46 0) g = true ∧ kkv v t 5 g = n + 1 then kkv v t 44 (300 * v 46 0 + g) else 0) (g := fun _ => 0) (n := 300) (fun g hg => by rw [hmet g hg]; simp)
        rw [show mew (kkv v t) (v 46 0) n = fb_sm (fun g => if met (kkv v t) (v 46 0) g = true ∧ kkv v t 5 g = n + 1 then kkv v t 44 (300 * v 46 0 + g) else 0) 300 from rfl, this, fb_sm_const]
      have z5 : ∀ i, cI c2 5 (v 46 0) i = cI (wnew (v 46 0) t (kwN 5 (v 46 0) 0 c)) 5 (v 46 0) i := fun i => (b1' 5 (by decide)).1 _ i
      have z5q : ∀ i, cQ c2 5 (v 46 0) i = cQ (wnew (v 46 0) t (kwN 5 (v 46 0) 0 c)) 5 (v 46 0) i := fun i => (b1' 5 (by decide)).2.1 _ i
      have zc : ∀ s, 6 ≤ s ∧ s ≤ 8 → ∀ i, cI c2 s (v 46 0) i = 0 := fun s hs2 i => by
        rw [(b1' s (by omega)).1]
        rcases (show s = 6 ∨ s = 7 ∨ s = 8 by omega) with e | e | e
        · subst e; exact (R.1.2.1 6 _ g6).1 i
        · subst e; exact (R.1.2.1 7 _ g7).1 i
        · subst e; exact (R.1.2.1 8 _ g8).1 i
      refine ⟨(hiff _ _).mpr (Or.inr (by omega)), (hiff _ _).mpr (Or.inr (by omega)), (hiff _ _).mpr (Or.inr (by omega)), (hiff _ _).mpr (Or.inr (by omega)), (hiff _ _).mpr (Or.inr (by omega)), z3_s (f := c2.2.2.1), ⟨?_, ⟨?_, ?_, ?_, b5⟩, fun n hn => ?_, fun h hh => ?_⟩⟩
      · rw [kkv_38, kkv_n (v := v) (t := t) (f := 37) (by omega), kkv_n (v := v) (t := t) (f := 40) (by omega), kkv_n (v := v) (t := t) (f := 39) (by omega), f37, f39, f40, c0, c1]
        refine ⟨(z5 0).trans ?_, (z5q 1).trans ?_, (z5q 2).trans ?_, (z5q 3).trans ?_, (z5q 4).trans ?_, (z5q 5).trans ?_, (z5 6).trans ?_, (z5 7).trans ?_, (z5 8).trans ?_, (z5 9).trans ?_, (z5 10).trans ?_⟩ <;> simp [cI, cQ, wnew, kwI, kwQ, kwN, z3] <;> rfl
      · refine ((b1' 6 (by decide)).2.2.2 _).trans ?_; simp [cN, wnew, kwI, kwQ, kwN, zu]
      · refine ((b1' 7 (by decide)).2.2.2 _).trans ?_; simp [cN, wnew, kwI, kwQ, kwN, zu]
      · refine ((b1' 8 (by decide)).2.2.2 _).trans ?_; simp [cN, wnew, kwI, kwQ, kwN, zu]
      · rw [hpas n hn, hmet n hn, m0]
        exact ⟨zc 6 (by omega) n, zc 7 (by omega) n, zc 8 (by omega) n⟩
      · rw [kkv_41 hh, dv_0 rfl]
        exact b6 h hh
    · obtain ⟨y1, y2, y3, y4, y5, y6, y7⟩ := a2 x (by omega)
      refine ⟨(hiff _ _).mpr (Or.inl y1), (hiff _ _).mpr (Or.inl y2), (hiff _ _).mpr (Or.inl y3), (hiff _ _).mpr (Or.inl y4), (hiff _ _).mpr (Or.inl y5), ?_, y7.cg (fun s i hs2 => ?_) (fun f i hf => kkv_o (by omega) hf e) (fun n hn _ => ⟨kkv_n (by omega), kkv_n (by omega)⟩)⟩
      · exact (z3_n (f := c2.2.2.1) (by omega)).trans (((hs 107 (by decide)).2.1 0 x).trans y6)
      · have zz : cI c2 s x i = cI c s x i ∧ cQ c2 s x i = cQ c s x i ∧ cN c2 s x = cN c s x := by
          by_cases e9 : s = 9
          · subst e9
            exact ⟨b2' x i e, b3 x i, b4 x e⟩
          · obtain ⟨k1, k2, -, k4⟩ := b1' s e9
            refine ⟨(k1 x i).trans ?_, (k2 x i).trans ?_, (k4 x).trans ?_⟩
            · simp [cI, wnew, kwI, kwQ, kwN, z3, e]
            · simp [cQ, wnew, kwI, kwQ, kwN, z3, e]
            · simp [cN, wnew, kwI, kwQ, kwN, zu, e]
        refine ⟨?_, ?_, zz.2.2⟩
        · exact (z3_n (f := c2.1) (by omega)).trans zz.1
        · exact (z3_n (f := c2.2.2.1) (by omega)).trans zz.2.1
  · rw [kkv_46] at hx
    obtain ⟨y1, y2, y3, y4, y5⟩ := a3 x (by omega)
    rw [hiff, hiff, hiff, hiff, hiff]
    exact ⟨fun h => h.elim y1 (by omega), fun h => h.elim y2 (by omega), fun h => h.elim y3 (by omega), fun h => h.elim y4 (by omega), fun h => h.elim y5 (by omega)⟩
end BG
