section BG
variable {d d' : AD} {c c' : CH} {v v' : Nu} {u u' : Mu} {w w' : Me} {n m r t p k y g : Nat} {od : Nat → Nat}
/-- the cells of a new walk, before its counts -/
def wnew (k st : Nat) (c : CH) : CH := kwQ 5 k 1 (some (1, st)) (kwI 5 k 0 (nI k) (kwI 5 k 10 0 (kwI 5 k 9 0 (kwI 5 k 8 0 (kwI 5 k 7 1 (kwI 5 k 6 0 (kwQ 5 k 5 (some (9, k)) (kwN 9 k 8 (kwQ 5 k 4 (some (8, k)) (kwN 8 k 300 (kwQ 5 k 3 (some (7, k)) (kwN 7 k 300 (kwQ 5 k 2 (some (6, k)) (kwN 6 k 300 c))))))))))))))
def dwk (k : Nat) (d : AD) : AD := dnew 9 k (dnew 8 k (dnew 7 k (dnew 6 k d)))
theorem dstep {k0 x0 : Nat} (hA : AI d) (hk : k0 ≠ 0) (hn : ¬ lvd d k0 x0) {k x : Nat} (h : ¬ lvd d k x) (hne : ¬ (k = k0 ∧ x = x0)) : ¬ lvd (dnew k0 x0 d) k x := fun h2 => by
  rcases (dnew_iff hA hk hn).mp h2 with h3 | h3
  · exact h h3
  · exact hne h3
theorem e_winit (hw : WF d c) (h5 : lvd d 5 k) (h6 : ¬ lvd d 6 k) (h7 : ¬ lvd d 7 k) (h8 : ¬ lvd d 8 k) (h9 : ¬ lvd d 9 k) (ht : lvd d 1 t) : ∃ c', fX9_init (da d 5 k) (nI k) (some (da d 1 t)) (cB d c) = some ((), cB (dwk k d) c') ∧ WF (dwk k d) c' ∧ Ex d (dwk k d) ∧ (∀ s, s ≠ 9 → sm s (wnew k t c) c') ∧ (∀ x i, x ≠ k → cI c' 9 x i = cI c 9 x i) ∧ (∀ x i, cQ c' 9 x i = cQ c 9 x i) ∧ (∀ x, x ≠ k → cN c' 9 x = cN c 9 x) ∧ cN c' 9 k = 8 ∧ (∀ h, h < 8 → cI c' 9 k h = -1) ∧ (∀ s x, lvd (dwk k d) s x ↔ lvd d s x ∨ (6 ≤ s ∧ s ≤ 9 ∧ x = k)) := by
  have hA := hw.1
  have A6 := dnew_AI hA (k0 := 6) (x0 := k) (by decide) h6
  have h7' := dstep hA (by decide) h6 h7 (by omega)
  have A7 := dnew_AI A6 (k0 := 7) (x0 := k) (by decide) h7'
  have h8' := dstep A6 (by decide) h7' (dstep hA (by decide) h6 h8 (by omega)) (by omega)
  have A8 := dnew_AI A7 (k0 := 8) (x0 := k) (by decide) h8'
  have h9' := dstep A7 (by decide) h8' (dstep A6 (by decide) h7' (dstep hA (by decide) h6 h9 (by omega)) (by omega)) (by omega)
  have A9 := dnew_AI A8 (k0 := 9) (x0 := k) (by decide) h9'
  have E6 : Ex d (dnew 6 k d) := Ex.rfl.new hA h6
  have E7 : Ex (dnew 6 k d) (dnew 7 k (dnew 6 k d)) := Ex.rfl.new A6 h7'
  have E8 : Ex (dnew 7 k (dnew 6 k d)) (dnew 8 k (dnew 7 k (dnew 6 k d))) := Ex.rfl.new A7 h8'
  have E9 : Ex (dnew 8 k (dnew 7 k (dnew 6 k d))) (dwk k d) := Ex.rfl.new A8 h9'
  have p6 := E6 5 k h5
  have p7 := E7 5 k p6.2
  have p8 := E8 5 k p7.2
  have p9 := E9 5 k p8.2
  have EE : Ex d (dwk k d) := ((E6.trans E7).trans E8).trans E9
  have w1 := hw.new (n := 300) (k0 := 6) (x0 := k) (by decide) h6
  have L6 : lvd (dnew 6 k d) 6 k := (dnew_new (by decide)).2
  have w2 := w1.wQ (i := 2) (q := some (6, k)) p6.2 (fun y hy => by cases hy; exact L6)
  have w3 := w2.new (n := 300) (k0 := 7) (x0 := k) (by decide) h7'
  have L7 : lvd (dnew 7 k (dnew 6 k d)) 7 k := (dnew_new (by decide)).2
  have w4 := w3.wQ (i := 3) (q := some (7, k)) p7.2 (fun y hy => by cases hy; exact L7)
  have w5 := w4.new (n := 300) (k0 := 8) (x0 := k) (by decide) h8'
  have L8 : lvd (dnew 8 k (dnew 7 k (dnew 6 k d))) 8 k := (dnew_new (by decide)).2
  have w6 := w5.wQ (i := 4) (q := some (8, k)) p8.2 (fun y hy => by cases hy; exact L8)
  have w7 : WF (dwk k d) _ := w6.new (n := 8) (k0 := 9) (x0 := k) (by decide) h9'
  have L9 : lvd (dwk k d) 9 k := (dnew_new (by decide)).2
  have w8 := w7.wQ (i := 5) (q := some (9, k)) p9.2 (fun y hy => by cases hy; exact L9)
  have w9 := (((((w8.wI (i := 6) (v := 0) p9.2).wI (i := 7) (v := 1) p9.2).wI (i := 8) (v := 0) p9.2).wI (i := 9) (v := 0) p9.2).wI (i := 10) (v := 0) p9.2).wI (i := 0) (v := nI k) p9.2
  have Lt := (EE 1 t ht).2
  have w10 : WF (dwk k d) (wnew k t c) := w9.wQ (i := 1) (q := some (1, t)) p9.2 (fun y hy => by cases hy; exact Lt)
  have hA9 := w10.1
  have q5 : cQ (wnew k t c) 5 k 5 = some (9, k) := by simp [cQ, wnew, kwI, kwQ, kwN, z3]
  have n9 : cN (wnew k t c) 9 k = 8 := by simp [cN, wnew, kwI, kwQ, kwN, zu]
  have key := zlp (F := fun n i (c' : CH) => fX9_init_76 n (da (dwk k d) 5 k) i (cB (dwk k d) c')) (N := 8)
    (fun i c' => WF (dwk k d) c' ∧ (∀ s, s ≠ 9 → sm s (wnew k t c) c') ∧ (∀ x i, x ≠ k → cI c' 9 x i = cI (wnew k t c) 9 x i) ∧ (∀ x i, cQ c' 9 x i = cQ (wnew k t c) 9 x i) ∧ (∀ x, cN c' 9 x = cN (wnew k t c) 9 x) ∧ (∀ h, h < i → cI c' 9 k h = -1))
    (fun y => ∃ c', y = some ((), cB (dwk k d) c') ∧ WF (dwk k d) c' ∧ (∀ s, s ≠ 9 → sm s (wnew k t c) c') ∧ (∀ x i, x ≠ k → cI c' 9 x i = cI (wnew k t c) 9 x i) ∧ (∀ x i, cQ c' 9 x i = cQ (wnew k t c) 9 x i) ∧ (∀ x, cN c' 9 x = cN (wnew k t c) 9 x) ∧ (∀ h, h < 8 → cI c' 9 k h = -1))
    (by
      rintro n i c' hi ⟨r1, r2, r3, r4, r5, r6⟩
      left
      have e1 : cQ c' 5 k 5 = some (9, k) := ((r2 5 (by decide)).2.1 k 5).trans q5
      have e2 : cN c' 9 k = 8 := (r5 k).trans n9
      refine ⟨kwI 9 k i (-1) c', ?_, r1.wI L9, fun s hs => (r2 s hs).I hs, fun x j hx => (z3_n (by omega)).trans (r3 x j hx), r4, r5, fun h hh => ?_⟩
      · show fX9_init_76 (n + 1) (da (dwk k d) 5 k) (nI i) (cB (dwk k d) c') = _
        rw [fX9_init_76, cgA (t := 9) p9.2 rfl e1, b1_s]
        dsimp only
        rw [cxN (t := 12) L9 rfl, b1_s, e2, nI_ifle (by omega) (by omega), if_neg (by omega), b1_s, cyI hA9 L9 rfl (by rw [e2]; exact hi) (by omega), b1_s, nI_1]
      · by_cases e : h = i
        · rw [e]; exact z3_s
        · exact (z3_n (by omega)).trans (r6 h (by omega)))
    (by
      rintro n c' ⟨r1, r2, r3, r4, r5, r6⟩
      have e1 : cQ c' 5 k 5 = some (9, k) := ((r2 5 (by decide)).2.1 k 5).trans q5
      have e2 : cN c' 9 k = 8 := (r5 k).trans n9
      refine ⟨c', ?_, r1, r2, r3, r4, r5, r6⟩
      show fX9_init_76 (n + 1) (da (dwk k d) 5 k) (nI 8) (cB (dwk k d) c') = _
      rw [fX9_init_76, cgA (t := 9) p9.2 rfl e1, b1_s]
      dsimp only
      rw [cxN (t := 12) L9 rfl, b1_s, e2, if_pos (Int32.le_refl _)])
  obtain ⟨c', s1, s2, s3, s4, s5, s6, s7⟩ := key 8 100000 0 (wnew k t c) (by omega) (by omega) ⟨w10, fun _ _ => sm.rfl, fun _ _ _ => rfl, fun _ _ => rfl, fun _ => rfl, fun _ h => by omega⟩
  refine ⟨c', ?_, s2, EE, s3, fun x i hx => (s4 x i hx).trans rfl, fun x i => (s5 x i).trans rfl, fun x hx => (s6 x).trans ?_, (s6 k).trans n9, s7, fun s x => ?_⟩
  · unfold fX9_init
    rw [show (300 : Int32) = nI 300 from rfl, show (8 : Int32) = nI 8 from rfl, cnA (t := 14) (k0 := 6) (x0 := k) hw (by decide) h6 rfl (by omega) (by omega), b2_s, ← p6.1, cpP (t := 9) (r := some (da (dnew 6 k d) 6 k)) (some (6, k)) A6 p6.2 rfl rfl, b1_s, cnA (t := 14) (k0 := 7) (x0 := k) w2 (by decide) h7' rfl (by omega) (by omega), b2_s, ← p7.1, cpP (t := 9) (r := some (da (dnew 7 k (dnew 6 k d)) 7 k)) (some (7, k)) A7 p7.2 rfl rfl, b1_s, cnA (t := 12) (k0 := 8) (x0 := k) w4 (by decide) h8' rfl (by omega) (by omega), b2_s, ← p8.1, cpP (t := 9) (r := some (da (dnew 8 k (dnew 7 k (dnew 6 k d))) 8 k)) (some (8, k)) A8 p8.2 rfl rfl, b1_s, cnA (t := 12) (k0 := 9) (x0 := k) w6 (by decide) h9' rfl (by omega) (by omega), b2_s, ← p9.1]
    show b1 (pP 9 5 (da (dwk k d) 5 k) (some (da (dwk k d) 9 k)) (cB (dwk k d) _)) _ = _
    rw [cpP (t := 9) (r := some (da (dwk k d) 9 k)) (some (9, k)) hA9 p9.2 rfl rfl, b1_s, cpI (t := 9) hA9 p9.2 rfl, b1_s, cpI (t := 9) hA9 p9.2 rfl, b1_s, cpI (t := 9) hA9 p9.2 rfl, b1_s, cpI (t := 9) hA9 p9.2 rfl, b1_s, cpI (t := 9) hA9 p9.2 rfl, b1_s, cpI (t := 9) hA9 p9.2 rfl, b1_s, ← (EE 1 t ht).1, cpP (t := 9) (r := some (da (dwk k d) 1 t)) (some (1, t)) hA9 p9.2 rfl rfl, b1_s]
    exact s1
  · simp [cN, wnew, kwI, kwQ, kwN, zu, hx]
  · show lvd (dnew 9 k (dnew 8 k (dnew 7 k (dnew 6 k d)))) s x ↔ _
    rw [dnew_iff A8 (by decide) h9', dnew_iff A7 (by decide) h8', dnew_iff A6 (by decide) h7', dnew_iff hA (by decide) h6]
    constructor
    · rintro ((((h | h) | h) | h) | h)
      · exact Or.inl h
      · exact Or.inr (by omega)
      · exact Or.inr (by omega)
      · exact Or.inr (by omega)
      · exact Or.inr (by omega)
    · rintro (h | ⟨h1, h2, h3⟩)
      · exact Or.inl (Or.inl (Or.inl (Or.inl h)))
      · rcases (show s = 6 ∨ s = 7 ∨ s = 8 ∨ s = 9 by omega) with e | e | e | e
        · exact Or.inl (Or.inl (Or.inl (Or.inr ⟨e, h3⟩)))
        · exact Or.inl (Or.inl (Or.inr ⟨e, h3⟩))
        · exact Or.inl (Or.inr ⟨e, h3⟩)
        · exact Or.inr ⟨e, h3⟩
end BG
