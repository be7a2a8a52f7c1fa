section MU
variable {d d' : AD} {c c' : CH} {v v' : Nu} {u u' : Mu} {w w' : Me} {n m r t p k : Nat} {od : Nat → Nat}
theorem TH.at (h : TH d c v u w) (hs : ∀ k, k ≠ 1 → sm k c c') (h1 : ∀ x i, x ≠ n → cI c' 1 x i = cI c 1 x i ∧ cQ c' 1 x i = cQ c 1 x i) (hT : TF c' v' u' n) (hv : ∀ k i, k ≤ 12 → i ≠ n ∨ 9 ≤ k ∨ k = 3 → v' k i = v k i) (hu : ∀ i, i ≠ n → u' 2 i = u 2 i) : TH d c' v' u' w := by
  obtain ⟨a1, a2, a3, a4, a5⟩ := h
  refine ⟨by rw [(hs 101 (by decide)).1, hv 9 0 (by decide) (by omega)]; exact a1, fun x hx => ?_, fun x hx => ?_, ?_, a5⟩
  · rw [hv 9 0 (by decide) (by omega)] at hx
    obtain ⟨b1, b2, b3, b4, b5, b6⟩ := a2 x hx
    refine ⟨b1, b2, b3, by rw [(hs 102 (by decide)).2.1]; exact b4, ?_, fun p hp => ?_⟩
    · by_cases e : x = n
      · rw [e]; exact hT
      · simp only [TF, (h1 x _ e).1, (h1 x _ e).2, (hs 2 (by decide)).2.2.2, (hs 3 (by decide)).2.2.2, hv 0 x (by decide) (Or.inl e), hv 1 x (by decide) (Or.inl e), hv 3 x (by decide) (Or.inl e), hv 4 x (by decide) (Or.inl e), hv 5 x (by decide) (Or.inl e), hv 6 x (by decide) (Or.inl e), hv 7 x (by decide) (Or.inl e), hv 8 x (by decide) (Or.inl e), hu x e]
        exact b5
    · rw [hv 3 x (by decide) (by omega)] at hp
      simp only [PL, (hs 2 (by decide)).2.1, (hs 3 (by decide)).2.1, (hs 11 (by decide)).1, (hs 11 (by decide)).2.1, (hs 12 (by decide)).2.2.1, (hs 12 (by decide)).2.2.2, hv 10 _ (by decide) (Or.inr (Or.inl (by decide))), hv 11 _ (by decide) (Or.inr (Or.inl (by decide))), hv 12 _ (by decide) (Or.inr (Or.inl (by decide)))]
      exact b6 p hp
  · rw [hv 9 0 (by decide) (by omega)] at hx
    exact a3 x hx
  · simp only [(hs 3 (by decide)).2.1]
    exact a4
/-- a field of one thing changes -/
theorem RC.tf (R : RC d c v u w) (hw : WF d c') (hs : ∀ k, k ≠ 1 → sm k c c') (h1 : ∀ x i, x ≠ n → cI c' 1 x i = cI c 1 x i ∧ cQ c' 1 x i = cQ c 1 x i) (hT : TF c' v' u' n) (hv : ∀ k i, i ≠ n ∨ 9 ≤ k ∨ k = 3 → v' k i = v k i) (hu : ∀ i, i ≠ n → u' 2 i = u 2 i) (hp : (v' 0 n = v 0 n ∧ v' 5 n = v 5 n) ∨ ∀ k, k < v 46 0 → v 42 (300 * k + n) ≠ 1) : RC d c' v' u' w := by
  obtain ⟨-, R1, R2, R3, R4, R5, R6, R7, R8⟩ := R
  refine ⟨hw, R1, R2.cg (fun k i hk => (hs k (by simp only [fixS] at hk; omega)).2.1 0 i) (fun k hk => (hs k (by omega)).2.2.2 0), R3.at hs h1 hT (fun k i _ => hv k i) hu, R4.cg (hs _ (by decide)) (hs _ (by decide)) (hs _ (by decide)) (fun _ => Iff.rfl) (fun k i hk => hv k i (by omega)), R5.cg (hs _ (by decide)) (hs _ (by decide)) (hs _ (by decide)) (fun _ => Iff.rfl) (fun k i hk => hv k i (by omega)), R6.cg (fun k hk => hs k (by omega)) (hs _ (by decide)) ((hs 100 (by decide)).1 0 10) (fun _ _ _ => Iff.rfl) (fun k i hk => hv k i (by omega)) (fun k x hk hx hx2 => ?_), R7.cg (hs _ (by decide)) (hs _ (by decide)) (hs _ (by decide)) ((hs 100 (by decide)).1 0 11) ((hs 100 (by decide)).1 0 12) (fun k i hk => hv k i (by omega)), R8.cg (fun k hk => hs k (by omega)) (by rw [hv 9 0 (by omega)]; exact Nat.le_refl _)⟩
  by_cases e : x = n
  · rcases hp with hp | hp
    · rw [e]; exact hp
    · rw [e, hv 42 _ (by omega)] at hx2
      exact absurd hx2 (hp k hk)
  · exact ⟨hv 0 x (by omega), hv 5 x (by omega)⟩
theorem RC.tI {j : Nat} {y : Int32} (R : RC d c v u w) (hn : n < v 9 0) (hT : TF (kwI 1 n j y c) v' u' n) (hv : ∀ k i, i ≠ n ∨ 9 ≤ k ∨ k = 3 → v' k i = v k i) (hu : ∀ i, i ≠ n → u' 2 i = u 2 i) (hp : v' 0 n = v 0 n ∧ v' 5 n = v 5 n) : RC d (kwI 1 n j y c) v' u' w :=
  R.tf (R.1.wI (R.t hn).1) (fun k hk => sm.rfl.I (by omega)) (fun x i hx => ⟨z3_n (by omega), rfl⟩) hT hv hu (Or.inl hp)
theorem RC.exit {e : Nat} (R : RC d c v u w) (hn : n < v 9 0) : RC d (kwI 1 n 8 (nI e) c) (zu v 4 n e) u w := by
  obtain ⟨t0, t1, t2, t3, t4, t5, t6, t7, t8, t9, t10, t11, t12⟩ := (R.t hn).2.2.2.2.1
  refine R.tI hn ⟨(z3_n (by omega)).trans t0, (z3_n (by omega)).trans (t1.trans (by rw [zu_n (by omega)])), (z3_n (by omega)).trans (t2.trans (by rw [zu_n (by omega)])), t3, t4, (z3_n (by omega)).trans t5, t6.trans (by rw [zu_n (by omega)]), (z3_n (by omega)).trans (t7.trans (by rw [zu_n (by omega)])), z3_s.trans (by rw [zu_s]), (z3_n (by omega)).trans (t9.trans (by rw [zu_n (by omega)])), (z3_n (by omega)).trans (t10.trans (by rw [zu_n (by omega)])), t11.trans (by rw [zu_n (by omega)]), t12.trans (by rw [zu_n (by omega)])⟩ (fun k i h => zu_n (by omega)) (fun _ _ => rfl) ⟨zu_n (by omega), zu_n (by omega)⟩
theorem RC.weight {e : Nat} (R : RC d c v u w) (hn : n < v 9 0) : RC d (kwI 1 n 7 (nI e) c) (zu v 6 n e) u w := by
  obtain ⟨t0, t1, t2, t3, t4, t5, t6, t7, t8, t9, t10, t11, t12⟩ := (R.t hn).2.2.2.2.1
  refine R.tI hn ⟨(z3_n (by omega)).trans t0, (z3_n (by omega)).trans (t1.trans (by rw [zu_n (by omega)])), (z3_n (by omega)).trans (t2.trans (by rw [zu_n (by omega)])), t3, t4, (z3_n (by omega)).trans t5, t6.trans (by rw [zu_n (by omega)]), z3_s.trans (by rw [zu_s]), (z3_n (by omega)).trans (t8.trans (by rw [zu_n (by omega)])), (z3_n (by omega)).trans (t9.trans (by rw [zu_n (by omega)])), (z3_n (by omega)).trans (t10.trans (by rw [zu_n (by omega)])), t11.trans (by rw [zu_n (by omega)]), t12.trans (by rw [zu_n (by omega)])⟩ (fun k i h => zu_n (by omega)) (fun _ _ => rfl) ⟨zu_n (by omega), zu_n (by omega)⟩
theorem RC.broken {e : Nat} (R : RC d c v u w) (hn : n < v 9 0) : RC d (kwI 1 n 9 (nI e) c) (zu v 8 n e) u w := by
  obtain ⟨t0, t1, t2, t3, t4, t5, t6, t7, t8, t9, t10, t11, t12⟩ := (R.t hn).2.2.2.2.1
  refine R.tI hn ⟨(z3_n (by omega)).trans t0, (z3_n (by omega)).trans (t1.trans (by rw [zu_n (by omega)])), (z3_n (by omega)).trans (t2.trans (by rw [zu_n (by omega)])), t3, t4, (z3_n (by omega)).trans t5, t6.trans (by rw [zu_n (by omega)]), (z3_n (by omega)).trans (t7.trans (by rw [zu_n (by omega)])), (z3_n (by omega)).trans (t8.trans (by rw [zu_n (by omega)])), z3_s.trans (by rw [zu_s]), (z3_n (by omega)).trans (t10.trans (by rw [zu_n (by omega)])), t11.trans (by rw [zu_n (by omega)]), t12.trans (by rw [zu_n (by omega)])⟩ (fun k i h => zu_n (by omega)) (fun _ _ => rfl) ⟨zu_n (by omega), zu_n (by omega)⟩
theorem RC.gone (R : RC d c v u w) (hn : n < v 9 0) : RC d (kwI 1 n 10 0 c) (zu v 7 n 1) u w := by
  obtain ⟨t0, t1, t2, t3, t4, t5, t6, t7, t8, t9, t10, t11, t12⟩ := (R.t hn).2.2.2.2.1
  refine R.tI hn ⟨(z3_n (by omega)).trans t0, (z3_n (by omega)).trans (t1.trans (by rw [zu_n (by omega)])), (z3_n (by omega)).trans (t2.trans (by rw [zu_n (by omega)])), t3, t4, (z3_n (by omega)).trans t5, t6.trans (by rw [zu_n (by omega)]), (z3_n (by omega)).trans (t7.trans (by rw [zu_n (by omega)])), (z3_n (by omega)).trans (t8.trans (by rw [zu_n (by omega)])), (z3_n (by omega)).trans (t9.trans (by rw [zu_n (by omega)])), z3_s.trans (by rw [zu_s]; rfl), t11.trans (by rw [zu_n (by omega)]), t12.trans (by rw [zu_n (by omega)])⟩ (fun k i h => zu_n (by omega)) (fun _ _ => rfl) ⟨zu_n (by omega), zu_n (by omega)⟩
theorem RC.mark {e : Int32} (R : RC d c v u w) (hn : n < v 9 0) : RC d (kwI 1 n 5 e c) v (zu u 2 n e) w := by
  obtain ⟨t0, t1, t2, t3, t4, t5, t6, t7, t8, t9, t10, t11, t12⟩ := (R.t hn).2.2.2.2.1
  exact R.tI hn ⟨(z3_n (by omega)).trans t0, (z3_n (by omega)).trans t1, (z3_n (by omega)).trans t2, t3, t4, z3_s.trans (by rw [zu_s]), t6, (z3_n (by omega)).trans t7, (z3_n (by omega)).trans t8, (z3_n (by omega)).trans t9, (z3_n (by omega)).trans t10, t11, t12⟩ (fun _ _ _ => rfl) (fun i hi => zu_n (by omega)) ⟨rfl, rfl⟩
theorem RC.named {e : Nat} (R : RC d c v u w) (hn : n < v 9 0) (he : e < v 9 0) (h0 : ∀ k, k < v 46 0 → v 42 (300 * k + n) ≠ 1) : RC d (kwQ 1 n 6 (some (1, e)) c) (zu v 5 n (e + 1)) u w := by
  obtain ⟨t0, t1, t2, t3, t4, t5, t6, t7, t8, t9, t10, t11, t12⟩ := (R.t hn).2.2.2.2.1
  refine R.tf (n := n) (R.1.wQ (R.t hn).1 (fun y hy => by cases hy; exact (R.t he).1)) (fun k hk => sm.rfl.Q (by omega)) (fun x i hx => ⟨rfl, z3_n (by omega)⟩) ⟨t0, t1.trans (by rw [zu_n (by omega)]), t2.trans (by rw [zu_n (by omega)]), (z3_n (by omega)).trans t3, (z3_n (by omega)).trans t4, t5, z3_s.trans (by rw [zu_s]; rfl), t7.trans (by rw [zu_n (by omega)]), t8.trans (by rw [zu_n (by omega)]), t9.trans (by rw [zu_n (by omega)]), t10.trans (by rw [zu_n (by omega)]), t11.trans (by rw [zu_n (by omega)]), t12.trans (by rw [zu_n (by omega)])⟩ (fun k i h => zu_n (by omega)) (fun _ _ => rfl) (Or.inr h0)
/-- counts -/
theorem RC.co {x i : Nat} {y : Int32} (R : RC d c v u w) (hl : lvd d k x) (hk : k = 108 ∨ k = 109 ∨ k = 110 ∨ (k = 100 ∧ (i = 11 ∨ i = 12))) (hv : ∀ k i, k ≠ 25 ∧ (k < 30 ∨ 33 < k) → v' k i = v k i) (hC : CO (kwI k x i y c) v') : RC d (kwI k x i y c) v' u w := by
  obtain ⟨R0, R1, R2, R3, R4, R5, R6, R7, R8⟩ := R
  have hs : ∀ k', k' ≠ k → sm k' c (kwI k x i y c) := fun k' h => sm.rfl.I h
  refine ⟨R0.wI hl, R1, R2.cg (fun _ _ _ => rfl) (fun _ _ => rfl), R3.cg (hs _ (by omega)) (hs _ (by omega)) (hs _ (by omega)) (hs _ (by omega)) (hs _ (by omega)) (hs _ (by omega)) (hs _ (by omega)) (fun _ _ _ => Iff.rfl) (fun k i hk => hv k i (by omega)) (fun _ => rfl) (fun _ => rfl), R4.cg (hs _ (by omega)) (hs _ (by omega)) (hs _ (by omega)) (fun _ => Iff.rfl) (fun k i hk => hv k i (by omega)), R5.cg (hs _ (by omega)) (hs _ (by omega)) (hs _ (by omega)) (fun _ => Iff.rfl) (fun k i hk => hv k i (by omega)), R6.cg (fun k hk => hs k (by omega)) (hs _ (by omega)) (z3_n (by omega)) (fun _ _ _ => Iff.rfl) (fun k i hk => hv k i (by omega)) (fun _ _ _ _ _ => ⟨hv _ _ (by omega), hv _ _ (by omega)⟩), hC, R8.cg (fun k hk => hs k (by omega)) (by rw [hv 9 0 (by omega)]; exact Nat.le_refl _)⟩
theorem e_refuse {i : Nat} {x : Int32} (R : RC d c v u w) (hi : i < 7) (hx : (-1) - x = nI i) : ∃ c', fX10_refuse (da d 100 0) x (cB d c) = some (x, cB d c') ∧ RC d c' (zu v 31 (i + 1) (v 31 (i + 1) + 1)) u w := by
  have hF := R.2.1
  have hX := R.2.2.1
  obtain ⟨h1, h2, h3, h4, h5⟩ := R.2.2.2.2.2.2.2.1
  have hN : cN c 109 0 = 7 := hX.2.2.2.2.2.2.2.1
  have hC : CO (kwI 109 0 i (nI (v 31 (i + 1) + 1)) c) (zu v 31 (i + 1) (v 31 (i + 1) + 1)) := by
    refine ⟨fun j hj => ?_, fun j hj => ?_, ?_, fun j hj => ?_, ?_⟩
    · rw [zu_n (by omega), ← h1 j hj]; first | exact rfl | exact z3_n (by omega)
    · by_cases e : j = i
      · subst e
        rw [zu_s]; exact z3_s
      · rw [zu_n (by omega), ← h2 j hj]; first | exact rfl | exact z3_n (by omega)
    · rw [zu_n (by omega), ← h3]; first | exact rfl | exact z3_n (by omega)
    · rw [zu_n (by omega)] at hj
      rw [zu_n (by omega), ← h4 j hj]; first | exact rfl | exact z3_n (by omega)
    · rw [zu_n (by omega), ← h5]; first | exact rfl | exact z3_n (by omega)
  refine ⟨_, ?_, R.co (f109 hF) (by omega) (fun k i h => zu_n (by omega)) hC⟩
  unfold fX10_refuse
  rw [hx, if_neg (nI_pos (by omega)), qa_100_5 hF hX, b1_s, qn_109 hF hX, b1_s, nI_ifle (by omega) (by omega), if_neg (by omega), b1_s, cxI (t := 12) (f109 hF) rfl (by rw [hN]; omega) (by omega), b1_s, h2 i hi, nI_1, cyI R.1.1 (f109 hF) rfl (by rw [hN]; omega) (by omega), b1_s]
theorem isHost_in {h : Nat} (hh : h < 8) : (if nI h < 0 ∨ nI 8 ≤ nI h then (0 : Int32) else 1) = 1 := by
  rw [if_neg]
  rw [nI_leI (by omega) (by omega)]
  rintro (h1 | h1)
  · exact nI_pos (by omega) h1
  · omega
theorem e_touch {h : Nat} (R : RC d c v u w) (hh : h < 8) : ∃ c', fX10_touch (da d 100 0) (nI h) (cB d c) = some ((), cB d c') ∧ RC d c' (zu v 30 h (v 30 h + 1)) u w := by
  have hF := R.2.1
  have hX := R.2.2.1
  obtain ⟨h1, h2, h3, h4, h5⟩ := R.2.2.2.2.2.2.2.1
  have hN : cN c 108 0 = 8 := hX.2.2.2.2.2.2.1
  have hC : CO (kwI 108 0 h (nI (v 30 h + 1)) c) (zu v 30 h (v 30 h + 1)) := by
    refine ⟨fun j hj => ?_, fun j hj => ?_, ?_, fun j hj => ?_, ?_⟩
    · by_cases e : j = h
      · subst e
        rw [zu_s]; exact z3_s
      · rw [zu_n (by omega), ← h1 j hj]; first | exact rfl | exact z3_n (by omega)
    · rw [zu_n (by omega), ← h2 j hj]; first | exact rfl | exact z3_n (by omega)
    · rw [zu_n (by omega), ← h3]; first | exact rfl | exact z3_n (by omega)
    · rw [zu_n (by omega)] at hj
      rw [zu_n (by omega), ← h4 j hj]; first | exact rfl | exact z3_n (by omega)
    · rw [zu_n (by omega), ← h5]; first | exact rfl | exact z3_n (by omega)
  refine ⟨_, ?_, R.co (f108 hF) (by omega) (fun k i h => zu_n (by omega)) hC⟩
  unfold fX10_touch
  rw [e_isHost, b2_s, isHost_in hh, if_neg (by decide), qa_100_4 hF hX, b1_s, qn_108 hF hX, b1_s, nI_ifle (by omega) (by omega), if_neg (by omega), b1_s, cxI (t := 12) (f108 hF) rfl (by rw [hN]; omega) (by omega), b1_s, h1 h hh, nI_1, cyI R.1.1 (f108 hF) rfl (by rw [hN]; omega) (by omega), b1_s]
theorem e_countOf {h : Nat} (R : RC d c v u w) (hh : h < 8) : fX10_countOf (da d 100 0) (nI h) (cB d c) = some (nI (v 30 h), cB d c) := by
  have hF := R.2.1
  have hX := R.2.2.1
  have hN : cN c 108 0 = 8 := hX.2.2.2.2.2.2.1
  unfold fX10_countOf
  rw [e_isHost, b2_s, isHost_in hh, if_neg (by decide), qa_100_4 hF hX, b1_s, qn_108 hF hX, b1_s, nI_ifle (by omega) (by omega), if_neg (by omega), b1_s, cxI (t := 12) (f108 hF) rfl (by rw [hN]; omega) (by omega), b1_s, R.2.2.2.2.2.2.2.1.1 h hh]
end MU
