/-! What is not touched stays. -/
/-- a loop that counts up -/
theorem zlp {σ β : Type} {F : Nat → Int32 → σ → β} (P : Nat → σ → Prop) (Q : β → Prop) {N : Nat} (step : ∀ n k s, k < N → P k s → (∃ s', F (n + 1) (nI k) s = F n (nI (k + 1)) s' ∧ P (k + 1) s') ∨ Q (F (n + 1) (nI k) s)) (done : ∀ n s, P N s → Q (F (n + 1) (nI N) s)) : ∀ (m n k : Nat) (s : σ), k + m = N → m < n → P k s → Q (F n (nI k) s) := by
  intro m
  induction m with
  | zero =>
    intro n k s h1 h2 hP
    obtain ⟨n, rfl⟩ : ∃ n', n = n' + 1 := ⟨n - 1, by omega⟩
    have e : k = N := by omega
    subst e
    exact done n s hP
  | succ m ih =>
    intro n k s h1 h2 hP
    obtain ⟨n, rfl⟩ : ∃ n', n = n' + 1 := ⟨n - 1, by omega⟩
    rcases step n k s (by omega) hP with ⟨s', e, hP'⟩ | h
    · rw [e]
      exact ih n (k + 1) s' (by omega) (by omega) hP'
    · exact h
/-- cells of a sort are the same -/
def sm (k : Nat) (c c' : CH) : Prop := (∀ x i, cI c' k x i = cI c k x i) ∧ (∀ x i, cQ c' k x i = cQ c k x i) ∧ (∀ x i, cJ c' k x i = cJ c k x i) ∧ ∀ x, cN c' k x = cN c k x
theorem sm.rfl {k : Nat} {c : CH} : sm k c c := ⟨fun _ _ => Eq.refl _, fun _ _ => Eq.refl _, fun _ _ => Eq.refl _, fun _ => Eq.refl _⟩
theorem sm.trans {k : Nat} {a b c : CH} (h1 : sm k a b) (h2 : sm k b c) : sm k a c := ⟨fun x i => (h2.1 x i).trans (h1.1 x i), fun x i => (h2.2.1 x i).trans (h1.2.1 x i), fun x i => (h2.2.2.1 x i).trans (h1.2.2.1 x i), fun x => (h2.2.2.2 x).trans (h1.2.2.2 x)⟩
section FR
variable {d d' : AD} {c c' : CH} {v v' : Nu} {u u' : Mu} {w w' : Me}
theorem z3_n {α : Type} {f : Nat → Nat → Nat → α} {k x i k' x' i' : Nat} {y : α} (h : ¬ (k' = k ∧ x' = x ∧ i' = i)) : z3 f k x i y k' x' i' = f k' x' i' := by simp only [z3, if_neg h]
theorem z3_s {α : Type} {f : Nat → Nat → Nat → α} {k x i : Nat} {y : α} : z3 f k x i y k x i = y := by simp [z3]
theorem sm.I {k k' x i : Nat} {y : Int32} (h : sm k' c c') (hk : k' ≠ k) : sm k' c (kwI k x i y c') := h.trans ⟨fun _ _ => z3_n (by omega), fun _ _ => Eq.refl _, fun _ _ => Eq.refl _, fun _ => Eq.refl _⟩
theorem sm.L {k k' x i : Nat} {y : Int64} (h : sm k' c c') (hk : k' ≠ k) : sm k' c (kwL k x i y c') := h.trans ⟨fun _ _ => Eq.refl _, fun _ _ => Eq.refl _, fun _ _ => z3_n (by omega), fun _ => Eq.refl _⟩
theorem sm.Q {k k' x i : Nat} {y : Option (Nat × Nat)} (h : sm k' c c') (hk : k' ≠ k) : sm k' c (kwQ k x i y c') := h.trans ⟨fun _ _ => Eq.refl _, fun _ _ => z3_n (by omega), fun _ _ => Eq.refl _, fun _ => Eq.refl _⟩
theorem sm.N {k k' x n : Nat} (h : sm k' c c') (hk : k' ≠ k) : sm k' c (kwN k x n c') := h.trans ⟨fun _ _ => Eq.refl _, fun _ _ => Eq.refl _, fun _ _ => Eq.refl _, fun _ => zu_n (by omega)⟩
theorem Scc.sm {r k : Nat} (h : Scc r c c') (hk : k ≠ r ∧ k ≠ r + 1 ∧ k ≠ r + 2) : sm k c c' := ⟨fun x i => h.1 k x i hk.1 hk.2.1, fun x i => h.2.1 k x i hk.2.2, fun x i => by show c'.2.1 k x i = c.2.1 k x i; rw [h.2.2.1], fun x => by show c'.2.2.2 k x = c.2.2.2 k x; rw [h.2.2.2]⟩
/-- what is there, is there again and lies where it lay -/
def Ex (d d' : AD) : Prop := ∀ k x, lvd d k x → da d' k x = da d k x ∧ lvd d' k x
theorem Ex.rfl : Ex d d := fun _ _ h => ⟨Eq.refl _, h⟩
theorem Ex.trans {d2 : AD} (h1 : Ex d d') (h2 : Ex d' d2) : Ex d d2 := fun k x h => ⟨(h2 k x (h1 k x h).2).1.trans (h1 k x h).1, (h2 k x (h1 k x h).2).2⟩
theorem Ex.new {k0 x0 : Nat} (hA : AI d') (hn : ¬ lvd d' k0 x0) (h : Ex d d') : Ex d (dnew k0 x0 d') := h.trans (fun _ _ hl => dnew_old hA hn hl)
theorem FL.ex (h : FL d) (he : Ex d d') : FL d' := fun j hj => (he _ _ (h j hj)).2
/-- the object's fields that refer -/
abbrev fixS (k : Nat) : Prop := k = 100 ∨ k = 101 ∨ k = 103 ∨ k = 105 ∨ k = 111 ∨ k = 114 ∨ k = 117 ∨ k = 118
theorem FX.cg (h : FX c) (h1 : ∀ k i, fixS k → cQ c' k 0 i = cQ c k 0 i) (h2 : ∀ k, 100 ≤ k → cN c' k 0 = cN c k 0) : FX c' := by
  simp only [FX]
  simp only [h1 100 _ (by decide), h1 101 _ (by decide), h1 103 _ (by decide), h1 105 _ (by decide), h1 111 _ (by decide), h1 114 _ (by decide), h1 117 _ (by decide), h1 118 _ (by decide)]
  simp (disch := decide) only [h2]
  exact h
theorem TH.cg (h : TH d c v u w) (h1 : sm 1 c c') (h2 : sm 2 c c') (h3 : sm 3 c c') (h4 : sm 11 c c') (h5 : sm 12 c c') (h6 : sm 101 c c') (h7 : sm 102 c c') (hd : ∀ k x, (k = 1 ∨ k = 2 ∨ k = 3 ∨ k = 11 ∨ k = 12) → (lvd d' k x ↔ lvd d k x)) (hv : ∀ k i, k ≤ 12 → v' k i = v k i) (hu : ∀ i, u' 2 i = u 2 i) (hw : ∀ i, w' 13 i = w 13 i) : TH d' c' v' u' w' := by
  simp only [TH, TF, PL, h1.1, h1.2.1, h2.2.1, h2.2.2.2, h3.2.1, h3.2.2.2, h4.1, h4.2.1, h5.2.2.1, h5.2.2.2, h6.1, h7.2.1, hd 1 _ (by decide), hd 2 _ (by decide), hd 3 _ (by decide), hd 11 _ (by decide), hd 12 _ (by decide), hu, hw]
  simp (disch := decide) only [hv]
  exact h
theorem LE.cg (h : LE d c v) (h1 : sm 4 c c') (h2 : sm 103 c c') (h3 : sm 104 c c') (hd : ∀ x, lvd d' 4 x ↔ lvd d 4 x) (hv : ∀ k i, 14 ≤ k ∧ k ≤ 24 → v' k i = v k i) : LE d' c' v' := by
  simp only [LE, LF, h1.1, h1.2.1, h2.1, h3.2.1, hd]
  simp (disch := decide) only [hv]
  exact h
theorem WA.cg (h : WA d c v) (h1 : sm 10 c c') (h2 : sm 105 c c') (h3 : sm 106 c c') (hd : ∀ x, lvd d' 10 x ↔ lvd d 10 x) (hv : ∀ k i, 26 ≤ k ∧ k ≤ 29 → v' k i = v k i) : WA d' c' v' := by
  simp only [WA, h1.1, h1.2.1, h2.1, h3.2.1, hd]
  simp (disch := decide) only [hv]
  exact h
theorem CO.cg (h : CO c v) (h1 : sm 108 c c') (h2 : sm 109 c c') (h3 : sm 110 c c') (h4 : cI c' 100 0 11 = cI c 100 0 11) (h5 : cI c' 100 0 12 = cI c 100 0 12) (hv : ∀ k i, k = 25 ∨ (30 ≤ k ∧ k ≤ 33) → v' k i = v k i) : CO c' v' := by
  simp only [CO, h1.1, h2.1, h3.1, h4, h5]
  simp (disch := decide) only [hv]
  exact h
theorem fb_ct_300 {p q : Nat → Bool} (h : ∀ n, n < 300 → p n = q n) : fb_ct p 300 = fb_ct q 300 := fb_ct_cong h
theorem WK.cg (h : WK d c v) (hs : ∀ k, 5 ≤ k ∧ k ≤ 9 → sm k c c') (h4 : sm 107 c c') (h5 : cI c' 100 0 10 = cI c 100 0 10) (hd : ∀ k x, 5 ≤ k ∧ k ≤ 9 → (lvd d' k x ↔ lvd d k x)) (hv : ∀ k i, 37 ≤ k → v' k i = v k i) (hp : ∀ k n, k < v 46 0 → n < 300 → v' 42 (300 * k + n) = 1 → v' 0 n = v 0 n ∧ v' 5 n = v 5 n) : WK d' c' v' := by
  have g1 : ∀ k n, k < v 46 0 → n < 300 → pas v' k n = pas v k n ∧ met v' k n = met v k n ∧ (met v' k n = true → v' 5 n = v 5 n) := by
    intro k n hk hn
    simp only [pas, met]
    rw [hv 42 _ (by decide)]
    by_cases e : v 42 (300 * k + n) = 1
    · obtain ⟨a1, a2⟩ := hp k n hk hn (by rw [hv 42 _ (by decide)]; exact e)
      rw [a1]
      exact ⟨rfl, rfl, fun _ => a2⟩
    · have e1 : (v 42 (300 * k + n) == 1) = false := by simpa using e
      rw [e1]
      exact ⟨rfl, rfl, fun h => by simp at h⟩
  obtain ⟨h1, h2, h3⟩ := h
  refine ⟨by rw [h5, hv 46 0 (by decide)]; exact h1, fun k hk => ?_, fun k hk => ?_⟩
  · rw [hv 46 0 (by decide)] at hk
    obtain ⟨a1, a2, a3, a4, a5, a6, a7⟩ := h2 k hk
    rw [hd 5 k (by decide), hd 6 k (by decide), hd 7 k (by decide), hd 8 k (by decide), hd 9 k (by decide), h4.2.1]
    refine ⟨a1, a2, a3, a4, a5, a6, ?_⟩
    have e1 : fb_ct (pas v' k) 300 = fb_ct (pas v k) 300 := fb_ct_cong (fun n hn => (g1 k n hk hn).1)
    have e2 : fb_ct (met v' k) 300 = fb_ct (met v k) 300 := fb_ct_cong (fun n hn => (g1 k n hk hn).2.1)
    have e3 : ∀ t, mew v' k t = mew v k t := by
      intro t
      refine fb_sm_cong (fun g hg => ?_)
      obtain ⟨b1, b2, b3⟩ := g1 k g hk hg
      simp only [b2]
      by_cases e : met v k g = true
      · rw [b3 (by rw [b2]; exact e), hv 44 _ (by decide)]
      · rw [if_neg (fun h => e h.1), if_neg (fun h => e h.1)]
    obtain ⟨b1, b2, b3, b4⟩ := a7
    refine ⟨?_, ?_, ?_, ?_⟩
    · simp only [(hs 5 (by decide)).1, (hs 5 (by decide)).2.1, e1, e2]
      simp (disch := decide) only [hv]
      exact b1
    · rw [(hs 6 (by decide)).2.2.2, (hs 7 (by decide)).2.2.2, (hs 8 (by decide)).2.2.2, (hs 9 (by decide)).2.2.2]
      exact b2
    · intro n hn
      rw [(hs 6 (by decide)).1, (hs 7 (by decide)).1, (hs 8 (by decide)).1, e3, (g1 k n hk hn).1, (g1 k n hk hn).2.1]
      exact b3 n hn
    · intro h hh
      rw [(hs 9 (by decide)).1, hv 41 _ (by decide)]
      exact b4 h hh
  · rw [hv 46 0 (by decide)] at hk
    rw [hd 5 k (by decide), hd 6 k (by decide), hd 7 k (by decide), hd 8 k (by decide), hd 9 k (by decide)]
    exact h3 k hk
theorem SR.cg {r nT nT' m : Nat} {od : Nat → Nat} (h : SR c r nT m od) (h1 : sm r c c') (h2 : sm (r + 1) c c') (h3 : sm (r + 2) c c') (hn : nT ≤ nT') : SR c' r nT' m od := by
  obtain ⟨a1, a2, a3, a4, a5⟩ := h
  refine ⟨a1, by rw [h1.1]; exact a2, fun i hi => ⟨by have := (a3 i hi).1; omega, by rw [h3.2.1]; exact (a3 i hi).2⟩, a4, fun n hn => ?_⟩
  rw [h2.1]
  exact a5 n hn
theorem SX.cg {nT nT' : Nat} (h : SX c nT) (hs : ∀ k, 111 ≤ k ∧ k ≤ 121 → sm k c c') (hn : nT ≤ nT') : SX c' nT' := by
  obtain ⟨⟨m1, o1, s1⟩, ⟨m2, o2, s2⟩, ⟨m3, o3, s3⟩, s4, s5⟩ := h
  refine ⟨⟨m1, o1, s1.cg (hs _ (by decide)) (hs _ (by decide)) (hs _ (by decide)) hn⟩, ⟨m2, o2, s2.cg (hs _ (by decide)) (hs _ (by decide)) (hs _ (by decide)) hn⟩, ⟨m3, o3, s3.cg (hs _ (by decide)) (hs _ (by decide)) (hs _ (by decide)) hn⟩, ?_, fun n hn => ?_⟩
  · rw [(hs 117 (by decide)).1]; exact s4
  · rw [(hs 121 (by decide)).1]; exact s5 n hn
/-- the class's sets change, nothing else -/
theorem RC.sc {r m : Nat} {od : Nat → Nat} (R : RC d c v u w) (hr : r = 111 ∨ r = 114 ∨ r = 118) (hs : Scc r c c') (hw : WF d c') (hS : SR c' r (v 9 0) m od) : RC d c' v u w := by
  obtain ⟨-, R1, R2, R3, R4, R5, R6, R7, R8⟩ := R
  have g : ∀ k, k < 111 → sm k c c' := fun k hk => hs.sm (by omega)
  refine ⟨hw, R1, R2.cg (fun k i hk => ?_) (fun k _ => ?_), R3.cg (g _ (by decide)) (g _ (by decide)) (g _ (by decide)) (g _ (by decide)) (g _ (by decide)) (g _ (by decide)) (g _ (by decide)) (fun _ _ _ => Iff.rfl) (fun _ _ _ => rfl) (fun _ => rfl) (fun _ => rfl), R4.cg (g _ (by decide)) (g _ (by decide)) (g _ (by decide)) (fun _ => Iff.rfl) (fun _ _ _ => rfl), R5.cg (g _ (by decide)) (g _ (by decide)) (g _ (by decide)) (fun _ => Iff.rfl) (fun _ _ _ => rfl), R6.cg (fun k hk => g k (by omega)) (g _ (by decide)) ((g 100 (by decide)).1 0 10) (fun _ _ _ => Iff.rfl) (fun _ _ _ => rfl) (fun _ _ _ _ _ => ⟨rfl, rfl⟩), R7.cg (g _ (by decide)) (g _ (by decide)) (g _ (by decide)) ((g 100 (by decide)).1 0 11) ((g 100 (by decide)).1 0 12) (fun _ _ _ => rfl), ?_⟩
  · refine hs.2.1 k 0 i ?_
    simp only [fixS] at hk
    omega
  · show c'.2.2.2 k 0 = c.2.2.2 k 0
    rw [hs.2.2.2]
  · obtain ⟨⟨m1, o1, s1⟩, ⟨m2, o2, s2⟩, ⟨m3, o3, s3⟩, s4, s5⟩ := R8
    rcases hr with rfl | rfl | rfl
    · exact ⟨⟨m, od, hS⟩, ⟨m2, o2, s2.cg (hs.sm (by omega)) (hs.sm (by omega)) (hs.sm (by omega)) (Nat.le_refl _)⟩, ⟨m3, o3, s3.cg (hs.sm (by omega)) (hs.sm (by omega)) (hs.sm (by omega)) (Nat.le_refl _)⟩, by rw [(hs.sm (k := 117) (by omega)).1]; exact s4, fun n hn => by rw [(hs.sm (k := 121) (by omega)).1]; exact s5 n hn⟩
    · exact ⟨⟨m1, o1, s1.cg (hs.sm (by omega)) (hs.sm (by omega)) (hs.sm (by omega)) (Nat.le_refl _)⟩, ⟨m, od, hS⟩, ⟨m3, o3, s3.cg (hs.sm (by omega)) (hs.sm (by omega)) (hs.sm (by omega)) (Nat.le_refl _)⟩, by rw [(hs.sm (k := 117) (by omega)).1]; exact s4, fun n hn => by rw [(hs.sm (k := 121) (by omega)).1]; exact s5 n hn⟩
    · exact ⟨⟨m1, o1, s1.cg (hs.sm (by omega)) (hs.sm (by omega)) (hs.sm (by omega)) (Nat.le_refl _)⟩, ⟨m2, o2, s2.cg (hs.sm (by omega)) (hs.sm (by omega)) (hs.sm (by omega)) (Nat.le_refl _)⟩, ⟨m, od, hS⟩, by rw [(hs.sm (k := 117) (by omega)).1]; exact s4, fun n hn => by rw [(hs.sm (k := 121) (by omega)).1]; exact s5 n hn⟩
end FR
