section HO
variable {d d' : AD} {c c' : CH} {v v' : Nu} {u u' : Mu} {w w' : Me} {n m r t p k : Nat} {od : Nat → Nat}
/-- what one place holds changes -/
theorem TH.hold (h : TH d c v u w) (hI : iT v) (hn : n < v 9 0) (hp : p < v 3 n) (hd : ∀ k x, k ≠ 11 → k ≠ 12 → (lvd d' k x ↔ lvd d k x)) (hnr : ∃ nr, ∀ r, nr ≤ r → ¬ lvd d' 11 r ∧ ¬ lvd d' 12 r) (hs : ∀ k, k ≠ 2 → k ≠ 3 → k ≠ 11 → k ≠ 12 → sm k c c')
    (hN : ∀ x, cN c' 2 x = cN c 2 x ∧ cN c' 3 x = cN c 3 x) (hq : ∀ x i, ¬ (x = n ∧ i = p) → cQ c' 2 x i = cQ c 2 x i ∧ cQ c' 3 x i = cQ c 3 x i)
    (hrow : ∀ x i r, ¬ (x = n ∧ i = p) → cQ c 3 x i = some (11, r) → (∀ j, cI c' 11 r j = cI c 11 r j ∧ cQ c' 11 r j = cQ c 11 r j) ∧ cN c' 12 r = cN c 12 r ∧ ∀ j, cJ c' 12 r j = cJ c 12 r j)
    (hP : PL c' v' w' n p) (hv : ∀ k i, k ≤ 12 → ¬ (10 ≤ k ∧ i = 8 * n + p) → v' k i = v k i) (hw : ∀ i, (i < 32 * (8 * n + p) ∨ 32 * (8 * n + p) + 32 ≤ i) → w' 13 i = w 13 i)
    (huq : ∀ r n' p', cQ c' 3 n p = some (11, r) → cQ c' 3 n' p' = some (11, r) → n' = n ∧ p' = p) : TH d' c' v' u w' := by
  obtain ⟨a1, a2, a3, a4, a5⟩ := h
  have e9 : v' 9 0 = v 9 0 := hv 9 0 (by decide) (by omega)
  refine ⟨by rw [(hs 101 (by decide) (by decide) (by decide) (by decide)).1, e9]; exact a1, fun x hx => ?_, fun x hx => ?_, ?_, hnr⟩
  · rw [e9] at hx
    obtain ⟨b1, b2, b3, b4, b5, b6⟩ := a2 x hx
    have hs1 := hs 1 (by decide) (by decide) (by decide) (by decide)
    have b3' := (hI.2 x hx).2.2.1
    have bn := (hI.2 n hn).2.2.1
    refine ⟨(hd 1 x (by decide) (by decide)).mpr b1, (hd 2 x (by decide) (by decide)).mpr b2, (hd 3 x (by decide) (by decide)).mpr b3, by rw [(hs 102 (by decide) (by decide) (by decide) (by decide)).2.1]; exact b4, ?_, fun i hi => ?_⟩
    · simp only [TF, hs1.1, hs1.2.1, (hN x).1, (hN x).2, hv 0 x (by decide) (by omega), hv 1 x (by decide) (by omega), hv 3 x (by decide) (by omega), hv 4 x (by decide) (by omega), hv 5 x (by decide) (by omega), hv 6 x (by decide) (by omega), hv 7 x (by decide) (by omega), hv 8 x (by decide) (by omega)]
      exact b5
    · rw [hv 3 x (by decide) (by omega)] at hi
      by_cases e : x = n ∧ i = p
      · rw [e.1, e.2]; exact hP
      · have hne : 8 * x + i ≠ 8 * n + p := by omega
        obtain ⟨q1, q2⟩ := hq x i e
        rcases b6 i hi with ⟨z1, z2, z3'⟩ | ⟨z1, z2, z3'⟩ | ⟨z1, z2, r, z3', z4, z5, z6, z7⟩
        · left
          rw [q1, q2, hv 10 _ (by decide) (by omega)]
          exact ⟨z1, z2, z3'⟩
        · right; left
          rw [q1, q2, hv 10 _ (by decide) (by omega), hv 11 _ (by decide) (by omega)]
          exact ⟨z1, z2, z3'⟩
        · right; right
          obtain ⟨y1, y2, y3⟩ := hrow x i r e z3'
          have hsz := ((hI.2 x hx).2.2.2.2.2.2.2.2.2.2.2.2 i hi).2.2 z1
          rw [q1, q2, hv 10 _ (by decide) (by omega), hv 11 _ (by decide) (by omega), hv 12 _ (by decide) (by omega)]
          refine ⟨z1, z2, r, z3', by rw [(y1 0).1]; exact z4, by rw [(y1 1).2]; exact z5, by rw [y2]; exact z6, fun j hj => ?_⟩
          rw [y3, hw _ (by omega)]
          exact z7 j hj
  · rw [e9] at hx
    obtain ⟨y1, y2, y3⟩ := a3 x hx
    exact ⟨fun h => y1 ((hd 1 x (by decide) (by decide)).mp h), fun h => y2 ((hd 2 x (by decide) (by decide)).mp h), fun h => y3 ((hd 3 x (by decide) (by decide)).mp h)⟩
  · intro x i x' i' r h1 h2
    by_cases e : x = n ∧ i = p
    · rw [e.1, e.2] at h1
      obtain ⟨y1, y2⟩ := huq r x' i' h1 h2
      rw [e.1, e.2, y1, y2]
      exact ⟨rfl, rfl⟩
    · by_cases e' : x' = n ∧ i' = p
      · rw [e'.1, e'.2] at h2
        obtain ⟨y1, y2⟩ := huq r x i h2 h1
        rw [e'.1, e'.2, y1, y2]
        exact ⟨rfl, rfl⟩
      · rw [(hq x i e).2] at h1
        rw [(hq x' i' e').2] at h2
        exact a4 x i x' i' r h1 h2
theorem RC.hold (R : RC d c v u w) (hI : iT v) (hn : n < v 9 0) (hp : p < v 3 n) (hw' : WF d' c') (hE : Ex d d') (hd : ∀ k x, k ≠ 11 → k ≠ 12 → (lvd d' k x ↔ lvd d k x)) (hnr : ∃ nr, ∀ r, nr ≤ r → ¬ lvd d' 11 r ∧ ¬ lvd d' 12 r) (hs : ∀ k, k ≠ 2 → k ≠ 3 → k ≠ 11 → k ≠ 12 → sm k c c')
    (hN : ∀ x, cN c' 2 x = cN c 2 x ∧ cN c' 3 x = cN c 3 x) (hq : ∀ x i, ¬ (x = n ∧ i = p) → cQ c' 2 x i = cQ c 2 x i ∧ cQ c' 3 x i = cQ c 3 x i)
    (hrow : ∀ x i r, ¬ (x = n ∧ i = p) → cQ c 3 x i = some (11, r) → (∀ j, cI c' 11 r j = cI c 11 r j ∧ cQ c' 11 r j = cQ c 11 r j) ∧ cN c' 12 r = cN c 12 r ∧ ∀ j, cJ c' 12 r j = cJ c 12 r j)
    (hP : PL c' v' w' n p) (hv : ∀ k i, ¬ (10 ≤ k ∧ k ≤ 12 ∧ i = 8 * n + p) → v' k i = v k i) (hw : ∀ i, (i < 32 * (8 * n + p) ∨ 32 * (8 * n + p) + 32 ≤ i) → w' 13 i = w 13 i)
    (huq : ∀ r n' p', cQ c' 3 n p = some (11, r) → cQ c' 3 n' p' = some (11, r) → n' = n ∧ p' = p) : RC d' c' v' u w' := by
  obtain ⟨-, R1, R2, R3, R4, R5, R6, R7, R8⟩ := R
  have hs' : ∀ k, 4 ≤ k → k ≠ 11 → k ≠ 12 → sm k c c' := fun k h1 h2 h3 => hs k (by omega) (by omega) h2 h3
  refine ⟨hw', R1.ex hE, R2.cg (fun k i hk => (hs' k (by simp only [fixS] at hk; omega) (by simp only [fixS] at hk; omega) (by simp only [fixS] at hk; omega)).2.1 0 i) (fun k hk => (hs' k (by omega) (by omega) (by omega)).2.2.2 0), R3.hold hI hn hp hd hnr hs hN hq hrow hP (fun k i h1 h2 => hv k i (by omega)) hw huq, R4.cg (hs' _ (by decide) (by decide) (by decide)) (hs' _ (by decide) (by decide) (by decide)) (hs' _ (by decide) (by decide) (by decide)) (fun x => hd 4 x (by decide) (by decide)) (fun k i hk => hv k i (by omega)), R5.cg (hs' _ (by decide) (by decide) (by decide)) (hs' _ (by decide) (by decide) (by decide)) (hs' _ (by decide) (by decide) (by decide)) (fun x => hd 10 x (by decide) (by decide)) (fun k i hk => hv k i (by omega)), R6.cg (fun k hk => hs' k (by omega) (by omega) (by omega)) (hs' _ (by decide) (by decide) (by decide)) ((hs' 100 (by decide) (by decide) (by decide)).1 0 10) (fun k x h => hd k x (by omega) (by omega)) (fun k i hk => hv k i (by omega)) (fun _ _ _ _ _ => ⟨hv _ _ (by omega), hv _ _ (by omega)⟩), R7.cg (hs' _ (by decide) (by decide) (by decide)) (hs' _ (by decide) (by decide) (by decide)) (hs' _ (by decide) (by decide) (by decide)) ((hs' 100 (by decide) (by decide) (by decide)).1 0 11) ((hs' 100 (by decide) (by decide) (by decide)).1 0 12) (fun k i hk => hv k i (by omega)), R8.cg (fun k hk => hs' k (by omega) (by omega) (by omega)) (by rw [hv 9 0 (by omega)]; exact Nat.le_refl _)⟩
theorem RC.nr (R : RC d c v u w) : ∃ nr, ∀ r, nr ≤ r → ¬ lvd d 11 r ∧ ¬ lvd d 12 r := R.2.2.2.1.2.2.2.2
/-- what a place holds is a thing, or nothing -/
theorem e_holdThing (q : Option Nat) (R : RC d c v u w) (hI : iT v) (hn : n < v 9 0) (hp : p < v 3 n) (hq : ∀ t, q = some t → t < v 9 0) (hv : ∀ k i, ¬ (10 ≤ k ∧ k ≤ 12 ∧ i = 8 * n + p) → v' k i = v k i) (hv1 : ∀ t, q = some t → v' 10 (8 * n + p) = 1 ∧ v' 11 (8 * n + p) = t) (hv0 : q = none → v' 10 (8 * n + p) = 0) : ∃ c', fX5_holdThing (da d 1 n) (nI p) (q.map (da d 1)) (cB d c) = some ((), cB d c') ∧ RC d c' v' u w := by
  obtain ⟨l1, l2, l3, -, ⟨t0, t1, t2, t3, t4, t5, t6, t7, t8, t9, t10, t11, t12⟩, hpl⟩ := R.t hn
  have b3 := (hI.2 n hn).2.2.1
  have hA := R.1.1
  refine ⟨kwQ 3 n p none (kwQ 2 n p (q.map (fun t => (1, t))) c), ?_, R.hold hI hn hp ?_ Ex.rfl (fun _ _ _ _ => Iff.rfl) R.nr (fun k h2 h3 _ _ => (sm.rfl.Q h2).Q h3) (fun x => ⟨rfl, rfl⟩) (fun x i h => ⟨?_, ?_⟩) (fun _ _ _ _ _ => ⟨fun _ => ⟨rfl, rfl⟩, rfl, fun _ => rfl⟩) ?_ hv (fun _ _ => rfl) ?_⟩
  · unfold fX5_holdThing
    rw [ctg (t := 5) l1 rfl, b1_s, e_hasPlace R hn b3 hp, b2_s, if_neg (by decide), cgA (t := 5) l1 rfl t3, b1_s]
    dsimp only
    rw [cyP (t := 17) (e := 5) (q.map (fun t => (1, t))) hA l2 rfl (by rw [t11]; exact hp) (by omega) (by cases q <;> rfl) (fun y hy => by
      cases q with
      | none => cases hy
      | some t => cases hy; exact ⟨(R.t (hq t rfl)).1, rfl⟩), b1_s]
    have t4' : cQ (kwQ 2 n p (q.map (fun t => (1, t))) c) 1 n 4 = some (3, n) := t4
    rw [cgA (t := 5) l1 rfl t4', b1_s]
    dsimp only
    rw [cyP (t := 16) (e := 4) (r := none) none hA l3 rfl (by show p < c.2.2.2 3 n; rw [show c.2.2.2 3 n = v 3 n from t12]; exact hp) (by omega) rfl (fun y hy => by cases hy), b1_s]
  · refine (R.1.wQ l2 (fun y hy => ?_)).wQ l3 (fun y hy => by cases hy)
    cases q with
    | none => cases hy
    | some t => cases hy; exact (R.t (hq t rfl)).1
  · exact z3_n (f := c.2.2.1) (by omega)
  · exact z3_n (f := c.2.2.1) (by omega)
  · cases q with
    | none => exact Or.inl ⟨hv0 rfl, z3_s (f := c.2.2.1), z3_s⟩
    | some t =>
      obtain ⟨y1, y2⟩ := hv1 t rfl
      exact Or.inr (Or.inl ⟨y1, (z3_s (f := c.2.2.1)).trans (by rw [y2]; rfl), z3_s⟩)
  · intro r n' p' h1
    have : cQ (kwQ 3 n p none (kwQ 2 n p (q.map (fun t => (1, t))) c)) 3 n p = none := z3_s
    rw [this] at h1
    cases h1
end HO
