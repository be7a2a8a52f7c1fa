/-! A STEP: what holds between calls goes on. -/
section SI
variable {v v' s : Nu} {u u' : Mu} {w w' : Me} {n q z t k x h g y l rt : Nat} {D : Nat → Prop} {L M : Nat → Bool} {rts : Nat → Nat}
theorem Inv.camew (hI : Inv D n v u w) (hl : l < v 24 0) (h23 : v 23 l = 1) (h14 : 4 ≤ v 14 l) : Inv D n (zu v 23 l 0) u w := by
  obtain ⟨hT, hF, hL, hW, hC, hK, hX, hS, hG, hQ, hM⟩ := hI
  obtain ⟨o1, o2, o3, o4, o5, o6, o7, o8, o9, o10, o11, o12, -⟩ := hL.2.1 l hl
  refine ⟨hT, hF, hL.came, hW, hC, hK, hX, fun s hs h3 => ?_, hG, fun g s => ?_, hM.came⟩
  · obtain ⟨s1, s2⟩ := hS s hs h3
    have q3 := lsum_23 (s := s) hl h23
    rw [o12 (Or.inr h14)] at q3
    have q4 : (if v 17 l = s then 0 else 0 : Nat) = 0 := by split <;> rfl
    rw [q4] at q3
    have q1 : gsum (zu v 23 l 0) s = gsum v s := rfl
    have q2 : zu v 23 l 0 4 s = v 4 s := rfl
    rw [q1, q2]
    omega
  · have q3 := qlet_23 (hh := g) (s := s) hl
    rw [if_neg (fun h => by have := (qlet_iff.mp h).2.2; omega)] at q3
    exact q3.trans (hQ g s)
theorem Inv.p41 (hI : Inv D n v u w) (hk : k < v 46 0) (hh : h < 8) (h37 : v 37 k = 0) (h0 : v 41 (8 * k + h) = 0) : Inv D n (zu v 41 (8 * k + h) (v 30 h + 1)) u w := by
  obtain ⟨hT, hF, hL, hW, hC, hK, hX, hS, hG, hQ, hM⟩ := hI
  refine ⟨hT, hF, hL, hW, hC, ⟨hK.1, fun k' hk' => ?_, hK.2.2⟩, hX, hS, hG, hQ, hM⟩
  obtain ⟨a1, a2, a3, a4, a5, a6, a7, a8⟩ := hK.2.1 k' hk'
  refine ⟨a1, a2, a3, a4, a5, a6, fun g hg => ?_, fun e37 => ⟨(a8 e37).1, fun x hx hx2 => ?_⟩⟩
  · by_cases e : 8 * k' + g = 8 * k + h
    · have : g = h := by omega
      rw [e, zu_s, this]
      exact Nat.le_refl _
    · rw [zu_n (by omega)]
      exact a7 g hg
  · have hg := (hT.k ((a6 x hx).2.2.2 hx2)).2.1
    obtain ⟨b1, b2⟩ := (a8 e37).2 x hx hx2
    have e1 : zu v 41 (8 * k + h) (v 30 h + 1) 1 x = v 1 x := rfl
    rw [e1]
    by_cases e : 8 * k' + v 1 x = 8 * k + h
    · rw [e] at b1
      exact absurd h0 b1
    · rw [zu_n (by omega)]
      exact ⟨b1, b2⟩
theorem ntv_n {f i : Nat} (h : ¬ (42 ≤ f ∧ f ≤ 44 ∧ i = 300 * k + x)) : ntv v k x rt f i = v f i := by
  simp only [ntv]
  rw [zu_n (by omega), zu_n (by omega), zu_n (by omega)]
theorem ntv_at : ntv v k x rt 42 (300 * k + x) = 1 ∧ ntv v k x rt 43 (300 * k + x) = rt ∧ ntv v k x rt 44 (300 * k + x) = (if v 0 x = 3 then v 6 x else v 4 x) := by
  refine ⟨?_, ?_, ?_⟩ <;> simp [ntv, zu]
/-- a thing is noted -/
theorem Inv.note (hI : Inv D n v u w) (hk : k < v 46 0) (hx : x < v 9 0) (h7 : v 7 x = 0) (h37 : v 37 k = 0) (h42 : v 42 (300 * k + x) = 0) (h41 : v 41 (8 * k + v 1 x) ≠ 0) (hrt : rt ≤ 1) (hr : rt = 1 ↔ Rtd v x) (hw : ∀ i, ¬ slot k x i → w' 45 i = w 45 i) (hbits : ∀ y, y < 300 → (hbt w' k x y = true ↔ Held v x y)) : Inv D n (ntv v k x rt) u w' := by
  obtain ⟨hT, hF, hL, hW, hC, hK, hX, hS, hG, hQ, hM⟩ := hI
  have hb := hT.1
  have hb20 := hK.1
  obtain ⟨n42, n43, n44⟩ := ntv_at (v := v) (k := k) (x := x) (rt := rt)
  have ek : ∀ k' x', x' < 300 → (k' ≠ k ∨ x' ≠ x) → 300 * k' + x' ≠ 300 * k + x := fun k' x' h1 h2 => by
    omega
  have hbt' : ∀ k' x' y', x' < 300 → y' < 300 → (k' ≠ k ∨ x' ≠ x) → hbt w' k' x' y' = hbt w k' x' y' := fun k' x' y' h1 h2 h3 => by
    simp only [hbt]
    rw [hw _ (fun ⟨j1, j2⟩ => ek k' x' h1 h3 (by omega))]
  refine ⟨hT, fun t h1 h2 => ?_, hL, hW, hC, ⟨hb20, fun k' hk' => ?_, fun k' h1 h2 => ?_, fun k' x' j h1 h2 h3 h4 => ?_⟩, fun l k' hl h21 hk37 => ?_, hS, hG, hQ, hM⟩
  · obtain ⟨c1, c2, c3, c4, c5, c6, c7⟩ := hF t h1 h2
    have h1' : v 9 0 ≤ t := h1
    refine ⟨c1, c2, c3, c4, c5, c6, fun k' hk' => ?_⟩
    rw [ntv_n (by have := ek k' t h2 (Or.inr (by omega)); omega)]
    exact c7 k' hk'
  · obtain ⟨a1, a2, a3, a4, a5, a6, a7, a8⟩ := hK.2.1 k' hk'
    refine ⟨a1, a2, a3, a4, a5, fun x' hx' => ?_, a7, fun e37 => ⟨(a8 e37).1, fun x' hx' hx2 => ?_⟩⟩
    · by_cases e : k' = k ∧ x' = x
      · obtain ⟨rfl, rfl⟩ := e
        rw [n42, n43, n44]
        obtain ⟨k0, k1, k3, k7, k8, k4, k6⟩ := hT.k hx
        exact ⟨by decide, hrt, by split <;> omega, fun _ => hx⟩
      · have := ek k' x' hx' (by omega)
        rw [ntv_n (f := 42) (by omega), ntv_n (f := 43) (by omega), ntv_n (f := 44) (by omega)]
        exact a6 x' hx'
    · by_cases e : k' = k ∧ x' = x
      · obtain ⟨rfl, rfl⟩ := e
        refine ⟨h41, fun _ _ => ⟨h7, n44, ?_, fun y' hy' => ?_⟩⟩
        · rw [n43]
          exact hr
        · exact hbits y' hy'
      · have hne := ek k' x' hx' (by omega)
        rw [ntv_n (f := 42) (by omega)] at hx2
        obtain ⟨b1, b2⟩ := (a8 e37).2 x' hx' hx2
        refine ⟨b1, fun e1 e2 => ?_⟩
        obtain ⟨d1, d2, d3, d4⟩ := b2 e1 e2
        refine ⟨d1, ?_, ?_, fun y' hy' => ?_⟩
        · rw [ntv_n (f := 44) (by omega)]
          exact d2
        · rw [ntv_n (f := 43) (by omega)]
          exact d3
        · rw [hbt' k' x' y' hx' hy' (by omega)]
          exact d4 y' hy'
  · obtain ⟨b1, b2, b3, b4⟩ := hK.2.2.1 k' h1 h2
    refine ⟨b1, b2, b3, fun x' hx' => ?_⟩
    have h1' : v 46 0 ≤ k' := h1
    have := ek k' x' hx' (Or.inl (by omega))
    rw [ntv_n (f := 42) (by omega), ntv_n (f := 43) (by omega), ntv_n (f := 44) (by omega)]
    exact b4 x' hx'
  · by_cases e : k' = k ∧ x' = x
    · obtain ⟨rfl, rfl⟩ := e
      rw [n42] at h4
      cases h4
    · have hne := ek k' x' h2 (by omega)
      rw [ntv_n (f := 42) (by omega)] at h4
      rw [hw _ (fun ⟨j1, j2⟩ => hne (by omega))]
      exact hK.2.2.2 k' x' j h1 h2 h3 h4
  · rcases hX l k' hl h21 hk37 with h | h | h
    · exact Or.inl h
    · right; left
      show ntv v k x rt 42 (300 * k' + v 38 k') = 1
      by_cases e : 300 * k' + v 38 k' = 300 * k + x
      · rw [e, n42]
      · rw [ntv_n (by omega)]
        exact h
    · exact Or.inr (Or.inr h)
/-- what leads from what is there, is there -/
theorem led_there (hT : iT v) (hy : y < v 9 0) (h7 : v 7 y = 0) (hx : Led v y x) : x < v 9 0 ∧ v 7 x = 0 ∧ v 1 x = v 1 y := by
  refine hx (fun x => x < v 9 0 ∧ v 7 x = 0 ∧ v 1 x = v 1 y) (fun b hb => by rw [hb]; exact ⟨hy, h7, rfl⟩) ?_
  rintro a b ⟨h1, h2, h3⟩ hE
  obtain ⟨q, q1, q2, q3⟩ := hE.at
  obtain ⟨c1, c2, c3⟩ := (hT.pl h1 q1).2.1 q2
  rw [q3] at c1 c2 c3
  exact ⟨c1, c3 h2, c2.trans h3⟩
/-! the GATES that are met, one by one -/
def mlv (v : Nu) (k h : Nat) (M : Nat → Bool) (rts : Nat → Nat) (s : Nu) : Nat → Nu
  | 0 => s
  | j + 1 => if M j = true then ltz (ntv (mlv v k h M rts s j) k j (rts j)) 4 (v 1 (v 5 j - 1)) h (v 5 j - 1) 0 0 0 (k + 1) 0 else mlv v k h M rts s j
theorem mlv_n {f i : Nat} (hf : ¬ (14 ≤ f ∧ f ≤ 24) ∧ ¬ (42 ≤ f ∧ f ≤ 44)) : ∀ j, mlv v k h M rts s j f i = s f i := by
  intro j
  induction j with
  | zero => rfl
  | succ j ih =>
    show (if M j = true then ltz (ntv (mlv v k h M rts s j) k j (rts j)) 4 (v 1 (v 5 j - 1)) h (v 5 j - 1) 0 0 0 (k + 1) 0 else mlv v k h M rts s j) f i = _
    by_cases e : M j = true
    · rw [if_pos e, ltz_o (by omega), ntv_n (by omega)]
      exact ih
    · rw [if_neg e]
      exact ih
theorem mlv_24 : ∀ j, mlv v k h M rts s j 24 0 = s 24 0 + fb_ct M j := by
  intro j
  induction j with
  | zero => rfl
  | succ j ih =>
    show (if M j = true then ltz (ntv (mlv v k h M rts s j) k j (rts j)) 4 (v 1 (v 5 j - 1)) h (v 5 j - 1) 0 0 0 (k + 1) 0 else mlv v k h M rts s j) 24 0 = _
    rw [fb_ct_succ]
    by_cases e : M j = true
    · rw [if_pos e, ltz_24, if_pos e]
      show mlv v k h M rts s j 24 0 + 1 = _
      omega
    · rw [if_neg e, if_neg e]
      exact ih
theorem mlv_42 {x' k' : Nat} (hx : x' < 300) : ∀ j, j ≤ 300 → mlv v k h M rts s j 42 (300 * k' + x') = if k' = k ∧ x' < j ∧ M x' = true then 1 else s 42 (300 * k' + x') := by
  intro j
  induction j with
  | zero =>
    intro _
    rw [if_neg (by omega)]
    rfl
  | succ j ih =>
    intro hj
    show (if M j = true then ltz (ntv (mlv v k h M rts s j) k j (rts j)) 4 (v 1 (v 5 j - 1)) h (v 5 j - 1) 0 0 0 (k + 1) 0 else mlv v k h M rts s j) 42 (300 * k' + x') = _
    by_cases e : M j = true
    · rw [if_pos e, ltz_o (by omega)]
      by_cases e2 : k' = k ∧ x' = j
      · obtain ⟨rfl, rfl⟩ := e2
        rw [ntv_at.1, if_pos ⟨rfl, by omega, e⟩]
      · rw [ntv_n (by omega), ih (by omega)]
        by_cases e3 : k' = k ∧ x' < j ∧ M x' = true
        · rw [if_pos e3, if_pos ⟨e3.1, by omega, e3.2.2⟩]
        · rw [if_neg e3, if_neg (fun h => e3 ⟨h.1, by omega, h.2.2⟩)]
    · rw [if_neg e, ih (by omega)]
      by_cases e3 : k' = k ∧ x' < j ∧ M x' = true
      · rw [if_pos e3, if_pos ⟨e3.1, by omega, e3.2.2⟩]
      · rw [if_neg e3, if_neg (fun h => e3 ⟨h.1, by
          by_cases e4 : x' = j
          · rw [e4] at h; exact absurd h.2.2 e
          · omega, h.2.2⟩)]
theorem mlv_c23 : ∀ j, l < s 24 0 → zu (mlv v k h M rts s j) 23 l 0 = mlv v k h M rts (zu s 23 l 0) j := by
  intro j hl
  induction j with
  | zero => rfl
  | succ j ih =>
    show zu (if M j = true then ltz (ntv (mlv v k h M rts s j) k j (rts j)) 4 (v 1 (v 5 j - 1)) h (v 5 j - 1) 0 0 0 (k + 1) 0 else mlv v k h M rts s j) 23 l 0 = (if M j = true then ltz (ntv (mlv v k h M rts (zu s 23 l 0) j) k j (rts j)) 4 (v 1 (v 5 j - 1)) h (v 5 j - 1) 0 0 0 (k + 1) 0 else mlv v k h M rts (zu s 23 l 0) j)
    by_cases e : M j = true
    · rw [if_pos e, if_pos e]
      have h24 := mlv_24 (v := v) (k := k) (h := h) (M := M) (rts := rts) (s := s) j
      rw [c23_ltz (v := ntv (mlv v k h M rts s j) k j (rts j)) (by show l ≠ mlv v k h M rts s j 24 0; omega)]
      have : zu (ntv (mlv v k h M rts s j) k j (rts j)) 23 l 0 = ntv (zu (mlv v k h M rts s j) 23 l 0) k j (rts j) := by
        simp only [ntv]
        rw [zu_comm (a := 43) (by decide), zu_comm (a := 44) (by decide), zu_comm (a := 42) (by decide)]
        rfl
      rw [this, ih]
    · rw [if_neg e, if_neg e]
      exact ih
end SI
