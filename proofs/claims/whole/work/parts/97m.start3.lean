/-! Both at their start. -/
def d0 (b z : Nat) : AD := (z, fun a => if b ≤ a ∧ a < b + 24 then 100 + (a - b) else 0, fun _ => 0, fun k x => if 100 ≤ k ∧ k < 124 ∧ x = 0 then b + (k - 100) else 0)
def c0Q (k x i : Nat) : Option (Nat × Nat) := if x = 0 ∧ 100 ≤ k then (lk E24 (k - 100) i).map (fun j => (100 + j, 0)) else none
def c0N (k x : Nat) : Nat := if x = 0 ∧ 100 ≤ k ∧ k < 124 then ln (k - 100) else 0
def c0 : CH := (fun _ _ _ => 0, fun _ _ _ => 0, c0Q, c0N)
def v0 : Nu := fun k _ => if ec k = true then 1 else 0
section ST0
variable {b z k x : Nat}
theorem E24_b : lkb 24 E24 = true := by decide +kernel
theorem d0_at (h : 100 ≤ k ∧ k < 124) : da (d0 b z) k 0 = b + (k - 100) := by
  show (if 100 ≤ k ∧ k < 124 ∧ 0 = 0 then b + (k - 100) else 0) = _
  rw [if_pos ⟨h.1, h.2, rfl⟩]
theorem d0_lvd : lvd (d0 b z) k x ↔ (100 ≤ k ∧ k < 124) ∧ x = 0 := by
  constructor
  · rintro ⟨h1, h2, h3⟩
    by_cases g : 100 ≤ k ∧ k < 124 ∧ x = 0
    · exact ⟨⟨g.1, g.2.1⟩, g.2.2⟩
    · exfalso
      have e : (d0 b z).2.2.2 k x = 0 := by
        show (if 100 ≤ k ∧ k < 124 ∧ x = 0 then b + (k - 100) else 0) = 0
        rw [if_neg g]
      rw [e] at h2 h3
      have h3' : 0 = x := h3
      have h2' : (if b ≤ 0 ∧ 0 < b + 24 then 100 + (0 - b) else 0) = k := h2
      by_cases c : b ≤ 0 ∧ 0 < b + 24
      · rw [if_pos c] at h2'
        omega
      · rw [if_neg c] at h2'
        omega
  · rintro ⟨h1, rfl⟩
    have e : (d0 b z).2.2.2 k 0 = b + (k - 100) := d0_at h1
    refine ⟨by omega, ?_, ?_⟩
    · rw [e]
      show (if b ≤ b + (k - 100) ∧ b + (k - 100) < b + 24 then 100 + (b + (k - 100) - b) else 0) = k
      rw [if_pos (by omega)]
      omega
    · rfl
theorem c0Q_b {i : Nat} {q : Nat × Nat} (h : c0Q k x i = some q) : (100 ≤ k ∧ k < 124) ∧ x = 0 ∧ ∃ j, lk E24 (k - 100) i = some j ∧ j < 24 ∧ q = (100 + j, 0) := by
  simp only [c0Q] at h
  by_cases g : x = 0 ∧ 100 ≤ k
  · rw [if_pos g] at h
    cases hl : lk E24 (k - 100) i with
    | none => rw [hl] at h; cases h
    | some j =>
      rw [hl] at h
      obtain ⟨l1, l2⟩ := lk_b E24_b hl
      exact ⟨by omega, g.1, j, rfl, l2, (Option.some.inj h).symm⟩
  · rw [if_neg g] at h
    cases h
theorem wf0 (hz : b + 24 ≤ z) : WF (d0 b z) c0 := by
  refine ⟨fun a ha => ?_, fun k x h => ⟨fun _ => rfl, fun _ => rfl, fun i => ?_, ?_⟩, fun k x i q h => ?_⟩
  · have ha' : (if b ≤ a ∧ a < b + 24 then 100 + (a - b) else 0) ≠ 0 := ha
    by_cases g : b ≤ a ∧ a < b + 24
    · have e : (d0 b z).2.1 a = 100 + (a - b) := by
        show (if b ≤ a ∧ a < b + 24 then 100 + (a - b) else 0) = _
        rw [if_pos g]
      refine ⟨by show a < z; omega, ?_⟩
      rw [e]
      refine (d0_at (b := b) (z := z) (k := 100 + (a - b)) (by omega)).trans (by omega)
    · rw [if_neg g] at ha'
      exact absurd rfl ha'
  · show c0Q k x i = none
    cases hq : c0Q k x i with
    | none => rfl
    | some q =>
      obtain ⟨q1, q2, -⟩ := c0Q_b hq
      exact absurd (d0_lvd.mpr ⟨q1, q2⟩) h
  · show c0N k x = 0
    simp only [c0N]
    rw [if_neg (fun g => h (d0_lvd.mpr ⟨⟨g.2.1, g.2.2⟩, g.1⟩))]
  · obtain ⟨-, -, j, -, j2, rfl⟩ := c0Q_b h
    exact d0_lvd.mpr ⟨⟨by omega, by omega⟩, rfl⟩
theorem cB0 : cB (d0 b z) c0 = zz z (SH b 24 E24) := by
  have a3 : (fun a i => (c0Q (if b ≤ a ∧ a < b + 24 then 100 + (a - b) else 0) 0 i).map (fun q => (d0 b z).2.2.2 q.1 q.2)) = shP b E24 := by
    funext a i
    simp only [shP]
    by_cases g : b ≤ a ∧ a < b + 24
    · rw [if_pos g, if_pos g.1]
      simp only [c0Q]
      rw [if_pos ⟨trivial, by omega⟩, show 100 + (a - b) - 100 = a - b by omega]
      cases hl : lk E24 (a - b) i with
      | none => rfl
      | some j =>
        obtain ⟨-, l2⟩ := lk_b E24_b hl
        show some ((d0 b z).2.2.2 (100 + j) 0) = some (b + j)
        rw [show (d0 b z).2.2.2 (100 + j) 0 = b + (100 + j - 100) from d0_at (by omega), show 100 + j - 100 = j by omega]
    · rw [if_neg g]
      have e1 : c0Q 0 0 i = none := by
        simp only [c0Q]
        rw [if_neg (by omega)]
      rw [e1]
      by_cases g2 : b ≤ a
      · rw [if_pos g2]
        cases hl : lk E24 (a - b) i with
        | none => rfl
        | some j =>
          have := (lk_b E24_b hl).1
          omega
      · rw [if_neg g2]; rfl
  have a4 : (fun a => TK (if b ≤ a ∧ a < b + 24 then 100 + (a - b) else 0)) = shT b 24 := by
    funext a
    simp only [shT]
    by_cases g : b ≤ a ∧ a < b + 24
    · rw [if_pos g, if_pos g]
    · rw [if_neg g, if_neg g]; rfl
  have a5 : (fun a => c0N (if b ≤ a ∧ a < b + 24 then 100 + (a - b) else 0) 0) = shN b 24 := by
    funext a
    simp only [shN, c0N]
    by_cases g : b ≤ a ∧ a < b + 24
    · rw [if_pos g, if_pos g, if_pos ⟨trivial, by omega, by omega⟩, show 100 + (a - b) - 100 = a - b by omega]
    · rw [if_neg g, if_neg g, if_neg (by omega)]
  show ((fun _ _ => (0 : Int32)), (fun _ _ => (0 : Int64)), (fun a i => (c0Q (if b ≤ a ∧ a < b + 24 then 100 + (a - b) else 0) 0 i).map (fun q => (d0 b z).2.2.2 q.1 q.2)), (fun a => TK (if b ≤ a ∧ a < b + 24 then 100 + (a - b) else 0)), (fun a => c0N (if b ≤ a ∧ a < b + 24 then 100 + (a - b) else 0) 0), z) = ((fun _ _ => (0 : Int32)), (fun _ _ => (0 : Int64)), shP b E24, shT b 24, shN b 24, z)
  rw [a3, a4, a5]
theorem no0 (h : ¬ (100 ≤ k ∧ k < 124)) : ¬ lvd (d0 b z) k x := fun g => h (d0_lvd.mp g).1
theorem sr0 {r : Nat} : SR c0 r (v0 9 0) 0 (fun _ => 0) := ⟨by omega, rfl, fun i hi => absurd hi (Nat.not_lt_zero i), fun i j hi => absurd hi (Nat.not_lt_zero i), fun n _ => Or.inr ⟨rfl, fun ⟨i, hi, _⟩ => Nat.not_lt_zero i hi⟩⟩
theorem rc0 (hz : b + 24 ≤ z) : RC (d0 b z) c0 v0 (fun _ _ => 0) (fun _ _ => 0) := by
  refine ⟨wf0 hz, fun j hj => d0_lvd.mpr ⟨by omega, rfl⟩, ⟨⟨rfl, rfl, rfl, rfl, rfl, rfl, rfl, rfl, rfl, rfl⟩, ⟨rfl, rfl, rfl, rfl, rfl, rfl, rfl, rfl, rfl, rfl, rfl, rfl, rfl⟩, ⟨rfl, rfl, rfl, rfl, rfl, rfl, rfl, rfl, rfl, rfl, rfl, rfl, rfl, rfl, rfl, rfl⟩⟩, ⟨rfl, fun n hn => absurd hn (Nat.not_lt_zero n), fun n _ => ⟨no0 (by omega), no0 (by omega), no0 (by omega)⟩, fun n p n' p' r h => ?_, 0, fun r _ => ⟨no0 (by omega), no0 (by omega)⟩⟩, ⟨rfl, fun n hn => absurd hn (Nat.not_lt_zero n), fun n _ => no0 (by omega)⟩, ⟨rfl, fun n hn => absurd hn (Nat.not_lt_zero n), 0, fun n _ => no0 (by omega)⟩, ⟨rfl, fun n hn => absurd hn (Nat.not_lt_zero n), fun n _ => ⟨no0 (by omega), no0 (by omega), no0 (by omega), no0 (by omega), no0 (by omega)⟩⟩, ⟨fun _ _ => rfl, fun _ _ => rfl, rfl, fun n hn => absurd hn (Nat.not_lt_zero n), rfl⟩, ⟨0, _, sr0⟩, ⟨0, _, sr0⟩, ⟨0, _, sr0⟩, rfl, fun _ _ => rfl⟩
  have := (c0Q_b (k := 3) h).1
  omega
theorem nv0 : Nv v0 (fun _ _ => 0) := by
  intro k i _
  show (0 : Int32) = dv k (if ec k = true then 1 else 0)
  simp only [dv]
  by_cases e : ec k = true
  · rw [if_pos e, if_pos e]; rfl
  · rw [if_neg e, if_neg e]; rfl
theorem inv0 : Inv D0 0 v0 (fun _ _ => 0) (fun _ _ => 0) := by
  refine ⟨⟨Nat.zero_le _, fun n hn => absurd hn (Nat.not_lt_zero n)⟩, fun t _ _ => ⟨rfl, rfl, rfl, rfl, rfl, fun _ _ => rfl, fun _ _ => rfl⟩, ⟨Nat.zero_le _, fun n hn => absurd hn (Nat.not_lt_zero n), fun _ _ _ => rfl⟩, ⟨Nat.zero_le _, fun n hn => absurd hn (Nat.not_lt_zero n)⟩, ⟨fun _ _ => Nat.zero_le _, Nat.zero_le _, fun n hn => absurd hn (Nat.not_lt_zero n)⟩, ⟨Nat.zero_le _, fun n hn => absurd hn (Nat.not_lt_zero n), fun _ _ _ => ⟨rfl, rfl, rfl, fun _ _ => ⟨rfl, rfl, rfl⟩⟩, fun _ _ _ _ _ _ _ => rfl⟩, fun l k hl => absurd hl (Nat.not_lt_zero l), fun n hn => absurd hn (Nat.not_lt_zero n), fun a b ha => absurd ha (Nat.not_lt_zero a), fun _ _ => rfl, fun _ _ => ⟨rfl, rfl⟩⟩
end ST0
