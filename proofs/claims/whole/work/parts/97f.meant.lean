section ME
variable {v : Nu} {m r t n k : Nat} {od dp pi f dl : Nat → Nat} {bf : Nat → Option Nat}
theorem LIs.up (hT : iT v) (hlt : ∀ i, i < m → od i < v 9 0) (h : LIs v r m m od bf dp pi) : ∀ i k, i < m → Pt v t k (od i) → ∃ x k', x < v 9 0 ∧ v 0 x = 2 ∧ Pt v t k' x := by
  intro i
  induction i using Nat.strongRecOn with
  | _ i ih =>
    intro k hi hp
    by_cases e : i < r
    · exact ⟨od i, k, hlt i hi, (h.2.1 i e).1, hp⟩
    · obtain ⟨a1, a2, a3, a4, -⟩ := h.2.2.2.2.1 i (by omega) hi
      exact ih (pi i) a2 (k + 1) (by omega) ⟨od i, a3, hlt i hi, a4, hp⟩
theorem LIs.down (h : LIs v r m m od bf dp pi) : ∀ k x, In m od x → Pt v t k x → In m od t := by
  intro k
  induction k with
  | zero =>
    intro x hx hp
    have e : x = t := hp
    rw [← e]; exact hx
  | succ k ih =>
    intro x hx hp
    obtain ⟨y, y1, y2, y3, y4⟩ := hp
    obtain ⟨i, i1, i2⟩ := hx
    exact ih y (h.2.2.2.2.2.2 i y i1 i1 (by rw [i2]; exact y1) y2 y3) y4
/-- both know whether t is meant -/
theorem meant_iff {o : Option Nat} (hT : iT v) (hlt : ∀ i, i < m → od i < v 9 0) (h : LIs v r m m od bf dp pi) (hQ : QI v t n n f dl) (hB : BR v n f dl (v 9 0) o) : In m od t ↔ o ≠ none := by
  constructor
  · rintro ⟨i, i1, i2⟩ e
    obtain ⟨x, k, x1, x2, x3⟩ := h.up (t := t) hT hlt i 0 i1 i2
    have := (hQ.least k x x1 (hT.rt x1 x2) x3).1
    rw [e] at hB
    exact hB x x1 x2 this
  · intro e
    cases o with
    | none => exact absurd rfl e
    | some b =>
      obtain ⟨b1, b2, ⟨i, i1, i2⟩, -⟩ := hB
      have hp := (hQ.2.2.1 i i1).2.2
      rw [i2] at hp
      obtain ⟨j, j1, j2⟩ := h.2.2.2.1 b b1 b2
      exact h.down _ b ⟨j, by have := h.1; omega, j2⟩ hp
end ME
