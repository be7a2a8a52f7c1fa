/-- the reference's queue -/
def QS (u : Mu) (n : Nat) (f dl : Nat → Nat) : Prop := (∀ i, i < n → u 36 i = nI (f i)) ∧ ∀ x, x < 300 → (In n f x → u 49 x = nI (dl x)) ∧ (¬ In n f x → u 49 x = -1)
def QI (v : Nu) (t j n : Nat) (f dl : Nat → Nat) : Prop :=
  n ≤ 300 ∧ (∀ a b, a < n → b < n → f a = f b → a = b) ∧ (∀ i, i < n → f i < v 9 0 ∧ v 7 (f i) = 0 ∧ Pt v t (dl (f i)) (f i)) ∧
  (∀ i1 i2, i1 ≤ i2 → i2 < n → dl (f i1) ≤ dl (f i2)) ∧ (∀ i, i < n → j < n → dl (f i) ≤ dl (f j) + 1) ∧
  (∀ i x, i < j → i < n → x < v 9 0 → v 7 x = 0 → GE v x (f i) → In n f x ∧ dl x ≤ dl (f i) + 1) ∧ In n f t ∧ dl t = 0
section QM
variable {v : Nu} {u : Mu} {t j n x d : Nat} {f dl : Nat → Nat}
/-- when all is done: the least number of steps -/
theorem QI.least (h : QI v t n n f dl) : ∀ d x, x < v 9 0 → v 7 x = 0 → Pt v t d x → In n f x ∧ dl x ≤ d := by
  obtain ⟨q1, q2, q3, q4, q5, q6, q7, q8⟩ := h
  intro d
  induction d with
  | zero =>
    intro x hx h7 hp
    have e : x = t := hp
    rw [e]
    exact ⟨q7, by omega⟩
  | succ d ih =>
    intro x hx h7 hp
    obtain ⟨y, y1, y2, y3, y4⟩ := hp
    obtain ⟨⟨i, i1, i2⟩, hd⟩ := ih y y2 y3 y4
    obtain ⟨a1, a2⟩ := q6 i x i1 i1 hx h7 (by rw [i2]; exact y1)
    rw [i2] at a2
    exact ⟨a1, by omega⟩
/-- one more in the queue, behind its head's number -/
theorem QS.add {u' : Mu} (h : QS u n f dl) (hx : ¬ In n f x) (hn : n < 300) (h36 : ∀ i, u' 36 i = if i = n then nI x else u 36 i) (h49 : ∀ i, u' 49 i = if i = x then nI d else u 49 i) : QS u' (n + 1) (fup f n x) (fup dl x d) := by
  have hin : ∀ y, In (n + 1) (fup f n x) y ↔ In n f y ∨ y = x := fun y => by
    constructor
    · rintro ⟨i, i1, i2⟩
      by_cases e : i = n
      · rw [e, fup_s] at i2
        exact Or.inr i2.symm
      · rw [fup_n e] at i2
        exact Or.inl ⟨i, by omega, i2⟩
    · rintro (⟨i, i1, i2⟩ | g)
      · exact ⟨i, by omega, by rw [fup_n (by omega)]; exact i2⟩
      · exact ⟨n, by omega, by rw [fup_s, g]⟩
  refine ⟨fun i hi => ?_, fun y hy => ⟨fun g => ?_, fun g => ?_⟩⟩
  · rw [h36 i]
    by_cases e : i = n
    · rw [if_pos e, e, fup_s]
    · rw [if_neg e, fup_n e]
      exact h.1 i (by omega)
  · rw [h49 y]
    by_cases e : y = x
    · rw [if_pos e, e, fup_s]
    · rw [if_neg e, fup_n e]
      exact (h.2 y hy).1 (((hin y).mp g).resolve_right e)
  · rw [h49 y, if_neg (fun e => g ((hin y).mpr (Or.inr e)))]
    exact (h.2 y hy).2 (fun g2 => g ((hin y).mpr (Or.inl g2)))
end QM
