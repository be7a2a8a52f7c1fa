section QN
variable {v : Nu} {u : Mu} {t j n x d : Nat} {f dl : Nat → Nat}
theorem QI.room (h : QI v t j n f dl) (hb : v 9 0 ≤ 300) (hx : x < v 9 0) (hn : ¬ In n f x) : n < 300 := by
  have := fb_holes (v 9 0) (n + 1) (fun i => if i < n then f i else x) (by
    intro i hi
    by_cases e : i < n
    · simp only [if_pos e]; exact (h.2.2.1 i e).1
    · simp only [if_neg e]; exact hx) (by
    intro i k hij hk
    by_cases e : k < n
    · simp only [if_pos e, if_pos (show i < n by omega)]
      intro q
      have := h.2.1 i k (by omega) e q
      omega
    · simp only [if_neg e, if_pos (show i < n by omega)]
      intro q
      exact hn ⟨i, by omega, q⟩)
  omega
theorem QI.add (h : QI v t j n f dl) (hb : v 9 0 ≤ 300) (hj : j < n) (hx : x < v 9 0) (h7 : v 7 x = 0) (hn : ¬ In n f x) (hg : GE v x (f j)) : QI v t j (n + 1) (fup f n x) (fup dl x (dl (f j) + 1)) := by
  have hr := h.room hb hx hn
  obtain ⟨q1, q2, q3, q4, q5, q6, q7, q8⟩ := h
  have fo : ∀ i, i < n → fup f n x i = f i := fun i hi => fup_n (by omega)
  have ne : ∀ i, i < n → f i ≠ x := fun i hi e => hn ⟨i, hi, e⟩
  have dn : ∀ y, In n f y → fup dl x (dl (f j) + 1) y = dl y := fun y hy => fup_n (fun e => hn (by rw [← e]; exact hy))
  have di : ∀ i, i < n → fup dl x (dl (f j) + 1) (f i) = dl (f i) := fun i hi => dn _ ⟨i, hi, rfl⟩
  refine ⟨by omega, fun a b ha hb' e => ?_, fun i hi => ?_, fun i1 i2 g1 g2 => ?_, fun i hi hj' => ?_, fun i y g1 g2 g3 g4 g5 => ?_, ?_, ?_⟩
  · by_cases ea : a = n <;> by_cases eb : b = n
    · omega
    · rw [ea, fup_s, fo b (by omega)] at e
      exact absurd e.symm (ne b (by omega))
    · rw [eb, fup_s, fo a (by omega)] at e
      exact absurd e (ne a (by omega))
    · rw [fo a (by omega), fo b (by omega)] at e
      exact q2 a b (by omega) (by omega) e
  · by_cases e : i = n
    · rw [e, fup_s, fup_s]
      exact ⟨hx, h7, f j, hg, (q3 j hj).1, (q3 j hj).2.1, (q3 j hj).2.2⟩
    · rw [fo i (by omega), di i (by omega)]
      exact q3 i (by omega)
  · by_cases e2 : i2 = n
    · rw [e2, fup_s, fup_s]
      by_cases e1 : i1 = n
      · rw [e1, fup_s, fup_s]
        exact Nat.le_refl _
      · rw [fo i1 (by omega), di i1 (by omega)]
        exact q5 i1 (by omega) hj
    · rw [fo i1 (by omega), di i1 (by omega), fo i2 (by omega), di i2 (by omega)]
      exact q4 i1 i2 g1 (by omega)
  · rw [fo j hj, di j hj]
    by_cases e : i = n
    · rw [e, fup_s, fup_s]
      exact Nat.le_refl _
    · rw [fo i (by omega), di i (by omega)]
      exact q5 i (by omega) hj
  · rw [fo i (by omega)] at g5 ⊢
    obtain ⟨⟨k, k1, k2⟩, a2⟩ := q6 i y g1 (by omega) g3 g4 g5
    rw [di i (by omega), dn y ⟨k, k1, k2⟩]
    exact ⟨⟨k, by omega, by rw [fo k k1]; exact k2⟩, a2⟩
  · obtain ⟨k, k1, k2⟩ := q7
    exact ⟨k, by omega, by rw [fo k k1]; exact k2⟩
  · rw [dn t q7]
    exact q8
theorem QI.next (h : QI v t j n f dl) (hj : j < n) (hd : ∀ x, x < v 9 0 → v 7 x = 0 → GE v x (f j) → In n f x) : QI v t (j + 1) n f dl := by
  obtain ⟨q1, q2, q3, q4, q5, q6, q7, q8⟩ := h
  refine ⟨q1, q2, q3, q4, fun i hi hj' => ?_, fun i y g1 g2 g3 g4 g5 => ?_, q7, q8⟩
  · have := q5 i hi hj
    have := q4 j (j + 1) (by omega) hj'
    omega
  · by_cases e : i = j
    · rw [e] at g5 ⊢
      have hin := hd y g3 g4 g5
      obtain ⟨k, k1, k2⟩ := id hin
      refine ⟨hin, ?_⟩
      rw [← k2]
      exact q5 k k1 hj
    · exact q6 i y (by omega) g2 g3 g4 g5
end QN
