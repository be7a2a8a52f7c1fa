section QP
variable {v : Nu} {u u' : Mu} {w : Me} {q z t : Nat}
/-- the reference measures how far things are from t -/
theorem x_measure (hN : Nv v u) (hT : iT v) (hL : iL v) (hW : iW v) (ht : t < v 9 0) (h7 : v 7 t = 0) : ∃ u' n f dl, fX11_measure q (nI t) (mB q z u w) = some ((), mB q z u' w) ∧ QS u' n f dl ∧ QI v t n n f dl ∧ S3 u u' ∧ ∀ i, i < n → dl (f i) ≤ i := by
  have hb := hT.1
  have main : ∀ (g k j n : Nat) (u1 : Mu) (f dl : Nat → Nat), j + g = 300 → g < k → j ≤ n → QS u1 n f dl → QI v t j n f dl → S3 u u1 → (∀ i, i < n → dl (f i) ≤ i) → ∃ u' n' f' dl', fX11_measure_40 k q (nI n) (nI j) (mB q z u1 w) = some ((), mB q z u' w) ∧ QS u' n' f' dl' ∧ QI v t n' n' f' dl' ∧ S3 u u' ∧ ∀ i, i < n' → dl' (f' i) ≤ i := by
    intro g
    induction g with
    | zero =>
      intro k j n u1 f dl e1 e2 e3 hQ hI hS hB
      obtain ⟨k, rfl⟩ : ∃ k', k = k' + 1 := ⟨k - 1, by omega⟩
      have hn := hI.1
      have : j = n := by omega
      subst this
      refine ⟨u1, j, f, dl, ?_, hQ, hI, hS, hB⟩
      rw [fX11_measure_40, if_pos (Int32.le_refl _)]
    | succ g ih =>
      intro k j n u1 f dl e1 e2 e3 hQ hI hS hB
      obtain ⟨k, rfl⟩ : ∃ k', k = k' + 1 := ⟨k - 1, by omega⟩
      have hn := hI.1
      rcases Nat.lt_or_ge j n with hj | hj
      · obtain ⟨u2, n2, f2, d2, a1, a2, a3, a4, a5, a6⟩ := x_m48 (K := fX11_measure_40 k) (q := q) (z := z) (w := w) (hN.sc hS.sc) hT hL hW hB hQ hI hj
        rw [fX11_measure_40, nI_ifle (by omega) (by omega), if_neg (by omega), a1]
        exact ih k (j + 1) n2 u2 f2 d2 (by omega) (by omega) (by omega) a2 a3 (fun x i hx => (a4 x i hx).trans (hS x i hx)) a6
      · have : j = n := by omega
        subst this
        refine ⟨u1, j, f, dl, ?_, hQ, hI, hS, hB⟩
        rw [fX11_measure_40, if_pos (Int32.le_refl _)]
  have clr := zlp (F := fun k i (u1 : Mu) => fX11_measure_2 k q (nI t) i (mB q z u1 w)) (N := 300)
    (fun i u1 => S3 u u1 ∧ ∀ x, x < i → u1 49 x = -1)
    (fun y => ∃ u' n f dl, y = some ((), mB q z u' w) ∧ QS u' n f dl ∧ QI v t n n f dl ∧ S3 u u' ∧ ∀ i, i < n → dl (f i) ≤ i)
    (by
      rintro k i u1 hi ⟨p1, p2⟩
      left
      refine ⟨zu u1 49 i (-1), ?_, fun x b hx => ?_, fun x hx => ?_⟩
      · show fX11_measure_2 (k + 1) q (nI t) (nI i) (mB q z u1 w) = _
        rw [fX11_measure_2, show (300 : Int32) = nI 300 from rfl, nI_ifle (by omega) (by omega), if_neg (by omega), mA49, b1_s, mY49 (mC_n (by omega) (by decide)), b1_s, nI_c (by omega), nI_1]
      · rw [zu_n (by omega)]
        exact p1 x b hx
      · by_cases e : x = i
        · rw [e, zu_s]
        · rw [zu_n (by omega)]
          exact p2 x (by omega))
    (by
      rintro k u1 ⟨p1, p2⟩
      obtain ⟨u2, n2, f2, d2, a1, a2, a3, a4, a5⟩ := main 300 100000 0 1 (zu (zu u1 49 t 0) 36 0 (nI t)) (fun _ => t) (fun _ => 0) (by omega) (by omega) (by omega) ⟨fun i hi => by
          have : i = 0 := by omega
          rw [this, zu_s], fun x hx => ⟨fun ⟨i, i1, i2⟩ => by
          have e : t = x := i2
          rw [← e, zu_n (by omega), zu_s]
          rfl, fun hn => by
          have e : x ≠ t := fun e => hn ⟨0, by omega, e.symm⟩
          rw [zu_n (by omega), zu_n (by omega)]
          exact p2 x hx⟩⟩ ⟨by omega, fun a b ha hb' _ => by omega, fun i hi => ⟨ht, h7, rfl⟩, fun _ _ _ _ => Nat.le_refl _, fun _ _ _ => Nat.zero_le _, fun i x hi => by omega, ⟨0, by omega, rfl⟩, rfl⟩ (fun x b hx => by
          rw [zu_n (by omega), zu_n (by omega)]
          exact p1 x b hx) (fun i hi => Nat.zero_le _)
      refine ⟨u2, n2, f2, d2, ?_, a2, a3, a4, a5⟩
      show fX11_measure_2 (k + 1) q (nI t) (nI 300) (mB q z u1 w) = _
      have w36 : yI (q + 32) 0 (nI t) (mB q z (zu u1 49 t 0) w) = some (mB q z (zu (zu u1 49 t 0) 36 0 (nI t)) w) := mY36 (i := nI 0) (mC_n (by omega) (by decide))
      rw [fX11_measure_2, show (300 : Int32) = nI 300 from rfl, if_pos (Int32.le_refl _), mA49, b1_s, mY49 (mC_n (by omega) (by decide)), b1_s, nI_c (by omega), mA36, b1_s, w36, b1_s]
      exact a1)
  exact clr 300 100000 0 u (by omega) (by omega) ⟨fun _ _ _ => rfl, fun x hx => by omega⟩
end QP
