section MS
variable {o z : Nat} {u : Mu} {w : Me}
theorem i_isIn {x : Int32} {n : Nat} (hn : n < 2147483648) {h : Hz} : fX11_isIn x (nI n) h = some (if x < 0 ∨ nI n ≤ x then 0 else 1, h) := by
  unfold fX11_isIn
  by_cases h1 : x < 0
  · simp [h1, rz_0]
  · by_cases h2 : nI n ≤ x
    · simp [h1, h2, rz_0]
    · simp [h1, h2, rz_1]
theorem s_make {k hst n : Int32} {t : Nat} (ht : u 9 0 = nI t) (h1 : t < 300) : fX11_make o k hst n (mB o z u w) = some (nI t, mB o z (zu (zu (zu (zu (zu u 0 t k) 1 t hst) 3 t n) 5 t (-1)) 9 0 (nI (t + 1))) w) := by
  unfold fX11_make
  simp (disch := omega) only [mG9, mA0, mA1, mA3, mA5, b1_s, ht, mY0 (mC_n h1 (by decide)), mY1 (mC_n h1 (by decide)), mY3 (mC_n h1 (by decide)), mY5 (mC_n h1 (by decide)), nI_c, mP9]
  simp [zu, ht, nI_1]
end MS
