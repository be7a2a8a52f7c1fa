section GO
variable {v : Nu} {u : Mu} {w : Me} {q z x y : Nat}
theorem dv_ifeq {f n b : Nat} (hf : ec f = true) (hn : n ≤ 2147483647) (hb : b < 2147483647) {α : Type} {x y : α} : (if dv f n = nI b then x else y) = if n = b + 1 then x else y := by
  cases n with
  | zero =>
    rw [dv_0 hf, if_neg (show ¬ (-1 : Int32) = nI b from fun h => nI_m1 (by omega) h.symm), if_neg (by omega)]
  | succ n =>
    rw [dv_e hf, nI_ifeq (by omega) (by omega)]
    by_cases e : n = b
    · rw [if_pos e, if_pos (by omega)]
    · rw [if_neg e, if_neg (by omega)]
/-- a loop that looks for a yes -/
theorem zany {F : Nat → Int32 → Int32 → Option (Int32 × Hz)} {G : Int32 → Option (Int32 × Hz)} {P : Nat → Prop} {N : Nat} (one : ∀ n k, k ≤ N → F (n + 1) 1 (nI k) = G 1) (stop : ∀ n, F (n + 1) 0 (nI N) = G 0) (yes : ∀ n k, k < N → P k → F (n + 1) 0 (nI k) = F n 1 (nI (k + 1))) (no : ∀ n k, k < N → ¬ P k → F (n + 1) 0 (nI k) = F n 0 (nI (k + 1))) [Decidable (∃ k, k < N ∧ P k)] : ∀ n, N + 1 < n → F n 0 (nI 0) = G (if ∃ k, k < N ∧ P k then 1 else 0) := by
  intro n hn
  have key : ∀ (j k n : Nat), k + j = N → j + 1 < n → (∀ i, i < k → ¬ P i) → F n 0 (nI k) = G (if ∃ k, k < N ∧ P k then 1 else 0) := by
    intro j
    induction j with
    | zero =>
      intro k n e1 e2 e3
      obtain ⟨n, rfl⟩ : ∃ n', n = n' + 1 := ⟨n - 1, by omega⟩
      have : k = N := by omega
      subst this
      rw [stop, if_neg (fun ⟨i, i1, i2⟩ => e3 i i1 i2)]
    | succ j ih =>
      intro k n e1 e2 e3
      obtain ⟨n, rfl⟩ : ∃ n', n = n' + 1 := ⟨n - 1, by omega⟩
      by_cases e : P k
      · obtain ⟨n, rfl⟩ : ∃ n', n = n' + 1 := ⟨n - 1, by omega⟩
        rw [yes _ k (by omega) e, one _ _ (by omega), if_pos ⟨k, by omega, e⟩]
      · rw [no _ k (by omega) e]
        refine ih (k + 1) n (by omega) (by omega) (fun i hi => ?_)
        by_cases ei : i = k
        · rw [ei]; exact e
        · exact e3 i (by omega)
  exact key N 0 n (by omega) hn (fun i hi => by omega)
theorem s_goes [Decidable (GE v x y)] (hN : Nv v u) (hT : iT v) (hL : iL v) (hW : iW v) (hx : x < v 9 0) (hy : y < v 9 0) : fX11_goes q (nI x) (nI y) (mB q z u w) = some (if GE v x y then 1 else 0, mB q z u w) := by
  have hb := hT.1
  have hb2 := hL.1
  have hb3 := hW.1
  obtain ⟨k0, k1, k3, -⟩ := hT.k hx
  unfold fX11_goes
  rw [mA0, b1_s, mX0, mI_n (by omega) (by decide), b1_s, hN.k0, nI_if3 (by omega)]
  by_cases e3 : v 0 x = 3
  · obtain ⟨⟨mm, m1, m2, -⟩, -⟩ := hT.g hx e3
    rw [if_pos e3, mA5, b1_s, mX5, mI_n (by omega) (by decide), b1_s, hN.k5, dv_ifeq rfl (by omega) (by omega)]
    by_cases e : v 5 x = y + 1
    · rw [if_pos e, if_pos (show GE v x y from Or.inl ⟨e3, e⟩)]
      rfl
    · rw [if_neg e, if_neg (show ¬ GE v x y from fun h => h.elim (fun h => e h.2) (fun h => h.1 e3))]
      rfl
  rw [if_neg e3]
  haveI := Classical.propDecidable (∃ k, k < v 29 0 ∧ (v 27 k = x ∧ v 26 k = y))
  haveI := Classical.propDecidable (∃ l, l < v 24 0 ∧ (v 23 l = 1 ∧ v 14 l = 0 ∧ v 19 l = x + 1 ∧ v 17 l = y))
  haveI := Classical.propDecidable (∃ p, p < v 3 x ∧ (v 10 (8 * x + p) = 1 ∧ v 11 (8 * x + p) = y))
  -- those that wait
  have h179 : fX11_goes_179 100000 q (nI x) (nI y) 0 0 (mB q z u w) = rz (if ∃ k, k < v 29 0 ∧ (v 27 k = x ∧ v 26 k = y) then 1 else 0) (mB q z u w) := by
    refine zany (F := fun n f k => fX11_goes_179 n q (nI x) (nI y) f k (mB q z u w)) (G := fun f => rz f (mB q z u w)) (P := fun k => v 27 k = x ∧ v 26 k = y) (N := v 29 0) ?_ ?_ ?_ ?_ 100000 (by omega)
    · intro n k hk
      rw [fX11_goes_179, mG29, b1_s, if_neg (show ¬ (1 : Int32) = 0 by decide)]
      split <;> rfl
    · intro n
      rw [fX11_goes_179, mG29, b1_s, hN.k29, if_pos (Int32.le_refl _)]
    · intro n k hk hP
      obtain ⟨w1, w2, w3, w4, -⟩ := hW.2 k hk
      rw [fX11_goes_179, mG29, b1_s, hN.k29, nI_ifle (by omega) (by omega), if_neg (by omega), if_pos rfl, mA27, b1_s, mX27, mI_n (by omega) (by decide), b1_s, hN.k27, nI_ifeq (by omega) (by omega), if_pos hP.1, mA26, b1_s, mX26, mI_n (by omega) (by decide), b1_s, hN.k26, nI_ifeq (by omega) (by omega), if_pos hP.2, nI_1]
    · intro n k hk hP
      obtain ⟨w1, w2, w3, w4, -⟩ := hW.2 k hk
      rw [fX11_goes_179, mG29, b1_s, hN.k29, nI_ifle (by omega) (by omega), if_neg (by omega), if_pos rfl, mA27, b1_s, mX27, mI_n (by omega) (by decide), b1_s, hN.k27, nI_ifeq (by omega) (by omega), nI_1]
      by_cases e : v 27 k = x
      · rw [if_pos e, mA26, b1_s, mX26, mI_n (by omega) (by decide), b1_s, hN.k26, nI_ifeq (by omega) (by omega), if_neg (fun g => hP ⟨e, g⟩)]
      · rw [if_neg e]
  have h179' : fX11_goes_179 100000 q (nI x) (nI y) 1 0 (mB q z u w) = rz 1 (mB q z u w) := by
    rw [fX11_goes_179, mG29, b1_s, if_neg (show ¬ (1 : Int32) = 0 by decide)]
    split <;> rfl
  -- letters
  have h109 : fX11_goes_109 100000 q (nI x) (nI y) 0 0 (mB q z u w) = fX11_goes_179 100000 q (nI x) (nI y) (if ∃ l, l < v 24 0 ∧ (v 23 l = 1 ∧ v 14 l = 0 ∧ v 19 l = x + 1 ∧ v 17 l = y) then 1 else 0) 0 (mB q z u w) := by
    refine zany (F := fun n f k => fX11_goes_109 n q (nI x) (nI y) f k (mB q z u w)) (G := fun f => fX11_goes_179 100000 q (nI x) (nI y) f 0 (mB q z u w)) (P := fun l => v 23 l = 1 ∧ v 14 l = 0 ∧ v 19 l = x + 1 ∧ v 17 l = y) (N := v 24 0) ?_ ?_ ?_ ?_ 100000 (by omega)
    · intro n k hk
      rw [fX11_goes_109, mG24, b1_s, if_neg (show ¬ (1 : Int32) = 0 by decide)]
      split <;> rfl
    · intro n
      rw [fX11_goes_109, mG24, b1_s, hN.k24, if_pos (Int32.le_refl _)]
    · intro n k hk hP
      obtain ⟨o1, o2, o3, o4, o5, o6, -⟩ := hL.2.1 k hk
      rw [fX11_goes_109, mG24, b1_s, hN.k24, nI_ifle (by omega) (by omega), if_neg (by omega), if_pos rfl, mA23, b1_s, mX23, mI_n (by omega) (by decide), b1_s, hN.k23, nI_if0 (by omega), if_neg (by omega), mA14, b1_s, mX14, mI_n (by omega) (by decide), b1_s, hN.k14, nI_if0 (by omega), if_pos hP.2.1, mA19, b1_s, mX19, mI_n (by omega) (by decide), b1_s, hN.k19, dv_ifeq rfl (by omega) (by omega), if_pos hP.2.2.1, mA17, b1_s, mX17, mI_n (by omega) (by decide), b1_s, hN.k17, nI_ifeq (by omega) (by omega), if_pos hP.2.2.2, nI_1]
    · intro n k hk hP
      obtain ⟨o1, o2, o3, o4, o5, o6, o7, o8, -⟩ := hL.2.1 k hk
      rw [fX11_goes_109, mG24, b1_s, hN.k24, nI_ifle (by omega) (by omega), if_neg (by omega), if_pos rfl, mA23, b1_s, mX23, mI_n (by omega) (by decide), b1_s, hN.k23, nI_if0 (by omega), nI_1]
      by_cases e23 : v 23 k = 0
      · rw [if_pos e23]
      · rw [if_neg e23, mA14, b1_s, mX14, mI_n (by omega) (by decide), b1_s, hN.k14, nI_if0 (by omega)]
        by_cases e14 : v 14 k = 0
        · obtain ⟨rr, pp, r1, r2, r3, -⟩ := o8 e14
          rw [if_pos e14, mA19, b1_s, mX19, mI_n (by omega) (by decide), b1_s, hN.k19, dv_ifeq rfl (by omega) (by omega)]
          by_cases e19 : v 19 k = x + 1
          · rw [if_pos e19, mA17, b1_s, mX17, mI_n (by omega) (by decide), b1_s, hN.k17, nI_ifeq (by omega) (by omega), if_neg (fun g => hP ⟨by omega, e14, e19, g⟩)]
          · rw [if_neg e19]
        · rw [if_neg e14]
  have h90 : ∀ f : Int32, (f = 0 ∨ f = 1) → fX11_goes_90 q (nI x) (nI y) f (mB q z u w) = if f = 0 ∧ v 0 x = 2 then fX11_goes_109 100000 q (nI x) (nI y) 0 0 (mB q z u w) else rz f (mB q z u w) := by
    intro f hf
    unfold fX11_goes_90
    rcases hf with rfl | rfl
    · rw [if_pos rfl, mA0, b1_s, mX0, mI_n (by omega) (by decide), b1_s, hN.k0, nI_if2 (by omega)]
      by_cases e2 : v 0 x = 2
      · rw [if_pos e2, if_pos ⟨rfl, e2⟩]
      · rw [if_neg e2, if_neg (fun g => e2 g.2)]
    · rw [if_neg (show ¬ (1 : Int32) = 0 by decide), if_neg (fun g => absurd g.1 (by decide))]
  -- places
  have h31 : fX11_goes_31 100000 q (nI x) (nI y) 0 0 (mB q z u w) = fX11_goes_90 q (nI x) (nI y) (if ∃ p, p < v 3 x ∧ (v 10 (8 * x + p) = 1 ∧ v 11 (8 * x + p) = y) then 1 else 0) (mB q z u w) := by
    refine zany (F := fun n f k => fX11_goes_31 n q (nI x) (nI y) f k (mB q z u w)) (G := fun f => fX11_goes_90 q (nI x) (nI y) f (mB q z u w)) (P := fun p => v 10 (8 * x + p) = 1 ∧ v 11 (8 * x + p) = y) (N := v 3 x) ?_ ?_ ?_ ?_ 100000 (by omega)
    · intro n k hk
      rw [fX11_goes_31, mA3, b1_s, mX3, mI_n (by omega) (by decide), b1_s, if_neg (show ¬ (1 : Int32) = 0 by decide)]
      split <;> rfl
    · intro n
      rw [fX11_goes_31, mA3, b1_s, mX3, mI_n (by omega) (by decide), b1_s, hN.k3, if_pos (Int32.le_refl _)]
    · intro n k hk hP
      have hpl := ((hT.pl hx hk).2.1 hP.1).1
      rw [fX11_goes_31, mA3, b1_s, mX3, mI_n (by omega) (by decide), b1_s, hN.k3, nI_ifle (by omega) (by omega), if_neg (by omega), if_pos rfl, mA10, b1_s, n8, mX10, mI_n (by omega) (by decide), b1_s, hN.k10, nI_if1 (by omega), if_pos hP.1, mA11, b1_s, mX11, mI_n (by omega) (by decide), b1_s, hN.k11, nI_ifeq (by omega) (by omega), if_pos hP.2, nI_1]
    · intro n k hk hP
      have hp2 := (hT.pl hx hk).1
      rw [fX11_goes_31, mA3, b1_s, mX3, mI_n (by omega) (by decide), b1_s, hN.k3, nI_ifle (by omega) (by omega), if_neg (by omega), if_pos rfl, mA10, b1_s, n8, mX10, mI_n (by omega) (by decide), b1_s, hN.k10, nI_if1 (by omega), nI_1]
      by_cases e10 : v 10 (8 * x + k) = 1
      · have hpl := ((hT.pl hx hk).2.1 e10).1
        rw [if_pos e10, mA11, b1_s, mX11, mI_n (by omega) (by decide), b1_s, hN.k11, nI_ifeq (by omega) (by omega), if_neg (fun g => hP ⟨e10, g⟩)]
      · rw [if_neg e10]
  have hle : (∃ p, p < v 3 x ∧ (v 10 (8 * x + p) = 1 ∧ v 11 (8 * x + p) = y)) ↔ LEv v x y := ⟨fun ⟨p, p1, p2, p3⟩ => LEv.mk p1 p2 p3, fun hh => hh.at⟩
  rw [h31]
  by_cases e1 : ∃ p, p < v 3 x ∧ (v 10 (8 * x + p) = 1 ∧ v 11 (8 * x + p) = y)
  · rw [if_pos e1, h90 1 (Or.inr rfl), if_neg (fun g => absurd g.1 (by decide)), if_pos (show GE v x y from Or.inr ⟨e3, Or.inl (hle.mp e1)⟩)]
    rfl
  · rw [if_neg e1, h90 0 (Or.inl rfl)]
    by_cases e2 : v 0 x = 2
    · rw [if_pos ⟨rfl, e2⟩, h109]
      by_cases el : ∃ l, l < v 24 0 ∧ (v 23 l = 1 ∧ v 14 l = 0 ∧ v 19 l = x + 1 ∧ v 17 l = y)
      · rw [if_pos el, h179', if_pos (show GE v x y from Or.inr ⟨e3, Or.inr ⟨e2, Or.inl el⟩⟩)]
        rfl
      · rw [if_neg el, h179]
        by_cases ew : ∃ k, k < v 29 0 ∧ (v 27 k = x ∧ v 26 k = y)
        · rw [if_pos ew, if_pos (show GE v x y from Or.inr ⟨e3, Or.inr ⟨e2, Or.inr ew⟩⟩)]
          rfl
        · rw [if_neg ew, if_neg]
          · rfl
          · rintro (h | ⟨h1, h2 | ⟨h3, h4 | h4⟩⟩)
            · exact e3 h.1
            · exact e1 (hle.mpr h2)
            · exact el h4
            · exact ew h4
    · rw [if_neg (fun g => e2 g.2), if_neg]
      · rfl
      · rintro (h | ⟨h1, h2 | ⟨h3, h4⟩⟩)
        · exact e3 h.1
        · exact e1 (hle.mpr h2)
        · exact e2 h3
end GO
