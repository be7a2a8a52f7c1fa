/-! What both hold, as tables of numbers: v k i, k the reference's field. -/
abbrev Nu : Type := Nat → Nat → Nat
def ec (k : Nat) : Bool := k == 5 || k == 19 || k == 20 || k == 21 || k == 41
abbrev pk (k : Nat) : Prop := k ≠ 2 ∧ k ≠ 13 ∧ k ≠ 34 ∧ k ≠ 35 ∧ k ≠ 36 ∧ k ≠ 45 ∧ k ≠ 47 ∧ k ≠ 48 ∧ k ≠ 49
def dv (k n : Nat) : Int32 := if ec k = true then nI n - 1 else nI n
/-- the reference's tables hold these numbers -/
def Nv (v : Nu) (u : Mu) : Prop := ∀ k i, pk k → u k i = dv k (v k i)
theorem Nv.sc {v : Nu} {u u' : Mu} (h : Nv v u) (hs : Sc u u') : Nv v u' := by
  intro k i hk
  obtain ⟨h1, h2, h3, h4, h5, h6, h7, h8, h9⟩ := hk
  rw [hs k i ⟨h3, h4, h5, h7, h8, h9⟩]
  exact h k i ⟨h1, h2, h3, h4, h5, h6, h7, h8, h9⟩
theorem Nv.wr {v : Nu} {u : Mu} {k i n : Nat} {x : Int32} (h : Nv v u) (hx : x = dv k n) : Nv (zu v k i n) (zu u k i x) := by
  intro k' i' hk
  by_cases e : k' = k ∧ i' = i
  · obtain ⟨rfl, rfl⟩ := e
    rw [zu_s, zu_s, hx]
  · rw [zu_n e, zu_n e]
    exact h k' i' hk
theorem dv_n {k n : Nat} (h : ec k = false) : dv k n = nI n := by simp [dv, h]
theorem dv_e {k n : Nat} (h : ec k = true) : dv k (n + 1) = nI n := by simp [dv, h]; exact nI_pred n
theorem dv_0 {k : Nat} (h : ec k = true) : dv k 0 = -1 := by simp [dv, h]; rfl
/-- numbers that stay within bounds -/
def Ib (v : Nu) (u : Mu) : Prop :=
  v 9 0 ≤ 300 ∧ v 24 0 ≤ 600 ∧ v 29 0 ≤ 16 ∧ v 46 0 ≤ 20 ∧ v 33 0 ≤ 300 ∧
  (∀ t, t < v 9 0 → v 0 t ≤ 3 ∧ v 1 t < 8 ∧ v 3 t ≤ 8 ∧ (v 0 t = 0 ∨ v 0 t = 3 → v 3 t = 0) ∧ (v 0 t = 1 ∨ v 0 t = 2 → 1 ≤ v 3 t) ∧ (v 0 t = 3 → ∃ m, v 5 t = m + 1 ∧ m < v 9 0 ∧ v 0 m ≠ 3 ∧ v 1 m ≠ v 1 t) ∧ (v 0 t ≠ 3 → v 5 t = 0 ∧ v 6 t = 0) ∧ v 7 t ≤ 1 ∧ v 8 t ≤ 1 ∧ (v 0 t = 3 → v 4 t = 0 ∧ v 8 t = 0 ∧ 1 ≤ v 6 t) ∧ (v 0 t = 2 → v 7 t = 0) ∧
    ∀ p, p < v 3 t → v 10 (8 * t + p) ≤ 2 ∧ (v 10 (8 * t + p) = 1 → v 11 (8 * t + p) < v 9 0 ∧ v 1 (v 11 (8 * t + p)) = v 1 t) ∧ (v 10 (8 * t + p) = 2 → v 11 (8 * t + p) ≤ 3 ∧ v 12 (8 * t + p) ≤ 32)) ∧
  (∀ t, v 9 0 ≤ t → t < 300 → u 2 t = 0 ∧ v 4 t = 0 ∧ v 6 t = 0 ∧ v 7 t = 0 ∧ v 8 t = 0 ∧ (∀ p, p < 8 → v 10 (8 * t + p) = 0) ∧ ∀ k, k < 20 → v 42 (300 * k + t) = 0)
/-- the class's own cells -/
def FL (d : AD) : Prop := ∀ j, j < 24 → lvd d (100 + j) 0
def FX (c : CH) : Prop :=
  (cQ c 100 0 0 = some (101, 0) ∧ cQ c 100 0 1 = some (103, 0) ∧ cQ c 100 0 2 = some (105, 0) ∧ cQ c 100 0 3 = some (107, 0) ∧ cQ c 100 0 4 = some (108, 0) ∧ cQ c 100 0 5 = some (109, 0) ∧ cQ c 100 0 6 = some (110, 0) ∧ cQ c 100 0 7 = some (111, 0) ∧ cQ c 100 0 8 = some (114, 0) ∧ cQ c 100 0 9 = some (117, 0)) ∧
  (cQ c 101 0 0 = some (102, 0) ∧ cQ c 103 0 0 = some (104, 0) ∧ cQ c 105 0 0 = some (106, 0) ∧ cQ c 111 0 0 = some (112, 0) ∧ cQ c 111 0 1 = some (113, 0) ∧ cQ c 114 0 0 = some (115, 0) ∧ cQ c 114 0 1 = some (116, 0) ∧ cQ c 117 0 0 = some (118, 0) ∧ cQ c 117 0 1 = some (121, 0) ∧ cQ c 117 0 2 = some (122, 0) ∧ cQ c 117 0 3 = some (123, 0) ∧ cQ c 118 0 0 = some (119, 0) ∧ cQ c 118 0 1 = some (120, 0)) ∧
  (cN c 102 0 = 300 ∧ cN c 104 0 = 600 ∧ cN c 106 0 = 16 ∧ cN c 107 0 = 20 ∧ cN c 108 0 = 8 ∧ cN c 109 0 = 7 ∧ cN c 110 0 = 300 ∧ cN c 112 0 = 300 ∧ cN c 113 0 = 300 ∧ cN c 115 0 = 300 ∧ cN c 116 0 = 300 ∧ cN c 119 0 = 300 ∧ cN c 120 0 = 300 ∧ cN c 121 0 = 300 ∧ cN c 122 0 = 300 ∧ cN c 123 0 = 300)
def qe (k n : Nat) : Option (Nat × Nat) := if n = 0 then none else some (k, n - 1)
/-- a place holds what the tables say -/
def PL (c : CH) (v : Nu) (w : Me) (n p : Nat) : Prop :=
  (v 10 (8 * n + p) = 0 ∧ cQ c 2 n p = none ∧ cQ c 3 n p = none) ∨ (v 10 (8 * n + p) = 1 ∧ cQ c 2 n p = some (1, v 11 (8 * n + p)) ∧ cQ c 3 n p = none) ∨
  (v 10 (8 * n + p) = 2 ∧ cQ c 2 n p = none ∧ ∃ r, cQ c 3 n p = some (11, r) ∧ cI c 11 r 0 = nI (v 11 (8 * n + p)) ∧ cQ c 11 r 1 = some (12, r) ∧ cN c 12 r = v 12 (8 * n + p) ∧ ∀ i, i < v 12 (8 * n + p) → cJ c 12 r i = w 13 (32 * (8 * n + p) + i))
def TF (c : CH) (v : Nu) (u : Mu) (n : Nat) : Prop := cI c 1 n 0 = nI n ∧ cI c 1 n 1 = nI (v 0 n) ∧ cI c 1 n 2 = nI (v 1 n) ∧ cQ c 1 n 3 = some (2, n) ∧ cQ c 1 n 4 = some (3, n) ∧ cI c 1 n 5 = u 2 n ∧ cQ c 1 n 6 = qe 1 (v 5 n) ∧ cI c 1 n 7 = nI (v 6 n) ∧ cI c 1 n 8 = nI (v 4 n) ∧ cI c 1 n 9 = nI (v 8 n) ∧ cI c 1 n 10 = nI (1 - v 7 n) ∧ cN c 2 n = v 3 n ∧ cN c 3 n = v 3 n
def TH (d : AD) (c : CH) (v : Nu) (u : Mu) (w : Me) : Prop :=
  cI c 101 0 1 = nI (v 9 0) ∧ (∀ n, n < v 9 0 → lvd d 1 n ∧ lvd d 2 n ∧ lvd d 3 n ∧ cQ c 102 0 n = some (1, n) ∧ TF c v u n ∧ ∀ p, p < v 3 n → PL c v w n p) ∧ (∀ n, v 9 0 ≤ n → ¬ lvd d 1 n ∧ ¬ lvd d 2 n ∧ ¬ lvd d 3 n) ∧
  (∀ n p n' p' r, cQ c 3 n p = some (11, r) → cQ c 3 n' p' = some (11, r) → n = n' ∧ p = p') ∧ ∃ nr, ∀ r, nr ≤ r → ¬ lvd d 11 r ∧ ¬ lvd d 12 r
def LF (c : CH) (v : Nu) (l : Nat) : Prop := cI c 4 l 0 = nI (v 14 l) ∧ cI c 4 l 1 = nI (v 16 l) ∧ cI c 4 l 2 = nI (v 15 l) ∧ cQ c 4 l 3 = some (1, v 17 l) ∧ cI c 4 l 4 = nI (v 18 l) ∧ cQ c 4 l 5 = qe 1 (v 19 l) ∧ cI c 4 l 6 = dv 20 (v 20 l) ∧ cQ c 4 l 7 = qe 5 (v 21 l) ∧ cI c 4 l 8 = nI (v 22 l) ∧ cI c 4 l 9 = nI (v 23 l)
def LE (d : AD) (c : CH) (v : Nu) : Prop := cI c 103 0 1 = nI (v 24 0) ∧ (∀ l, l < v 24 0 → lvd d 4 l ∧ cQ c 104 0 l = some (4, l) ∧ LF c v l) ∧ ∀ l, v 24 0 ≤ l → ¬ lvd d 4 l
def WA (d : AD) (c : CH) (v : Nu) : Prop := cI c 105 0 1 = nI (v 29 0) ∧ (∀ k, k < v 29 0 → ∃ q, cQ c 106 0 k = some (10, q) ∧ cQ c 10 q 0 = some (1, v 26 k) ∧ cQ c 10 q 1 = some (1, v 27 k) ∧ cI c 10 q 2 = nI (v 28 k)) ∧ ∃ nq, ∀ k, nq ≤ k → ¬ lvd d 10 k
def pas (v : Nu) (k n : Nat) : Bool := v 42 (300 * k + n) == 1 && !(v 0 n == 3)
def met (v : Nu) (k n : Nat) : Bool := v 42 (300 * k + n) == 1 && v 0 n == 3
def mew (v : Nu) (k t : Nat) : Nat := fb_sm (fun g => if met v k g = true ∧ v 5 g = t + 1 then v 44 (300 * k + g) else 0) 300
def KF (c : CH) (v : Nu) (k : Nat) : Prop := (cI c 5 k 0 = nI k ∧ cQ c 5 k 1 = some (1, v 38 k) ∧ cQ c 5 k 2 = some (6, k) ∧ cQ c 5 k 3 = some (7, k) ∧ cQ c 5 k 4 = some (8, k) ∧ cQ c 5 k 5 = some (9, k) ∧ cI c 5 k 6 = nI (v 37 k) ∧ cI c 5 k 7 = nI (1 + v 40 k) ∧ cI c 5 k 8 = nI (v 39 k) ∧ cI c 5 k 9 = nI (fb_ct (pas v k) 300) ∧ cI c 5 k 10 = nI (fb_ct (met v k) 300)) ∧ (cN c 6 k = 300 ∧ cN c 7 k = 300 ∧ cN c 8 k = 300 ∧ cN c 9 k = 8) ∧ (∀ n, n < 300 → cI c 6 k n = (if pas v k n then 1 else 0) ∧ cI c 7 k n = (if met v k n then 1 else 0) ∧ cI c 8 k n = nI (mew v k n)) ∧ ∀ h, h < 8 → cI c 9 k h = dv 41 (v 41 (8 * k + h))
def WK (d : AD) (c : CH) (v : Nu) : Prop := cI c 100 0 10 = nI (v 46 0) ∧ (∀ k, k < v 46 0 → lvd d 5 k ∧ lvd d 6 k ∧ lvd d 7 k ∧ lvd d 8 k ∧ lvd d 9 k ∧ cQ c 107 0 k = some (5, k) ∧ KF c v k) ∧ ∀ k, v 46 0 ≤ k → ¬ lvd d 5 k ∧ ¬ lvd d 6 k ∧ ¬ lvd d 7 k ∧ ¬ lvd d 8 k ∧ ¬ lvd d 9 k
def CO (c : CH) (v : Nu) : Prop := (∀ h, h < 8 → cI c 108 0 h = nI (v 30 h)) ∧ (∀ i, i < 7 → cI c 109 0 i = nI (v 31 (i + 1))) ∧ cI c 100 0 11 = nI (v 33 0) ∧ (∀ i, i < v 33 0 → cI c 110 0 i = nI (v 32 i)) ∧ cI c 100 0 12 = nI (v 25 0)
/-- a set of things that is used again: sort r, its marks r + 1, its order r + 2 -/
def SR (c : CH) (r nT m : Nat) (od : Nat → Nat) : Prop := m ≤ 300 ∧ cI c r 0 2 = nI m ∧ (∀ i, i < m → od i < nT ∧ cQ c (r + 2) 0 i = some (1, od i)) ∧ (∀ i j, i < m → j < m → od i = od j → i = j) ∧ ∀ n, n < 300 → (cI c (r + 1) 0 n = 1 ∧ ∃ i, i < m ∧ od i = n) ∨ (cI c (r + 1) 0 n = 0 ∧ ¬ ∃ i, i < m ∧ od i = n)
def SX (c : CH) (nT : Nat) : Prop := (∃ m od, SR c 111 nT m od) ∧ (∃ m od, SR c 114 nT m od) ∧ (∃ m od, SR c 118 nT m od) ∧ cI c 117 0 4 = 0 ∧ ∀ n, n < 300 → cI c 121 0 n = 0
/-- the class's heap is as the tables say -/
def RC (d : AD) (c : CH) (v : Nu) (u : Mu) (w : Me) : Prop := WF d c ∧ FL d ∧ FX c ∧ TH d c v u w ∧ LE d c v ∧ WA d c v ∧ WK d c v ∧ CO c v ∧ SX c (v 9 0)
