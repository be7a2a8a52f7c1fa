/-! The constructors: cells in a row, from b on. -/
def lnl : List Nat := [0, 0, 300, 0, 600, 0, 16, 20, 8, 7, 300, 0, 300, 300, 0, 300, 300, 0, 0, 300, 300, 300, 300, 300]
def ln (j : Nat) : Nat := lnl.getD j 0
def lk : List ((Nat × Nat) × Nat) → Nat → Nat → Option Nat
  | [], _, _ => none
  | e :: E, j, k => if j = e.1.1 ∧ k = e.1.2 then some e.2 else lk E j k
def lkb (n : Nat) (E : List ((Nat × Nat) × Nat)) : Bool := E.all (fun e => decide (e.1.1 < n) && decide (e.2 < n))
theorem lk_b {n j k i : Nat} : ∀ {E : List ((Nat × Nat) × Nat)}, lkb n E = true → lk E j k = some i → j < n ∧ i < n := by
  intro E
  induction E with
  | nil => intro _ h; cases h
  | cons e E ih =>
    intro h1 h2
    have h1' : ((decide (e.1.1 < n) && decide (e.2 < n)) && lkb n E) = true := h1
    rw [Bool.and_eq_true, Bool.and_eq_true, decide_eq_true_iff, decide_eq_true_iff] at h1'
    have h2' : (if j = e.1.1 ∧ k = e.1.2 then some e.2 else lk E j k) = some i := h2
    by_cases c : j = e.1.1 ∧ k = e.1.2
    · rw [if_pos c] at h2'
      have := Option.some.inj h2'
      omega
    · rw [if_neg c] at h2'
      exact ih h1'.2 h2'
def shP (b : Nat) (E : List ((Nat × Nat) × Nat)) (a k : Nat) : Option Nat := if b ≤ a then (lk E (a - b) k).map (fun i => b + i) else none
def shT (b n a : Nat) : Nat := if b ≤ a ∧ a < b + n then TK (100 + (a - b)) else 99
def shN (b n a : Nat) : Nat := if b ≤ a ∧ a < b + n then ln (a - b) else 0
def SH (b n : Nat) (E : List ((Nat × Nat) × Nat)) : Hz := (fun _ _ => 0, fun _ _ => 0, shP b E, shT b n, shN b n, b + n)
section SH0
variable {b n n1 t len j i k B : Nat} {E : List ((Nat × Nat) × Nat)} {x : Int32}
theorem va_up_c {α : Type} (v : α) (k : Nat) : va_up (fun _ => v) k v = fun _ => v := by
  funext a
  by_cases e : a = k
  · rw [e, va_up_self]
  · rw [va_up_ne _ _ e]
theorem sh_new (h1 : n1 = n + 1) (h2 : TK (100 + n) = t) (h3 : ln n = len) (hE : lkb n E = true) : znew t len (SH b n E) = SH b n1 E := by
  subst h1 h2 h3
  have a3 : va_up (shP b E) (b + n) (fun _ => none) = shP b E := by
    funext a k
    by_cases e : a = b + n
    · rw [e, va_up_self]
      simp only [shP]
      rw [if_pos (by omega), show b + n - b = n by omega]
      cases h : lk E n k with
      | none => rfl
      | some i =>
        have := lk_b hE h
        omega
    · rw [va_up_ne _ _ e]
  have a4 : va_up (shT b n) (b + n) (TK (100 + n)) = shT b (n + 1) := by
    funext a
    by_cases e : a = b + n
    · rw [e, va_up_self]
      simp only [shT]
      rw [if_pos (by omega), show b + n - b = n by omega]
    · rw [va_up_ne _ _ e]
      simp only [shT]
      by_cases g : b ≤ a ∧ a < b + n
      · rw [if_pos g, if_pos (by omega)]
      · rw [if_neg g, if_neg (by omega)]
  have a5 : va_up (shN b n) (b + n) (ln n) = shN b (n + 1) := by
    funext a
    by_cases e : a = b + n
    · rw [e, va_up_self]
      simp only [shN]
      rw [if_pos (by omega), show b + n - b = n by omega]
    · rw [va_up_ne _ _ e]
      simp only [shN]
      by_cases g : b ≤ a ∧ a < b + n
      · rw [if_pos g, if_pos (by omega)]
      · rw [if_neg g, if_neg (by omega)]
  show (va_up (fun _ _ => (0 : Int32)) (b + n) (fun _ => 0), va_up (fun _ _ => (0 : Int64)) (b + n) (fun _ => 0), va_up (shP b E) (b + n) (fun _ => none), va_up (shT b n) (b + n) (TK (100 + n)), va_up (shN b n) (b + n) (ln n), b + n + 1) = SH b (n + 1) E
  rw [a3, a4, a5, va_up_c, va_up_c]
  rfl
theorem sh_nO (h1 : n1 = n + 1) (h2 : TK (100 + n) = t) (h3 : ln n = 0) (hE : lkb n E = true) : nO t (SH b n E) = some (b + n, SH b n1 E) := by
  rw [nO, sh_new h1 h2 h3 hE]
  rfl
theorem sh_nA (h1 : n1 = n + 1) (h2 : TK (100 + n) = t) (h3 : ln n = len) (hE : lkb n E = true) (hx : x = nI len) (h4 : len ≤ B) (h5 : len < 2147483648) : nA t B x (SH b n E) = some (b + n, SH b n1 E) := by
  rw [hx, nA, if_pos ⟨nI_pos (by omega), by rw [nI_c h5]; exact h4⟩, nI_c h5, sh_new h1 h2 h3 hE]
  rfl
theorem shT_at (hj : j < n) : shT b n (b + j) = TK (100 + j) := by
  simp only [shT]
  rw [if_pos (by omega), show b + j - b = j by omega]
theorem sh_pP (ht : TK (100 + j) = t) (hj : j < n) : pP t k (b + j) (some (b + i)) (SH b n E) = some (SH b n (((j, k), i) :: E)) := by
  have e1 : zT (SH b n E) (b + j) = t := (shT_at hj).trans ht
  rw [pP, if_pos e1]
  have e2 : zu (shP b E) (b + j) k (some (b + i)) = shP b (((j, k), i) :: E) := by
    funext a m
    simp only [zu, shP, lk]
    by_cases c : a = b + j ∧ m = k
    · rw [if_pos c, if_pos (by omega), if_pos ⟨by omega, c.2⟩]
      rfl
    · rw [if_neg c]
      by_cases g : b ≤ a
      · rw [if_pos g, if_pos g, if_neg (fun h => c ⟨by omega, h.2⟩)]
      · rw [if_neg g, if_neg g]
  show some ((fun _ _ => (0 : Int32)), (fun _ _ => (0 : Int64)), zu (shP b E) (b + j) k (some (b + i)), shT b n, shN b n, b + n) = _
  rw [e2]
  rfl
theorem sh_pI (ht : TK (100 + j) = t) (hj : j < n) : pI t k (b + j) 0 (SH b n E) = some (SH b n E) := by
  have e1 : zT (SH b n E) (b + j) = t := (shT_at hj).trans ht
  rw [pI, if_pos e1]
  have e2 : zu (fun _ _ => (0 : Int32)) (b + j) k 0 = fun _ _ => 0 := by
    funext a m
    simp only [zu]
    split <;> rfl
  show some (zu (fun _ _ => (0 : Int32)) (b + j) k 0, (fun _ _ => (0 : Int64)), shP b E, shT b n, shN b n, b + n) = _
  rw [e2]
  rfl
def E24 : List ((Nat × Nat) × Nat) := [((0, 9), 17), ((17, 3), 23), ((17, 2), 22), ((17, 1), 21), ((17, 0), 18), ((18, 1), 20), ((18, 0), 19), ((0, 8), 14), ((14, 1), 16), ((14, 0), 15), ((0, 7), 11), ((11, 1), 13), ((11, 0), 12), ((0, 6), 10), ((0, 5), 9), ((0, 4), 8), ((0, 3), 7), ((0, 2), 5), ((5, 0), 6), ((0, 1), 3), ((3, 0), 4), ((0, 0), 1), ((1, 0), 2)]
set_option maxHeartbeats 4000000 in
set_option maxRecDepth 10000 in
theorem sh_init : fX10_init (b + 0) (SH b 1 []) = some ((), SH b 24 E24) := by
  unfold fX10_init
  rw [sh_nO (n := 1) (n1 := 2) (t := 6) (E := []) rfl rfl rfl rfl, b2_s, fX6_init, sh_nA (n := 2) (n1 := 3) (t := 17) (len := 300) (x := 300) (E := []) rfl rfl rfl rfl rfl (by decide) (by decide), b2_s, sh_pP (t := 6) (k := 0) (j := 1) (i := 2) rfl (by decide), b1_s, sh_pI (t := 6) (k := 1) (j := 1) rfl (by decide), b1_s, b2_s, sh_pP (t := 10) (k := 0) (j := 0) (i := 1) rfl (by decide), b1_s, sh_nO (n := 3) (n1 := 4) (t := 2) (E := [((0, 0), 1), ((1, 0), 2)]) rfl rfl rfl rfl, b2_s, fX2_init, sh_nA (n := 4) (n1 := 5) (t := 15) (len := 600) (x := 600) (E := [((0, 0), 1), ((1, 0), 2)]) rfl rfl rfl rfl rfl (by decide) (by decide), b2_s, sh_pP (t := 2) (k := 0) (j := 3) (i := 4) rfl (by decide), b1_s, sh_pI (t := 2) (k := 1) (j := 3) rfl (by decide), b1_s, b2_s, sh_pP (t := 10) (k := 1) (j := 0) (i := 3) rfl (by decide), b1_s, sh_nO (n := 5) (n1 := 6) (t := 7) (E := [((0, 1), 3), ((3, 0), 4), ((0, 0), 1), ((1, 0), 2)]) rfl rfl rfl rfl, b2_s, fX7_init, sh_nA (n := 6) (n1 := 7) (t := 18) (len := 16) (x := 16) (E := [((0, 1), 3), ((3, 0), 4), ((0, 0), 1), ((1, 0), 2)]) rfl rfl rfl rfl rfl (by decide) (by decide), b2_s, sh_pP (t := 7) (k := 0) (j := 5) (i := 6) rfl (by decide), b1_s, sh_pI (t := 7) (k := 1) (j := 5) rfl (by decide), b1_s, b2_s, sh_pP (t := 10) (k := 2) (j := 0) (i := 5) rfl (by decide), b1_s, sh_nA (n := 7) (n1 := 8) (t := 19) (len := 20) (x := 20) (E := [((0, 2), 5), ((5, 0), 6), ((0, 1), 3), ((3, 0), 4), ((0, 0), 1), ((1, 0), 2)]) rfl rfl rfl rfl rfl (by decide) (by decide), b2_s, sh_pP (t := 10) (k := 3) (j := 0) (i := 7) rfl (by decide), b1_s, sh_nA (n := 8) (n1 := 9) (t := 12) (len := 8) (x := 8) (E := [((0, 3), 7), ((0, 2), 5), ((5, 0), 6), ((0, 1), 3), ((3, 0), 4), ((0, 0), 1), ((1, 0), 2)]) rfl rfl rfl rfl rfl (by decide) (by decide), b2_s, sh_pP (t := 10) (k := 4) (j := 0) (i := 8) rfl (by decide), b1_s, sh_nA (n := 9) (n1 := 10) (t := 12) (len := 7) (x := 7) (E := [((0, 4), 8), ((0, 3), 7), ((0, 2), 5), ((5, 0), 6), ((0, 1), 3), ((3, 0), 4), ((0, 0), 1), ((1, 0), 2)]) rfl rfl rfl rfl rfl (by decide) (by decide), b2_s, sh_pP (t := 10) (k := 5) (j := 0) (i := 9) rfl (by decide), b1_s, sh_nA (n := 10) (n1 := 11) (t := 12) (len := 300) (x := 300) (E := [((0, 5), 9), ((0, 4), 8), ((0, 3), 7), ((0, 2), 5), ((5, 0), 6), ((0, 1), 3), ((3, 0), 4), ((0, 0), 1), ((1, 0), 2)]) rfl rfl rfl rfl rfl (by decide) (by decide), b2_s, sh_pP (t := 10) (k := 6) (j := 0) (i := 10) rfl (by decide), b1_s, sh_nO (n := 11) (n1 := 12) (t := 3) (E := [((0, 6), 10), ((0, 5), 9), ((0, 4), 8), ((0, 3), 7), ((0, 2), 5), ((5, 0), 6), ((0, 1), 3), ((3, 0), 4), ((0, 0), 1), ((1, 0), 2)]) rfl rfl rfl rfl, b2_s, fX3_init, sh_nA (n := 12) (n1 := 13) (t := 14) (len := 300) (x := 300) (E := [((0, 6), 10), ((0, 5), 9), ((0, 4), 8), ((0, 3), 7), ((0, 2), 5), ((5, 0), 6), ((0, 1), 3), ((3, 0), 4), ((0, 0), 1), ((1, 0), 2)]) rfl rfl rfl rfl rfl (by decide) (by decide), b2_s, sh_pP (t := 3) (k := 0) (j := 11) (i := 12) rfl (by decide), b1_s, sh_nA (n := 13) (n1 := 14) (t := 17) (len := 300) (x := 300) (E := [((11, 0), 12), ((0, 6), 10), ((0, 5), 9), ((0, 4), 8), ((0, 3), 7), ((0, 2), 5), ((5, 0), 6), ((0, 1), 3), ((3, 0), 4), ((0, 0), 1), ((1, 0), 2)]) rfl rfl rfl rfl rfl (by decide) (by decide), b2_s, sh_pP (t := 3) (k := 1) (j := 11) (i := 13) rfl (by decide), b1_s, sh_pI (t := 3) (k := 2) (j := 11) rfl (by decide), b1_s, b2_s, sh_pP (t := 10) (k := 7) (j := 0) (i := 11) rfl (by decide), b1_s, sh_nO (n := 14) (n1 := 15) (t := 3) (E := [((0, 7), 11), ((11, 1), 13), ((11, 0), 12), ((0, 6), 10), ((0, 5), 9), ((0, 4), 8), ((0, 3), 7), ((0, 2), 5), ((5, 0), 6), ((0, 1), 3), ((3, 0), 4), ((0, 0), 1), ((1, 0), 2)]) rfl rfl rfl rfl, b2_s, fX3_init, sh_nA (n := 15) (n1 := 16) (t := 14) (len := 300) (x := 300) (E := [((0, 7), 11), ((11, 1), 13), ((11, 0), 12), ((0, 6), 10), ((0, 5), 9), ((0, 4), 8), ((0, 3), 7), ((0, 2), 5), ((5, 0), 6), ((0, 1), 3), ((3, 0), 4), ((0, 0), 1), ((1, 0), 2)]) rfl rfl rfl rfl rfl (by decide) (by decide), b2_s, sh_pP (t := 3) (k := 0) (j := 14) (i := 15) rfl (by decide), b1_s, sh_nA (n := 16) (n1 := 17) (t := 17) (len := 300) (x := 300) (E := [((14, 0), 15), ((0, 7), 11), ((11, 1), 13), ((11, 0), 12), ((0, 6), 10), ((0, 5), 9), ((0, 4), 8), ((0, 3), 7), ((0, 2), 5), ((5, 0), 6), ((0, 1), 3), ((3, 0), 4), ((0, 0), 1), ((1, 0), 2)]) rfl rfl rfl rfl rfl (by decide) (by decide), b2_s, sh_pP (t := 3) (k := 1) (j := 14) (i := 16) rfl (by decide), b1_s, sh_pI (t := 3) (k := 2) (j := 14) rfl (by decide), b1_s, b2_s, sh_pP (t := 10) (k := 8) (j := 0) (i := 14) rfl (by decide), b1_s, sh_nO (n := 17) (n1 := 18) (t := 1) (E := [((0, 8), 14), ((14, 1), 16), ((14, 0), 15), ((0, 7), 11), ((11, 1), 13), ((11, 0), 12), ((0, 6), 10), ((0, 5), 9), ((0, 4), 8), ((0, 3), 7), ((0, 2), 5), ((5, 0), 6), ((0, 1), 3), ((3, 0), 4), ((0, 0), 1), ((1, 0), 2)]) rfl rfl rfl rfl, b2_s, fX1_init, sh_nO (n := 18) (n1 := 19) (t := 3) (E := [((0, 8), 14), ((14, 1), 16), ((14, 0), 15), ((0, 7), 11), ((11, 1), 13), ((11, 0), 12), ((0, 6), 10), ((0, 5), 9), ((0, 4), 8), ((0, 3), 7), ((0, 2), 5), ((5, 0), 6), ((0, 1), 3), ((3, 0), 4), ((0, 0), 1), ((1, 0), 2)]) rfl rfl rfl rfl, b2_s, fX3_init, sh_nA (n := 19) (n1 := 20) (t := 14) (len := 300) (x := 300) (E := [((0, 8), 14), ((14, 1), 16), ((14, 0), 15), ((0, 7), 11), ((11, 1), 13), ((11, 0), 12), ((0, 6), 10), ((0, 5), 9), ((0, 4), 8), ((0, 3), 7), ((0, 2), 5), ((5, 0), 6), ((0, 1), 3), ((3, 0), 4), ((0, 0), 1), ((1, 0), 2)]) rfl rfl rfl rfl rfl (by decide) (by decide), b2_s, sh_pP (t := 3) (k := 0) (j := 18) (i := 19) rfl (by decide), b1_s, sh_nA (n := 20) (n1 := 21) (t := 17) (len := 300) (x := 300) (E := [((18, 0), 19), ((0, 8), 14), ((14, 1), 16), ((14, 0), 15), ((0, 7), 11), ((11, 1), 13), ((11, 0), 12), ((0, 6), 10), ((0, 5), 9), ((0, 4), 8), ((0, 3), 7), ((0, 2), 5), ((5, 0), 6), ((0, 1), 3), ((3, 0), 4), ((0, 0), 1), ((1, 0), 2)]) rfl rfl rfl rfl rfl (by decide) (by decide), b2_s, sh_pP (t := 3) (k := 1) (j := 18) (i := 20) rfl (by decide), b1_s, sh_pI (t := 3) (k := 2) (j := 18) rfl (by decide), b1_s, b2_s, sh_pP (t := 1) (k := 0) (j := 17) (i := 18) rfl (by decide), b1_s, sh_nA (n := 21) (n1 := 22) (t := 14) (len := 300) (x := 300) (E := [((17, 0), 18), ((18, 1), 20), ((18, 0), 19), ((0, 8), 14), ((14, 1), 16), ((14, 0), 15), ((0, 7), 11), ((11, 1), 13), ((11, 0), 12), ((0, 6), 10), ((0, 5), 9), ((0, 4), 8), ((0, 3), 7), ((0, 2), 5), ((5, 0), 6), ((0, 1), 3), ((3, 0), 4), ((0, 0), 1), ((1, 0), 2)]) rfl rfl rfl rfl rfl (by decide) (by decide), b2_s, sh_pP (t := 1) (k := 1) (j := 17) (i := 21) rfl (by decide), b1_s, sh_nA (n := 22) (n1 := 23) (t := 17) (len := 300) (x := 300) (E := [((17, 1), 21), ((17, 0), 18), ((18, 1), 20), ((18, 0), 19), ((0, 8), 14), ((14, 1), 16), ((14, 0), 15), ((0, 7), 11), ((11, 1), 13), ((11, 0), 12), ((0, 6), 10), ((0, 5), 9), ((0, 4), 8), ((0, 3), 7), ((0, 2), 5), ((5, 0), 6), ((0, 1), 3), ((3, 0), 4), ((0, 0), 1), ((1, 0), 2)]) rfl rfl rfl rfl rfl (by decide) (by decide), b2_s, sh_pP (t := 1) (k := 2) (j := 17) (i := 22) rfl (by decide), b1_s, sh_nA (n := 23) (n1 := 24) (t := 12) (len := 300) (x := 300) (E := [((17, 2), 22), ((17, 1), 21), ((17, 0), 18), ((18, 1), 20), ((18, 0), 19), ((0, 8), 14), ((14, 1), 16), ((14, 0), 15), ((0, 7), 11), ((11, 1), 13), ((11, 0), 12), ((0, 6), 10), ((0, 5), 9), ((0, 4), 8), ((0, 3), 7), ((0, 2), 5), ((5, 0), 6), ((0, 1), 3), ((3, 0), 4), ((0, 0), 1), ((1, 0), 2)]) rfl rfl rfl rfl rfl (by decide) (by decide), b2_s, sh_pP (t := 1) (k := 3) (j := 17) (i := 23) rfl (by decide), b1_s, sh_pI (t := 1) (k := 4) (j := 17) rfl (by decide), b1_s, b2_s, sh_pP (t := 10) (k := 9) (j := 0) (i := 17) rfl (by decide), b1_s, sh_pI (t := 10) (k := 10) (j := 0) rfl (by decide), b1_s, sh_pI (t := 10) (k := 11) (j := 0) rfl (by decide), b1_s, sh_pI (t := 10) (k := 12) (j := 0) rfl (by decide), b1_s]
  rfl
theorem sh_one : znew 10 0 (zE0 b) = SH b 1 [] := by
  have a3 : va_up (fun _ _ => (none : Option Nat)) b (fun _ => none) = shP b [] := by
    rw [va_up_c]
    funext a k
    simp only [shP, lk]
    split <;> rfl
  have a4 : va_up (fun _ => 99) b 10 = shT b 1 := by
    funext a
    by_cases e : a = b
    · rw [e, va_up_self]
      simp only [shT]
      rw [if_pos (by omega), show b - b = 0 by omega]
      rfl
    · rw [va_up_ne _ _ e]
      simp only [shT]
      rw [if_neg (by omega)]
  have a5 : va_up (fun _ => 0) b 0 = shN b 1 := by
    rw [va_up_c]
    funext a
    simp only [shN]
    split
    · rename_i h
      rw [show a - b = 0 by omega]
      rfl
    · rfl
  show (va_up (fun _ _ => (0 : Int32)) b (fun _ => 0), va_up (fun _ _ => (0 : Int64)) b (fun _ => 0), va_up (fun _ _ => (none : Option Nat)) b (fun _ => none), va_up (fun _ => 99) b 10, va_up (fun _ => 0) b 0, b + 1) = SH b 1 []
  rw [a3, a4, a5, va_up_c, va_up_c]
  rfl
end SH0
