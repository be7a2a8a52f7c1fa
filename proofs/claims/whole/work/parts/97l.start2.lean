/-! the reference's constructor -/
def rhP (o n a k : Nat) : Option Nat := if a = o ∧ k < 50 ∧ sc k = false ∧ fo k ≤ n then some (o + fo k) else none
def rhT (o n a : Nat) : Nat := if a = o then 11 else if o < a ∧ a ≤ o + n then ft (a - o) else 99
def rhN (o n a : Nat) : Nat := if o < a ∧ a ≤ o + n then fn (a - o) else 0
def RH (o n : Nat) : Hz := (fun _ _ => 0, fun _ _ => 0, rhP o n, rhT o n, rhN o n, o + n + 1)
theorem fo_fk : ∀ j, j < 45 → 0 < j → fo (fk j) = j ∧ fk j < 50 := by decide +kernel
theorem fo_eq : ∀ k, k < 50 → sc k = false → ∀ j, j < 45 → 0 < j → fo k = j → k = fk j := by decide +kernel
theorem fo_le : ∀ k, k < 50 → sc k = false → fo k ≤ 44 := by decide +kernel
theorem fo_pos {k : Nat} : 0 < fo k := by
  simp only [fo]
  omega
section RH0
variable {o n n1 t len k : Nat} {x : Int32}
theorem rh_step {α : Type} {K : Hz → Option α} (n : Nat) (t len k : Nat) (h0 : n < 44) (h1 : ft (n + 1) = t) (h2 : fn (n + 1) = len) (h3 : fk (n + 1) = k) (hx : x = nI len) (h5 : len < 2147483648) : (b2 (nA t len x (RH o n)) fun a s => (b1 (pP 11 k o (some a) s) K)) = K (RH o (n + 1)) := by
  subst h1 h2 h3 hx
  have a4 : va_up (rhT o n) (o + n + 1) (ft (n + 1)) = rhT o (n + 1) := by
    funext a
    by_cases e : a = o + n + 1
    · rw [e, va_up_self]
      simp only [rhT]
      rw [if_neg (by omega), if_pos (by omega), show o + n + 1 - o = n + 1 by omega]
    · rw [va_up_ne _ _ e]
      simp only [rhT]
      by_cases e2 : a = o
      · rw [if_pos e2, if_pos e2]
      · rw [if_neg e2, if_neg e2]
        by_cases g : o < a ∧ a ≤ o + n
        · rw [if_pos g, if_pos (by omega)]
        · rw [if_neg g, if_neg (by omega)]
  have a5 : va_up (rhN o n) (o + n + 1) (fn (n + 1)) = rhN o (n + 1) := by
    funext a
    by_cases e : a = o + n + 1
    · rw [e, va_up_self]
      simp only [rhN]
      rw [if_pos (by omega), show o + n + 1 - o = n + 1 by omega]
    · rw [va_up_ne _ _ e]
      simp only [rhN]
      by_cases g : o < a ∧ a ≤ o + n
      · rw [if_pos g, if_pos (by omega)]
      · rw [if_neg g, if_neg (by omega)]
  have a3 : va_up (rhP o n) (o + n + 1) (fun _ => none) = rhP o n := by
    funext a k
    by_cases e : a = o + n + 1
    · rw [e, va_up_self]
      simp only [rhP]
      rw [if_neg (by omega)]
    · rw [va_up_ne _ _ e]
  obtain ⟨f1, f2⟩ := fo_fk (n + 1) (by omega) (by omega)
  have f3 := fk_sc (n + 1) (by omega) (by omega)
  have a6 : zu (rhP o n) o (fk (n + 1)) (some (o + n + 1)) = rhP o (n + 1) := by
    funext a k
    simp only [zu, rhP]
    by_cases c : a = o ∧ k = fk (n + 1)
    · obtain ⟨c1, c2⟩ := c
      rw [if_pos ⟨c1, c2⟩, c2, if_pos ⟨c1, f2, f3, by omega⟩, f1]
      rfl
    · rw [if_neg c]
      by_cases g : a = o ∧ k < 50 ∧ sc k = false ∧ fo k ≤ n
      · rw [if_pos g, if_pos ⟨g.1, g.2.1, g.2.2.1, by omega⟩]
      · rw [if_neg g, if_neg]
        rintro ⟨g1, g2, g3, g4⟩
        by_cases e : fo k = n + 1
        · exact c ⟨g1, fo_eq k g2 g3 (n + 1) (by omega) (by omega) e⟩
        · exact g ⟨g1, g2, g3, by omega⟩
  have hnew : znew (ft (n + 1)) (fn (n + 1)) (RH o n) = (fun _ _ => 0, fun _ _ => 0, rhP o n, rhT o (n + 1), rhN o (n + 1), o + n + 1 + 1) := by
    show (va_up (fun _ _ => (0 : Int32)) (o + n + 1) (fun _ => 0), va_up (fun _ _ => (0 : Int64)) (o + n + 1) (fun _ => 0), va_up (rhP o n) (o + n + 1) (fun _ => none), va_up (rhT o n) (o + n + 1) (ft (n + 1)), va_up (rhN o n) (o + n + 1) (fn (n + 1)), o + n + 1 + 1) = _
    rw [a3, a4, a5, va_up_c, va_up_c]
  have hT : rhT o (n + 1) o = 11 := by simp only [rhT]; rw [if_pos trivial]
  rw [nA, if_pos ⟨nI_pos (by omega), by rw [nI_c h5]; exact Nat.le_refl _⟩, nI_c h5, b2_s, hnew, pP, if_pos (show zT _ o = 11 from hT), b1_s]
  show K (fun _ _ => 0, fun _ _ => 0, zu (rhP o n) o (fk (n + 1)) (some (o + n + 1)), rhT o (n + 1), rhN o (n + 1), o + n + 1 + 1) = _
  rw [a6]
  rfl
set_option maxHeartbeats 4000000 in
set_option maxRecDepth 10000 in
theorem rh_init : fX11_init o (RH o 0) = some ((), RH o 44) := by
  unfold fX11_init
  rw [rh_step (x := 300) 0 12 300 0 (by decide) rfl rfl rfl rfl (by decide),
    rh_step (x := 300) 1 12 300 1 (by decide) rfl rfl rfl rfl (by decide),
    rh_step (x := 300) 2 12 300 2 (by decide) rfl rfl rfl rfl (by decide),
    rh_step (x := 300) 3 12 300 3 (by decide) rfl rfl rfl rfl (by decide),
    rh_step (x := 300) 4 12 300 4 (by decide) rfl rfl rfl rfl (by decide),
    rh_step (x := 300) 5 12 300 5 (by decide) rfl rfl rfl rfl (by decide),
    rh_step (x := 300) 6 12 300 6 (by decide) rfl rfl rfl rfl (by decide),
    rh_step (x := 300) 7 14 300 7 (by decide) rfl rfl rfl rfl (by decide),
    rh_step (x := 300) 8 14 300 8 (by decide) rfl rfl rfl rfl (by decide),
    rh_step (x := 2400) 9 12 2400 10 (by decide) rfl rfl rfl rfl (by decide),
    rh_step (x := 2400) 10 12 2400 11 (by decide) rfl rfl rfl rfl (by decide),
    rh_step (x := 2400) 11 12 2400 12 (by decide) rfl rfl rfl rfl (by decide),
    rh_step (x := 76800) 12 13 76800 13 (by decide) rfl rfl rfl rfl (by decide),
    rh_step (x := 600) 13 12 600 14 (by decide) rfl rfl rfl rfl (by decide),
    rh_step (x := 600) 14 12 600 15 (by decide) rfl rfl rfl rfl (by decide),
    rh_step (x := 600) 15 12 600 16 (by decide) rfl rfl rfl rfl (by decide),
    rh_step (x := 600) 16 12 600 17 (by decide) rfl rfl rfl rfl (by decide),
    rh_step (x := 600) 17 12 600 18 (by decide) rfl rfl rfl rfl (by decide),
    rh_step (x := 600) 18 12 600 19 (by decide) rfl rfl rfl rfl (by decide),
    rh_step (x := 600) 19 12 600 20 (by decide) rfl rfl rfl rfl (by decide),
    rh_step (x := 600) 20 12 600 21 (by decide) rfl rfl rfl rfl (by decide),
    rh_step (x := 600) 21 12 600 22 (by decide) rfl rfl rfl rfl (by decide),
    rh_step (x := 600) 22 14 600 23 (by decide) rfl rfl rfl rfl (by decide),
    rh_step (x := 16) 23 12 16 26 (by decide) rfl rfl rfl rfl (by decide),
    rh_step (x := 16) 24 12 16 27 (by decide) rfl rfl rfl rfl (by decide),
    rh_step (x := 16) 25 12 16 28 (by decide) rfl rfl rfl rfl (by decide),
    rh_step (x := 8) 26 12 8 30 (by decide) rfl rfl rfl rfl (by decide),
    rh_step (x := 8) 27 12 8 31 (by decide) rfl rfl rfl rfl (by decide),
    rh_step (x := 300) 28 12 300 32 (by decide) rfl rfl rfl rfl (by decide),
    rh_step (x := 300) 29 14 300 34 (by decide) rfl rfl rfl rfl (by decide),
    rh_step (x := 300) 30 14 300 35 (by decide) rfl rfl rfl rfl (by decide),
    rh_step (x := 300) 31 12 300 36 (by decide) rfl rfl rfl rfl (by decide),
    rh_step (x := 20) 32 12 20 37 (by decide) rfl rfl rfl rfl (by decide),
    rh_step (x := 20) 33 12 20 38 (by decide) rfl rfl rfl rfl (by decide),
    rh_step (x := 20) 34 12 20 39 (by decide) rfl rfl rfl rfl (by decide),
    rh_step (x := 20) 35 12 20 40 (by decide) rfl rfl rfl rfl (by decide),
    rh_step (x := 160) 36 12 160 41 (by decide) rfl rfl rfl rfl (by decide),
    rh_step (x := 6000) 37 14 6000 42 (by decide) rfl rfl rfl rfl (by decide),
    rh_step (x := 6000) 38 14 6000 43 (by decide) rfl rfl rfl rfl (by decide),
    rh_step (x := 6000) 39 12 6000 44 (by decide) rfl rfl rfl rfl (by decide),
    rh_step (x := 30000) 40 13 30000 45 (by decide) rfl rfl rfl rfl (by decide),
    rh_step (x := 300) 41 14 300 47 (by decide) rfl rfl rfl rfl (by decide),
    rh_step (x := 300) 42 14 300 48 (by decide) rfl rfl rfl rfl (by decide),
    rh_step (x := 300) 43 12 300 49 (by decide) rfl rfl rfl rfl (by decide)]
theorem rh_one : znew 11 0 (zE0 o) = RH o 0 := by
  have a3 : va_up (fun _ _ => (none : Option Nat)) o (fun _ => none) = rhP o 0 := by
    rw [va_up_c]
    funext a k
    simp only [rhP]
    have := fo_pos (k := k)
    rw [if_neg (by omega)]
  have a4 : va_up (fun _ => 99) o 11 = rhT o 0 := by
    funext a
    by_cases e : a = o
    · rw [e, va_up_self]
      simp only [rhT]
      rw [if_pos trivial]
    · rw [va_up_ne _ _ e]
      simp only [rhT]
      rw [if_neg e, if_neg (by omega)]
  have a5 : va_up (fun _ => 0) o 0 = rhN o 0 := by
    rw [va_up_c]
    funext a
    simp only [rhN]
    rw [if_neg (by omega)]
  show (va_up (fun _ _ => (0 : Int32)) o (fun _ => 0), va_up (fun _ _ => (0 : Int64)) o (fun _ => 0), va_up (fun _ _ => (none : Option Nat)) o (fun _ => none), va_up (fun _ => 99) o 11, va_up (fun _ => 0) o 0, o + 1) = RH o 0
  rw [a3, a4, a5, va_up_c, va_up_c]
  rfl
theorem rh_mB : RH o 44 = mB o (o + 45) (fun _ _ => 0) (fun _ _ => 0) := by
  have a1 : (fun _ _ => (0 : Int32)) = mBi o (fun _ _ => 0) := by
    funext a i
    simp only [mBi]
    split
    · split <;> rfl
    · split <;> rfl
  have a2 : (fun _ _ => (0 : Int64)) = mBl o (fun _ _ => 0) := by
    funext a i
    simp only [mBl]
    split <;> rfl
  have a3 : rhP o 44 = mBp o := by
    funext a k
    simp only [rhP, mBp]
    by_cases g : a = o ∧ k < 50 ∧ sc k = false
    · rw [if_pos g, if_pos ⟨g.1, g.2.1, g.2.2, fo_le k g.2.1 g.2.2⟩]
    · rw [if_neg g, if_neg (fun h => g ⟨h.1, h.2.1, h.2.2.1⟩)]
  show ((fun _ _ => (0 : Int32)), (fun _ _ => (0 : Int64)), rhP o 44, rhT o 44, rhN o 44, o + 44 + 1) = (mBi o (fun _ _ => 0), mBl o (fun _ _ => 0), mBp o, mBt o, mBn o, o + 45)
  rw [← a1, ← a2, a3]
  rfl
end RH0
