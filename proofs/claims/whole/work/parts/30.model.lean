/-! The reference's heap: its object at o, its arrays at o + 1 to o + 44, what they hold by the number of the field. -/
def mfl : List Nat := [0, 1, 2, 3, 4, 5, 6, 7, 8, 10, 11, 12, 13, 14, 15, 16, 17, 18, 19, 20, 21, 22, 23, 26, 27, 28, 30, 31, 32, 34, 35, 36, 37, 38, 39, 40, 41, 42, 43, 44, 45, 47, 48, 49]
def mtl : List Nat := [12, 12, 12, 12, 12, 12, 12, 14, 14, 12, 12, 12, 13, 12, 12, 12, 12, 12, 12, 12, 12, 12, 14, 12, 12, 12, 12, 12, 12, 14, 14, 12, 12, 12, 12, 12, 12, 14, 14, 12, 13, 14, 14, 12]
def mnl : List Nat := [300, 300, 300, 300, 300, 300, 300, 300, 300, 2400, 2400, 2400, 76800, 600, 600, 600, 600, 600, 600, 600, 600, 600, 600, 16, 16, 16, 8, 8, 300, 300, 300, 300, 20, 20, 20, 20, 160, 6000, 6000, 6000, 30000, 300, 300, 300]
/-- by the array's place: its field, its kind, its length; by the field: its place -/
def fk (j : Nat) : Nat := mfl.getD (j - 1) 9
def ft (j : Nat) : Nat := mtl.getD (j - 1) 99
def fn (j : Nat) : Nat := mnl.getD (j - 1) 0
def fo (k : Nat) : Nat := mfl.findIdx (fun x => x == k) + 1
def sc (k : Nat) : Bool := k == 9 || k == 24 || k == 25 || k == 29 || k == 33 || k == 46
abbrev Mu : Type := Nat → Nat → Int32
abbrev Me : Type := Nat → Nat → Int64
def mBi (o : Nat) (u : Mu) (a i : Nat) : Int32 := if a = o then (if sc i = true then u i 0 else 0) else if o < a ∧ a ≤ o + 44 then u (fk (a - o)) i else 0
def mBl (o : Nat) (w : Me) (a i : Nat) : Int64 := if o < a ∧ a ≤ o + 44 then w (fk (a - o)) i else 0
def mBp (o a k : Nat) : Option Nat := if a = o ∧ k < 50 ∧ sc k = false then some (o + fo k) else none
def mBt (o a : Nat) : Nat := if a = o then 11 else if o < a ∧ a ≤ o + 44 then ft (a - o) else 99
def mBn (o a : Nat) : Nat := if o < a ∧ a ≤ o + 44 then fn (a - o) else 0
def mB (o z : Nat) (u : Mu) (w : Me) : Hz := (mBi o u, mBl o w, mBp o, mBt o, mBn o, z)
/-- reading within bounds -/
def mI (k len : Nat) (i : Int32) (u : Mu) : Option Int32 := if ¬ (i < 0 ∨ len ≤ i.toNatClampNeg) then some (u k i.toNatClampNeg) else none
def mL (k len : Nat) (i : Int32) (w : Me) : Option Int64 := if ¬ (i < 0 ∨ len ≤ i.toNatClampNeg) then some (w k i.toNatClampNeg) else none
def mC (len : Nat) (i : Int32) : Prop := ¬ (i < 0 ∨ len ≤ i.toNatClampNeg)
theorem fk_inj : ∀ a, a < 45 → 0 < a → ∀ b, b < 45 → 0 < b → fk a = fk b → a = b := by decide +kernel
theorem fk_sc : ∀ a, a < 45 → 0 < a → sc (fk a) = false := by decide +kernel
theorem mBi_at {o j i : Nat} {u : Mu} (h1 : 0 < j) (h2 : j ≤ 44) : mBi o u (o + j) i = u (fk j) i := by
  simp only [mBi]
  rw [if_neg (by omega), if_pos (by omega), show o + j - o = j by omega]
theorem mBl_at {o j i : Nat} {w : Me} (h1 : 0 < j) (h2 : j ≤ 44) : mBl o w (o + j) i = w (fk j) i := by
  simp only [mBl]
  rw [if_pos (by omega), show o + j - o = j by omega]
theorem mBt_at {o j : Nat} (h1 : 0 < j) (h2 : j ≤ 44) : mBt o (o + j) = ft j := by
  simp only [mBt]
  rw [if_neg (by omega), if_pos (by omega), show o + j - o = j by omega]
theorem mBn_at {o j : Nat} (h1 : 0 < j) (h2 : j ≤ 44) : mBn o (o + j) = fn j := by
  simp only [mBn]
  rw [if_pos (by omega), show o + j - o = j by omega]
theorem mBi_w {o j n : Nat} {u : Mu} {v : Int32} (h1 : 0 < j) (h2 : j ≤ 44) : zu (mBi o u) (o + j) n v = mBi o (zu u (fk j) n v) := by
  funext a i
  have hsc := fk_sc j (by omega) h1
  by_cases ha : a = o
  · subst ha
    have : ¬ a = a + j := by omega
    simp only [zu, mBi, this, false_and, if_false, if_true]
    by_cases hs : sc i = true
    · have hne : ¬ i = fk j := fun e => by rw [e, hsc] at hs; cases hs
      simp [hs, hne]
    · simp [hs]
  · by_cases hr : o < a ∧ a ≤ o + 44
    · have e1 : a = o + (a - o) := by omega
      by_cases hj : a = o + j
      · subst hj
        simp only [zu, mBi, if_neg ha, if_pos hr, show o + j - o = j by omega, true_and]
      · have hne : ¬ fk (a - o) = fk j := fun e => hj (by have := fk_inj (a - o) (by omega) (by omega) j (by omega) h1 e; omega)
        simp only [zu, mBi, if_neg ha, if_pos hr, hj, hne, false_and, if_false]
    · have hj : ¬ a = o + j := by omega
      simp only [zu, mBi, if_neg ha, if_neg hr, hj, false_and, if_false]
theorem mBl_w {o j n : Nat} {w : Me} {v : Int64} (h1 : 0 < j) (h2 : j ≤ 44) : zu (mBl o w) (o + j) n v = mBl o (zu w (fk j) n v) := by
  funext a i
  by_cases hr : o < a ∧ a ≤ o + 44
  · by_cases hj : a = o + j
    · subst hj
      simp only [zu, mBl, if_pos hr, show o + j - o = j by omega, true_and]
    · have hne : ¬ fk (a - o) = fk j := fun e => hj (by have := fk_inj (a - o) (by omega) (by omega) j (by omega) h1 e; omega)
      simp only [zu, mBl, if_pos hr, hj, hne, false_and, if_false]
  · have hj : ¬ a = o + j := by omega
    simp only [zu, mBl, if_neg hr, hj, false_and, if_false]
theorem mBi_s {o k : Nat} {u : Mu} {v : Int32} (hk : sc k = true) : zu (mBi o u) o k v = mBi o (zu u k 0 v) := by
  funext a i
  by_cases ha : a = o
  · subst ha
    by_cases hi : i = k
    · subst hi
      simp [zu, mBi, hk]
    · by_cases hs : sc i = true <;> simp [zu, mBi, hs, hi]
  · by_cases hr : o < a ∧ a ≤ o + 44
    · have hne : ¬ fk (a - o) = k := fun e => by have := fk_sc (a - o) (by omega) (by omega); rw [e, hk] at this; cases this
      simp only [zu, mBi, ha, if_pos hr, hne, false_and, if_false]
    · simp only [zu, mBi, ha, if_neg hr, false_and, if_false]
section MB
variable {o z : Nat} {u : Mu} {w : Me} {i v : Int32} {x : Int64}
theorem mtg : tg 11 o (mB o z u w) = some o := by simp [tg, mB, mBt, zT]
theorem mgA {k : Nat} (j : Nat) (hk : k < 50) (hs : sc k = false) (hj : fo k = j) : gA 11 k o (mB o z u w) = some (o + j) := by
  subst hj
  simp [gA, mB, mBt, mBp, zT, zP, hk, hs]
theorem mgI {k : Nat} (hs : sc k = true) : gI 11 k o (mB o z u w) = some (u k 0) := by simp [gI, mB, mBt, mBi, zT, zI, hs]
theorem mpI {k : Nat} (hs : sc k = true) : pI 11 k o v (mB o z u w) = some (mB o z (zu u k 0 v) w) := by
  have h1 : zT (mB o z u w) o = 11 := by simp [mB, mBt, zT]
  simp only [pI, h1, if_true, zwI]
  show some (zu (mBi o u) o k v, _) = _
  rw [mBi_s hs]
  rfl
theorem mxI {t k n : Nat} (j : Nat) (h1 : 0 < j) (h2 : j ≤ 44) (ht : ft j = t) (hk : fk j = k) (hn : fn j = n) : xI t (o + j) i (mB o z u w) = mI k n i u := by
  subst ht; subst hk; subst hn
  have e1 : zT (mB o z u w) (o + j) = ft j := mBt_at h1 h2
  have e2 : zN (mB o z u w) (o + j) = fn j := mBn_at h1 h2
  simp only [xI, mI, e1, e2, true_and]
  show (if _ then some (mBi o u (o + j) _) else none) = _
  rw [mBi_at h1 h2]
theorem myI {k n : Nat} (j : Nat) (h1 : 0 < j) (h2 : j ≤ 44) (ht : ft j = 12) (hk : fk j = k) (hn : fn j = n) (hi : mC n i) : yI (o + j) i v (mB o z u w) = some (mB o z (zu u k i.toNatClampNeg v) w) := by
  subst hk; subst hn
  have e1 : zT (mB o z u w) (o + j) = 12 := (mBt_at h1 h2).trans ht
  have e2 : zN (mB o z u w) (o + j) = fn j := mBn_at h1 h2
  simp only [yI, e1, e2, true_and]
  rw [if_pos (show ¬ (i < 0 ∨ fn j ≤ i.toNatClampNeg) from hi)]
  simp only [zwI]
  show some (zu (mBi o u) (o + j) _ v, _) = _
  rw [mBi_w h1 h2]
  rfl
theorem myZ {k n : Nat} (j : Nat) (h1 : 0 < j) (h2 : j ≤ 44) (ht : ft j = 14) (hk : fk j = k) (hn : fn j = n) (hi : mC n i) : yZ (o + j) i v (mB o z u w) = some (mB o z (zu u k i.toNatClampNeg (vp_nar .boolean v)) w) := by
  subst hk; subst hn
  have e1 : zT (mB o z u w) (o + j) = 14 := (mBt_at h1 h2).trans ht
  have e2 : zN (mB o z u w) (o + j) = fn j := mBn_at h1 h2
  simp only [yZ, e1, e2, true_and]
  rw [if_pos (show ¬ (i < 0 ∨ fn j ≤ i.toNatClampNeg) from hi)]
  simp only [zwI]
  show some (zu (mBi o u) (o + j) _ _, _) = _
  rw [mBi_w h1 h2]
  rfl
theorem mxL {k n : Nat} (j : Nat) (h1 : 0 < j) (h2 : j ≤ 44) (ht : ft j = 13) (hk : fk j = k) (hn : fn j = n) : xL (o + j) i (mB o z u w) = mL k n i w := by
  subst hk; subst hn
  have e1 : zT (mB o z u w) (o + j) = 13 := (mBt_at h1 h2).trans ht
  have e2 : zN (mB o z u w) (o + j) = fn j := mBn_at h1 h2
  simp only [xL, mL, e1, e2, true_and]
  show (if _ then some (mBl o w (o + j) _) else none) = _
  rw [mBl_at h1 h2]
theorem myL {k n : Nat} (j : Nat) (h1 : 0 < j) (h2 : j ≤ 44) (ht : ft j = 13) (hk : fk j = k) (hn : fn j = n) (hi : mC n i) : yL (o + j) i x (mB o z u w) = some (mB o z u (zu w k i.toNatClampNeg x)) := by
  subst hk; subst hn
  have e1 : zT (mB o z u w) (o + j) = 13 := (mBt_at h1 h2).trans ht
  have e2 : zN (mB o z u w) (o + j) = fn j := mBn_at h1 h2
  simp only [yL, e1, e2, true_and]
  rw [if_pos (show ¬ (i < 0 ∨ fn j ≤ i.toNatClampNeg) from hi)]
  simp only [zwL]
  show some (_, zu (mBl o w) (o + j) _ x, _) = _
  rw [mBl_w h1 h2]
  rfl
theorem mA0 : gA 11 0 o (mB o z u w) = some (o + 1) := mgA 1 (by decide) rfl rfl
theorem mX0 : xI 12 (o + 1) i (mB o z u w) = mI 0 300 i u := mxI 1 (by decide) (by decide) rfl rfl rfl
theorem mY0 (h : mC 300 i) : yI (o + 1) i v (mB o z u w) = some (mB o z (zu u 0 i.toNatClampNeg v) w) := myI 1 (by decide) (by decide) rfl rfl rfl h
theorem mA1 : gA 11 1 o (mB o z u w) = some (o + 2) := mgA 2 (by decide) rfl rfl
theorem mX1 : xI 12 (o + 2) i (mB o z u w) = mI 1 300 i u := mxI 2 (by decide) (by decide) rfl rfl rfl
theorem mY1 (h : mC 300 i) : yI (o + 2) i v (mB o z u w) = some (mB o z (zu u 1 i.toNatClampNeg v) w) := myI 2 (by decide) (by decide) rfl rfl rfl h
theorem mA2 : gA 11 2 o (mB o z u w) = some (o + 3) := mgA 3 (by decide) rfl rfl
theorem mX2 : xI 12 (o + 3) i (mB o z u w) = mI 2 300 i u := mxI 3 (by decide) (by decide) rfl rfl rfl
theorem mY2 (h : mC 300 i) : yI (o + 3) i v (mB o z u w) = some (mB o z (zu u 2 i.toNatClampNeg v) w) := myI 3 (by decide) (by decide) rfl rfl rfl h
theorem mA3 : gA 11 3 o (mB o z u w) = some (o + 4) := mgA 4 (by decide) rfl rfl
theorem mX3 : xI 12 (o + 4) i (mB o z u w) = mI 3 300 i u := mxI 4 (by decide) (by decide) rfl rfl rfl
theorem mY3 (h : mC 300 i) : yI (o + 4) i v (mB o z u w) = some (mB o z (zu u 3 i.toNatClampNeg v) w) := myI 4 (by decide) (by decide) rfl rfl rfl h
theorem mA4 : gA 11 4 o (mB o z u w) = some (o + 5) := mgA 5 (by decide) rfl rfl
theorem mX4 : xI 12 (o + 5) i (mB o z u w) = mI 4 300 i u := mxI 5 (by decide) (by decide) rfl rfl rfl
theorem mY4 (h : mC 300 i) : yI (o + 5) i v (mB o z u w) = some (mB o z (zu u 4 i.toNatClampNeg v) w) := myI 5 (by decide) (by decide) rfl rfl rfl h
theorem mA5 : gA 11 5 o (mB o z u w) = some (o + 6) := mgA 6 (by decide) rfl rfl
theorem mX5 : xI 12 (o + 6) i (mB o z u w) = mI 5 300 i u := mxI 6 (by decide) (by decide) rfl rfl rfl
theorem mY5 (h : mC 300 i) : yI (o + 6) i v (mB o z u w) = some (mB o z (zu u 5 i.toNatClampNeg v) w) := myI 6 (by decide) (by decide) rfl rfl rfl h
theorem mA6 : gA 11 6 o (mB o z u w) = some (o + 7) := mgA 7 (by decide) rfl rfl
theorem mX6 : xI 12 (o + 7) i (mB o z u w) = mI 6 300 i u := mxI 7 (by decide) (by decide) rfl rfl rfl
theorem mY6 (h : mC 300 i) : yI (o + 7) i v (mB o z u w) = some (mB o z (zu u 6 i.toNatClampNeg v) w) := myI 7 (by decide) (by decide) rfl rfl rfl h
theorem mA7 : gA 11 7 o (mB o z u w) = some (o + 8) := mgA 8 (by decide) rfl rfl
theorem mX7 : xI 14 (o + 8) i (mB o z u w) = mI 7 300 i u := mxI 8 (by decide) (by decide) rfl rfl rfl
theorem mY7 (h : mC 300 i) : yZ (o + 8) i v (mB o z u w) = some (mB o z (zu u 7 i.toNatClampNeg (vp_nar .boolean v)) w) := myZ 8 (by decide) (by decide) rfl rfl rfl h
theorem mA8 : gA 11 8 o (mB o z u w) = some (o + 9) := mgA 9 (by decide) rfl rfl
theorem mX8 : xI 14 (o + 9) i (mB o z u w) = mI 8 300 i u := mxI 9 (by decide) (by decide) rfl rfl rfl
theorem mY8 (h : mC 300 i) : yZ (o + 9) i v (mB o z u w) = some (mB o z (zu u 8 i.toNatClampNeg (vp_nar .boolean v)) w) := myZ 9 (by decide) (by decide) rfl rfl rfl h
theorem mA10 : gA 11 10 o (mB o z u w) = some (o + 10) := mgA 10 (by decide) rfl rfl
theorem mX10 : xI 12 (o + 10) i (mB o z u w) = mI 10 2400 i u := mxI 10 (by decide) (by decide) rfl rfl rfl
theorem mY10 (h : mC 2400 i) : yI (o + 10) i v (mB o z u w) = some (mB o z (zu u 10 i.toNatClampNeg v) w) := myI 10 (by decide) (by decide) rfl rfl rfl h
theorem mA11 : gA 11 11 o (mB o z u w) = some (o + 11) := mgA 11 (by decide) rfl rfl
theorem mX11 : xI 12 (o + 11) i (mB o z u w) = mI 11 2400 i u := mxI 11 (by decide) (by decide) rfl rfl rfl
theorem mY11 (h : mC 2400 i) : yI (o + 11) i v (mB o z u w) = some (mB o z (zu u 11 i.toNatClampNeg v) w) := myI 11 (by decide) (by decide) rfl rfl rfl h
theorem mA12 : gA 11 12 o (mB o z u w) = some (o + 12) := mgA 12 (by decide) rfl rfl
theorem mX12 : xI 12 (o + 12) i (mB o z u w) = mI 12 2400 i u := mxI 12 (by decide) (by decide) rfl rfl rfl
theorem mY12 (h : mC 2400 i) : yI (o + 12) i v (mB o z u w) = some (mB o z (zu u 12 i.toNatClampNeg v) w) := myI 12 (by decide) (by decide) rfl rfl rfl h
theorem mA13 : gA 11 13 o (mB o z u w) = some (o + 13) := mgA 13 (by decide) rfl rfl
theorem mX13 : xL (o + 13) i (mB o z u w) = mL 13 76800 i w := mxL 13 (by decide) (by decide) rfl rfl rfl
theorem mY13 (h : mC 76800 i) : yL (o + 13) i x (mB o z u w) = some (mB o z u (zu w 13 i.toNatClampNeg x)) := myL 13 (by decide) (by decide) rfl rfl rfl h
theorem mA14 : gA 11 14 o (mB o z u w) = some (o + 14) := mgA 14 (by decide) rfl rfl
theorem mX14 : xI 12 (o + 14) i (mB o z u w) = mI 14 600 i u := mxI 14 (by decide) (by decide) rfl rfl rfl
theorem mY14 (h : mC 600 i) : yI (o + 14) i v (mB o z u w) = some (mB o z (zu u 14 i.toNatClampNeg v) w) := myI 14 (by decide) (by decide) rfl rfl rfl h
theorem mA15 : gA 11 15 o (mB o z u w) = some (o + 15) := mgA 15 (by decide) rfl rfl
theorem mX15 : xI 12 (o + 15) i (mB o z u w) = mI 15 600 i u := mxI 15 (by decide) (by decide) rfl rfl rfl
theorem mY15 (h : mC 600 i) : yI (o + 15) i v (mB o z u w) = some (mB o z (zu u 15 i.toNatClampNeg v) w) := myI 15 (by decide) (by decide) rfl rfl rfl h
theorem mA16 : gA 11 16 o (mB o z u w) = some (o + 16) := mgA 16 (by decide) rfl rfl
theorem mX16 : xI 12 (o + 16) i (mB o z u w) = mI 16 600 i u := mxI 16 (by decide) (by decide) rfl rfl rfl
theorem mY16 (h : mC 600 i) : yI (o + 16) i v (mB o z u w) = some (mB o z (zu u 16 i.toNatClampNeg v) w) := myI 16 (by decide) (by decide) rfl rfl rfl h
theorem mA17 : gA 11 17 o (mB o z u w) = some (o + 17) := mgA 17 (by decide) rfl rfl
theorem mX17 : xI 12 (o + 17) i (mB o z u w) = mI 17 600 i u := mxI 17 (by decide) (by decide) rfl rfl rfl
theorem mY17 (h : mC 600 i) : yI (o + 17) i v (mB o z u w) = some (mB o z (zu u 17 i.toNatClampNeg v) w) := myI 17 (by decide) (by decide) rfl rfl rfl h
theorem mA18 : gA 11 18 o (mB o z u w) = some (o + 18) := mgA 18 (by decide) rfl rfl
theorem mX18 : xI 12 (o + 18) i (mB o z u w) = mI 18 600 i u := mxI 18 (by decide) (by decide) rfl rfl rfl
theorem mY18 (h : mC 600 i) : yI (o + 18) i v (mB o z u w) = some (mB o z (zu u 18 i.toNatClampNeg v) w) := myI 18 (by decide) (by decide) rfl rfl rfl h
theorem mA19 : gA 11 19 o (mB o z u w) = some (o + 19) := mgA 19 (by decide) rfl rfl
theorem mX19 : xI 12 (o + 19) i (mB o z u w) = mI 19 600 i u := mxI 19 (by decide) (by decide) rfl rfl rfl
theorem mY19 (h : mC 600 i) : yI (o + 19) i v (mB o z u w) = some (mB o z (zu u 19 i.toNatClampNeg v) w) := myI 19 (by decide) (by decide) rfl rfl rfl h
theorem mA20 : gA 11 20 o (mB o z u w) = some (o + 20) := mgA 20 (by decide) rfl rfl
theorem mX20 : xI 12 (o + 20) i (mB o z u w) = mI 20 600 i u := mxI 20 (by decide) (by decide) rfl rfl rfl
theorem mY20 (h : mC 600 i) : yI (o + 20) i v (mB o z u w) = some (mB o z (zu u 20 i.toNatClampNeg v) w) := myI 20 (by decide) (by decide) rfl rfl rfl h
theorem mA21 : gA 11 21 o (mB o z u w) = some (o + 21) := mgA 21 (by decide) rfl rfl
theorem mX21 : xI 12 (o + 21) i (mB o z u w) = mI 21 600 i u := mxI 21 (by decide) (by decide) rfl rfl rfl
theorem mY21 (h : mC 600 i) : yI (o + 21) i v (mB o z u w) = some (mB o z (zu u 21 i.toNatClampNeg v) w) := myI 21 (by decide) (by decide) rfl rfl rfl h
theorem mA22 : gA 11 22 o (mB o z u w) = some (o + 22) := mgA 22 (by decide) rfl rfl
theorem mX22 : xI 12 (o + 22) i (mB o z u w) = mI 22 600 i u := mxI 22 (by decide) (by decide) rfl rfl rfl
theorem mY22 (h : mC 600 i) : yI (o + 22) i v (mB o z u w) = some (mB o z (zu u 22 i.toNatClampNeg v) w) := myI 22 (by decide) (by decide) rfl rfl rfl h
theorem mA23 : gA 11 23 o (mB o z u w) = some (o + 23) := mgA 23 (by decide) rfl rfl
theorem mX23 : xI 14 (o + 23) i (mB o z u w) = mI 23 600 i u := mxI 23 (by decide) (by decide) rfl rfl rfl
theorem mY23 (h : mC 600 i) : yZ (o + 23) i v (mB o z u w) = some (mB o z (zu u 23 i.toNatClampNeg (vp_nar .boolean v)) w) := myZ 23 (by decide) (by decide) rfl rfl rfl h
theorem mA26 : gA 11 26 o (mB o z u w) = some (o + 24) := mgA 24 (by decide) rfl rfl
theorem mX26 : xI 12 (o + 24) i (mB o z u w) = mI 26 16 i u := mxI 24 (by decide) (by decide) rfl rfl rfl
theorem mY26 (h : mC 16 i) : yI (o + 24) i v (mB o z u w) = some (mB o z (zu u 26 i.toNatClampNeg v) w) := myI 24 (by decide) (by decide) rfl rfl rfl h
theorem mA27 : gA 11 27 o (mB o z u w) = some (o + 25) := mgA 25 (by decide) rfl rfl
theorem mX27 : xI 12 (o + 25) i (mB o z u w) = mI 27 16 i u := mxI 25 (by decide) (by decide) rfl rfl rfl
theorem mY27 (h : mC 16 i) : yI (o + 25) i v (mB o z u w) = some (mB o z (zu u 27 i.toNatClampNeg v) w) := myI 25 (by decide) (by decide) rfl rfl rfl h
theorem mA28 : gA 11 28 o (mB o z u w) = some (o + 26) := mgA 26 (by decide) rfl rfl
theorem mX28 : xI 12 (o + 26) i (mB o z u w) = mI 28 16 i u := mxI 26 (by decide) (by decide) rfl rfl rfl
theorem mY28 (h : mC 16 i) : yI (o + 26) i v (mB o z u w) = some (mB o z (zu u 28 i.toNatClampNeg v) w) := myI 26 (by decide) (by decide) rfl rfl rfl h
theorem mA30 : gA 11 30 o (mB o z u w) = some (o + 27) := mgA 27 (by decide) rfl rfl
theorem mX30 : xI 12 (o + 27) i (mB o z u w) = mI 30 8 i u := mxI 27 (by decide) (by decide) rfl rfl rfl
theorem mY30 (h : mC 8 i) : yI (o + 27) i v (mB o z u w) = some (mB o z (zu u 30 i.toNatClampNeg v) w) := myI 27 (by decide) (by decide) rfl rfl rfl h
theorem mA31 : gA 11 31 o (mB o z u w) = some (o + 28) := mgA 28 (by decide) rfl rfl
theorem mX31 : xI 12 (o + 28) i (mB o z u w) = mI 31 8 i u := mxI 28 (by decide) (by decide) rfl rfl rfl
theorem mY31 (h : mC 8 i) : yI (o + 28) i v (mB o z u w) = some (mB o z (zu u 31 i.toNatClampNeg v) w) := myI 28 (by decide) (by decide) rfl rfl rfl h
theorem mA32 : gA 11 32 o (mB o z u w) = some (o + 29) := mgA 29 (by decide) rfl rfl
theorem mX32 : xI 12 (o + 29) i (mB o z u w) = mI 32 300 i u := mxI 29 (by decide) (by decide) rfl rfl rfl
theorem mY32 (h : mC 300 i) : yI (o + 29) i v (mB o z u w) = some (mB o z (zu u 32 i.toNatClampNeg v) w) := myI 29 (by decide) (by decide) rfl rfl rfl h
theorem mA34 : gA 11 34 o (mB o z u w) = some (o + 30) := mgA 30 (by decide) rfl rfl
theorem mX34 : xI 14 (o + 30) i (mB o z u w) = mI 34 300 i u := mxI 30 (by decide) (by decide) rfl rfl rfl
theorem mY34 (h : mC 300 i) : yZ (o + 30) i v (mB o z u w) = some (mB o z (zu u 34 i.toNatClampNeg (vp_nar .boolean v)) w) := myZ 30 (by decide) (by decide) rfl rfl rfl h
theorem mA35 : gA 11 35 o (mB o z u w) = some (o + 31) := mgA 31 (by decide) rfl rfl
theorem mX35 : xI 14 (o + 31) i (mB o z u w) = mI 35 300 i u := mxI 31 (by decide) (by decide) rfl rfl rfl
theorem mY35 (h : mC 300 i) : yZ (o + 31) i v (mB o z u w) = some (mB o z (zu u 35 i.toNatClampNeg (vp_nar .boolean v)) w) := myZ 31 (by decide) (by decide) rfl rfl rfl h
theorem mA36 : gA 11 36 o (mB o z u w) = some (o + 32) := mgA 32 (by decide) rfl rfl
theorem mX36 : xI 12 (o + 32) i (mB o z u w) = mI 36 300 i u := mxI 32 (by decide) (by decide) rfl rfl rfl
theorem mY36 (h : mC 300 i) : yI (o + 32) i v (mB o z u w) = some (mB o z (zu u 36 i.toNatClampNeg v) w) := myI 32 (by decide) (by decide) rfl rfl rfl h
theorem mA37 : gA 11 37 o (mB o z u w) = some (o + 33) := mgA 33 (by decide) rfl rfl
theorem mX37 : xI 12 (o + 33) i (mB o z u w) = mI 37 20 i u := mxI 33 (by decide) (by decide) rfl rfl rfl
theorem mY37 (h : mC 20 i) : yI (o + 33) i v (mB o z u w) = some (mB o z (zu u 37 i.toNatClampNeg v) w) := myI 33 (by decide) (by decide) rfl rfl rfl h
theorem mA38 : gA 11 38 o (mB o z u w) = some (o + 34) := mgA 34 (by decide) rfl rfl
theorem mX38 : xI 12 (o + 34) i (mB o z u w) = mI 38 20 i u := mxI 34 (by decide) (by decide) rfl rfl rfl
theorem mY38 (h : mC 20 i) : yI (o + 34) i v (mB o z u w) = some (mB o z (zu u 38 i.toNatClampNeg v) w) := myI 34 (by decide) (by decide) rfl rfl rfl h
theorem mA39 : gA 11 39 o (mB o z u w) = some (o + 35) := mgA 35 (by decide) rfl rfl
theorem mX39 : xI 12 (o + 35) i (mB o z u w) = mI 39 20 i u := mxI 35 (by decide) (by decide) rfl rfl rfl
theorem mY39 (h : mC 20 i) : yI (o + 35) i v (mB o z u w) = some (mB o z (zu u 39 i.toNatClampNeg v) w) := myI 35 (by decide) (by decide) rfl rfl rfl h
theorem mA40 : gA 11 40 o (mB o z u w) = some (o + 36) := mgA 36 (by decide) rfl rfl
theorem mX40 : xI 12 (o + 36) i (mB o z u w) = mI 40 20 i u := mxI 36 (by decide) (by decide) rfl rfl rfl
theorem mY40 (h : mC 20 i) : yI (o + 36) i v (mB o z u w) = some (mB o z (zu u 40 i.toNatClampNeg v) w) := myI 36 (by decide) (by decide) rfl rfl rfl h
theorem mA41 : gA 11 41 o (mB o z u w) = some (o + 37) := mgA 37 (by decide) rfl rfl
theorem mX41 : xI 12 (o + 37) i (mB o z u w) = mI 41 160 i u := mxI 37 (by decide) (by decide) rfl rfl rfl
theorem mY41 (h : mC 160 i) : yI (o + 37) i v (mB o z u w) = some (mB o z (zu u 41 i.toNatClampNeg v) w) := myI 37 (by decide) (by decide) rfl rfl rfl h
theorem mA42 : gA 11 42 o (mB o z u w) = some (o + 38) := mgA 38 (by decide) rfl rfl
theorem mX42 : xI 14 (o + 38) i (mB o z u w) = mI 42 6000 i u := mxI 38 (by decide) (by decide) rfl rfl rfl
theorem mY42 (h : mC 6000 i) : yZ (o + 38) i v (mB o z u w) = some (mB o z (zu u 42 i.toNatClampNeg (vp_nar .boolean v)) w) := myZ 38 (by decide) (by decide) rfl rfl rfl h
theorem mA43 : gA 11 43 o (mB o z u w) = some (o + 39) := mgA 39 (by decide) rfl rfl
theorem mX43 : xI 14 (o + 39) i (mB o z u w) = mI 43 6000 i u := mxI 39 (by decide) (by decide) rfl rfl rfl
theorem mY43 (h : mC 6000 i) : yZ (o + 39) i v (mB o z u w) = some (mB o z (zu u 43 i.toNatClampNeg (vp_nar .boolean v)) w) := myZ 39 (by decide) (by decide) rfl rfl rfl h
theorem mA44 : gA 11 44 o (mB o z u w) = some (o + 40) := mgA 40 (by decide) rfl rfl
theorem mX44 : xI 12 (o + 40) i (mB o z u w) = mI 44 6000 i u := mxI 40 (by decide) (by decide) rfl rfl rfl
theorem mY44 (h : mC 6000 i) : yI (o + 40) i v (mB o z u w) = some (mB o z (zu u 44 i.toNatClampNeg v) w) := myI 40 (by decide) (by decide) rfl rfl rfl h
theorem mA45 : gA 11 45 o (mB o z u w) = some (o + 41) := mgA 41 (by decide) rfl rfl
theorem mX45 : xL (o + 41) i (mB o z u w) = mL 45 30000 i w := mxL 41 (by decide) (by decide) rfl rfl rfl
theorem mY45 (h : mC 30000 i) : yL (o + 41) i x (mB o z u w) = some (mB o z u (zu w 45 i.toNatClampNeg x)) := myL 41 (by decide) (by decide) rfl rfl rfl h
theorem mA47 : gA 11 47 o (mB o z u w) = some (o + 42) := mgA 42 (by decide) rfl rfl
theorem mX47 : xI 14 (o + 42) i (mB o z u w) = mI 47 300 i u := mxI 42 (by decide) (by decide) rfl rfl rfl
theorem mY47 (h : mC 300 i) : yZ (o + 42) i v (mB o z u w) = some (mB o z (zu u 47 i.toNatClampNeg (vp_nar .boolean v)) w) := myZ 42 (by decide) (by decide) rfl rfl rfl h
theorem mA48 : gA 11 48 o (mB o z u w) = some (o + 43) := mgA 43 (by decide) rfl rfl
theorem mX48 : xI 14 (o + 43) i (mB o z u w) = mI 48 300 i u := mxI 43 (by decide) (by decide) rfl rfl rfl
theorem mY48 (h : mC 300 i) : yZ (o + 43) i v (mB o z u w) = some (mB o z (zu u 48 i.toNatClampNeg (vp_nar .boolean v)) w) := myZ 43 (by decide) (by decide) rfl rfl rfl h
theorem mA49 : gA 11 49 o (mB o z u w) = some (o + 44) := mgA 44 (by decide) rfl rfl
theorem mX49 : xI 12 (o + 44) i (mB o z u w) = mI 49 300 i u := mxI 44 (by decide) (by decide) rfl rfl rfl
theorem mY49 (h : mC 300 i) : yI (o + 44) i v (mB o z u w) = some (mB o z (zu u 49 i.toNatClampNeg v) w) := myI 44 (by decide) (by decide) rfl rfl rfl h
theorem mG9 : gI 11 9 o (mB o z u w) = some (u 9 0) := mgI rfl
theorem mP9 : pI 11 9 o v (mB o z u w) = some (mB o z (zu u 9 0 v) w) := mpI rfl
theorem mG24 : gI 11 24 o (mB o z u w) = some (u 24 0) := mgI rfl
theorem mP24 : pI 11 24 o v (mB o z u w) = some (mB o z (zu u 24 0 v) w) := mpI rfl
theorem mG25 : gI 11 25 o (mB o z u w) = some (u 25 0) := mgI rfl
theorem mP25 : pI 11 25 o v (mB o z u w) = some (mB o z (zu u 25 0 v) w) := mpI rfl
theorem mG29 : gI 11 29 o (mB o z u w) = some (u 29 0) := mgI rfl
theorem mP29 : pI 11 29 o v (mB o z u w) = some (mB o z (zu u 29 0 v) w) := mpI rfl
theorem mG33 : gI 11 33 o (mB o z u w) = some (u 33 0) := mgI rfl
theorem mP33 : pI 11 33 o v (mB o z u w) = some (mB o z (zu u 33 0 v) w) := mpI rfl
theorem mG46 : gI 11 46 o (mB o z u w) = some (u 46 0) := mgI rfl
theorem mP46 : pI 11 46 o v (mB o z u w) = some (mB o z (zu u 46 0 v) w) := mpI rfl
theorem b1_s {α β : Type} {a : α} {k : α → Option β} : b1 (some a) k = k a := rfl
theorem b2_s {α β : Type} {a : α} {h : Hz} {k : α → Hz → Option β} : b2 (some (a, h)) k = k a h := rfl
theorem oe_0 {β : Type} {a : Option β} {b : Nat → Option β} : oe none a b = a := rfl
theorem oe_1 {β : Type} {a : Option β} {b : Nat → Option β} {x : Nat} : oe (some x) a b = b x := rfl
theorem rz_0 {h : Hz} : rz 0 h = some (0, h) := rfl
theorem rz_1 {h : Hz} : rz 1 h = some (1, h) := rfl
theorem mC_n {len n : Nat} (h : n < len) (h2 : len < 2147483648) : mC len (nI n) := vp_in_nI h h2
theorem mI_n {k len n : Nat} {u : Mu} (h : n < len) (h2 : len < 2147483648) : mI k len (nI n) u = some (u k n) := by
  have h3 : ¬ (nI n < 0 ∨ len ≤ (nI n).toNatClampNeg) := mC_n h h2
  rw [mI, if_pos h3, nI_clamp (show n < 2 ^ 31 by omega)]
theorem mL_n {k len n : Nat} {w : Me} (h : n < len) (h2 : len < 2147483648) : mL k len (nI n) w = some (w k n) := by
  have h3 : ¬ (nI n < 0 ∨ len ≤ (nI n).toNatClampNeg) := mC_n h h2
  rw [mL, if_pos h3, nI_clamp (show n < 2 ^ 31 by omega)]
theorem nI_c {n : Nat} (h : n < 2147483648) : (nI n).toNatClampNeg = n := nI_clamp (by omega)
theorem nar0 : vp_nar .boolean 0 = 0 := rfl
theorem nar1 : vp_nar .boolean 1 = 1 := rfl
end MB
