/-! What holds between calls, over the tables alone. -/
/-- holds its HOST's things for others -/
def anch (v : Nu) (y : Nat) : Prop := v 7 y = 0 ∧ v 0 y ≠ 3 ∧ 0 < v 4 y ∧ v 8 y = 0
def Led (v : Nu) (y x : Nat) : Prop := Cl (LEv v) (fun b => b = y) x
def Held (v : Nu) (x y : Nat) : Prop := y < v 9 0 ∧ y ≠ x ∧ v 1 y = v 1 x ∧ anch v y ∧ Led v y x
def Wtd (v : Nu) (x : Nat) : Prop := ∃ k, k < v 29 0 ∧ v 26 k = x
def Rtd (v : Nu) (x : Nat) : Prop := Wtd v x ∨ Near v x
/-- what is meant -/
def MtB (v : Nu) (b : Nat) : Prop := (b < v 9 0 ∧ v 0 b = 2) ∨ (∃ l, l < v 24 0 ∧ v 23 l = 1 ∧ v 14 l = 0 ∧ v 17 l = b) ∨ Wtd v b
def MtE (v : Nu) (x y : Nat) : Prop := LEv v x y ∨ (v 0 x = 3 ∧ v 5 x = y + 1)
def Mt (v : Nu) (t : Nat) : Prop := Cl (MtE v) (MtB v) t
/-- a letter -/
def LO (v : Nu) (l : Nat) : Prop :=
  v 14 l ≤ 5 ∧ v 15 l < 8 ∧ v 16 l < 8 ∧ v 17 l < v 9 0 ∧ v 0 (v 17 l) ≠ 3 ∧ v 23 l ≤ 1 ∧ v 22 l ≤ 300 ∧
  (v 14 l = 0 → ∃ r p, v 19 l = r + 1 ∧ v 20 l = p + 1 ∧ r < v 9 0 ∧ v 0 r = 2 ∧ v 1 r = v 15 l ∧ p < v 3 r ∧ 1 ≤ v 18 l) ∧
  (v 14 l ≠ 0 → v 19 l = 0 ∧ v 20 l = 0) ∧ (v 14 l = 1 ∨ v 14 l = 3 ∨ v 14 l = 4 → v 15 l = v 1 (v 17 l)) ∧
  (v 14 l = 2 → v 18 l = 64) ∧ (v 14 l = 1 ∨ 4 ≤ v 14 l → v 18 l = 0) ∧ (4 ≤ v 14 l → ∃ k, v 21 l = k + 1 ∧ k < v 46 0) ∧ (v 14 l < 4 → v 21 l = 0)
def iL (v : Nu) : Prop := v 24 0 ≤ 600 ∧ (∀ l, l < v 24 0 → LO v l) ∧ ∀ l, v 24 0 ≤ l → l < 600 → v 22 l = 0
def iW (v : Nu) : Prop := v 29 0 ≤ 16 ∧ ∀ k, k < v 29 0 → v 26 k < v 9 0 ∧ v 0 (v 26 k) = 3 ∧ v 7 (v 26 k) = 0 ∧ v 27 k < v 9 0 ∧ v 0 (v 27 k) = 2 ∧ v 28 k < v 3 (v 27 k)
def iC (n : Nat) (v : Nu) : Prop := (∀ h, h < 8 → v 30 h ≤ n) ∧ v 33 0 ≤ 300 ∧ ∀ i, i < v 33 0 → v 32 i < v 9 0
/-- a bit of what is noted as held by -/
def hbt (w : Me) (k x y : Nat) : Bool := (w 45 (5 * (300 * k + x) + y / 64)).toBitVec.getLsbD (y % 64)
/-- what was noted of x, while its host has not changed -/
def nOK (v : Nu) (w : Me) (k x : Nat) : Prop :=
  v 7 x = 0 ∧ v 44 (300 * k + x) = (if v 0 x = 3 then v 6 x else v 4 x) ∧ (v 43 (300 * k + x) = 1 ↔ Rtd v x) ∧ ∀ y, y < 300 → (hbt w k x y = true ↔ Held v x y)
def KO (D : Nat → Prop) (n : Nat) (v : Nu) (w : Me) (k : Nat) : Prop :=
  v 38 k < v 9 0 ∧ v 0 (v 38 k) ≠ 3 ∧ v 39 k ≤ n ∧ v 40 k ≤ 300 * n ∧ v 37 k ≤ 3 ∧
  (∀ x, x < 300 → v 42 (300 * k + x) ≤ 1 ∧ v 43 (300 * k + x) ≤ 1 ∧ v 44 (300 * k + x) ≤ 40000 ∧ (v 42 (300 * k + x) = 1 → x < v 9 0)) ∧
  (∀ h, h < 8 → v 41 (8 * k + h) ≤ v 30 h + 1) ∧
  (v 37 k = 0 → v 39 k ≤ v 40 k ∧ ∀ x, x < 300 → v 42 (300 * k + x) = 1 → v 41 (8 * k + v 1 x) ≠ 0 ∧ (v 41 (8 * k + v 1 x) = v 30 (v 1 x) + 1 → ¬ D (v 1 x) → nOK v w k x))
def iK (D : Nat → Prop) (n : Nat) (v : Nu) (w : Me) : Prop :=
  v 46 0 ≤ 20 ∧ (∀ k, k < v 46 0 → KO D n v w k) ∧ (∀ k, v 46 0 ≤ k → k < 20 → v 37 k = 0 ∧ v 39 k = 0 ∧ v 40 k = 0 ∧ ∀ x, x < 300 → v 42 (300 * k + x) = 0 ∧ v 43 (300 * k + x) = 0 ∧ v 44 (300 * k + x) = 0) ∧
  ∀ k x j, k < 20 → x < 300 → j < 5 → v 42 (300 * k + x) = 0 → w 45 (5 * (300 * k + x) + j) = 0
def iX (v : Nu) : Prop := ∀ l k, l < v 24 0 → v 21 l = k + 1 → v 37 k = 0 → (v 14 l = 4 ∧ v 17 l = v 38 k) ∨ v 42 (300 * k + v 38 k) = 1 ∨ v 7 (v 38 k) = 1
def gsum (v : Nu) (t : Nat) : Nat := fb_sm (fun g => if v 7 g = 0 ∧ v 0 g = 3 ∧ v 5 g = t + 1 then v 6 g else 0) (v 9 0)
def lsum (v : Nu) (t : Nat) : Nat := fb_sm (fun l => if v 23 l = 1 ∧ v 17 l = t then v 18 l else 0) (v 24 0)
def iS (n : Nat) (v : Nu) : Prop := ∀ t, t < v 9 0 → v 0 t ≠ 3 → v 4 t = gsum v t + lsum v t ∧ v 4 t ≤ 64 * n
def iG (v : Nu) : Prop := ∀ a b, a < v 9 0 → b < v 9 0 → v 7 a = 0 → v 7 b = 0 → v 0 a = 3 → v 0 b = 3 → v 1 a = v 1 b → v 5 a = v 5 b → a = b
def qlet (v : Nu) (h t l : Nat) : Bool := v 23 l == 1 && v 17 l == t && ((v 14 l == 1 && v 16 l == h) || (v 14 l == 2 && v 15 l == h))
def qwai (v : Nu) (h t k : Nat) : Bool := v 1 (v 26 k) == h && v 5 (v 26 k) == t + 1
def iQ (v : Nu) : Prop := ∀ h t, fb_ct (qlet v h t) (v 24 0) = fb_ct (qwai v h t) (v 29 0)
def iM (v : Nu) : Prop := ∀ t, Mt v t → v 7 t = 0 ∧ v 8 t = 0
/-- a HOST that is being changed -/
abbrev D0 : Nat → Prop := fun _ => False
def Inv (D : Nat → Prop) (n : Nat) (v : Nu) (u : Mu) (w : Me) : Prop := iT v ∧ iF v u ∧ iL v ∧ iW v ∧ iC n v ∧ iK D n v w ∧ iX v ∧ iS n v ∧ iG v ∧ iQ v ∧ iM v
def Jx (b0 q n : Nat) (x y : Hz) : Prop := ∃ (d : AD) (c : CH) (v : Nu) (u : Mu) (w : Me) (z : Nat), x = cB d c ∧ y = mB q z u w ∧ da d 100 0 = b0 ∧ RC d c v u w ∧ Nv v u ∧ Inv D0 n v u w
section IV
variable {n : Nat} {D : Nat → Prop} {d : AD} {c : CH} {v v' : Nu} {u u' : Mu} {w w' : Me}
theorem RC.uw (R : RC d c v u w) (hu : ∀ i, u' 2 i = u 2 i) (hw : ∀ i, w' 13 i = w 13 i) : RC d c v u' w' := by
  obtain ⟨R0, R1, R2, R3, R4⟩ := R
  exact ⟨R0, R1, R2, R3.cg sm.rfl sm.rfl sm.rfl sm.rfl sm.rfl sm.rfl sm.rfl (fun _ _ _ => Iff.rfl) (fun _ _ _ => rfl) hu hw, R4⟩
theorem Sc.u2 (h : Sc u u') : ∀ i, u' 2 i = u 2 i := fun i => h 2 i (by decide)
theorem iF.uw (h : iF v u) (hu : ∀ i, u' 2 i = u 2 i) : iF v u' := by
  intro t h1 h2
  rw [hu]
  exact h t h1 h2
theorem Inv.uw (h : Inv D n v u w) (hu : ∀ i, u' 2 i = u 2 i) : Inv D n v u' w := ⟨h.1, h.2.1.uw hu, h.2.2⟩
theorem iC.up (h : iC n v) : iC (n + 1) v := ⟨fun k hk => by have := h.1 k hk; omega, h.2⟩
theorem KO.up {k : Nat} (h : KO D n v w k) : KO D (n + 1) v w k := by
  obtain ⟨h1, h2, h3, h4, h5⟩ := h
  exact ⟨h1, h2, by omega, by omega, h5⟩
theorem iK.up (h : iK D n v w) : iK D (n + 1) v w := ⟨h.1, fun k hk => (h.2.1 k hk).up, h.2.2⟩
theorem iS.up (h : iS n v) : iS (n + 1) v := fun t ht hk => ⟨(h t ht hk).1, by have := (h t ht hk).2; omega⟩
theorem Inv.up (h : Inv D n v u w) : Inv D (n + 1) v u w := by
  obtain ⟨h1, h2, h3, h4, h5, h6, h7, h8, h9⟩ := h
  exact ⟨h1, h2, h3, h4, h5.up, h6.up, h7, h8.up, h9⟩
theorem iT.k (h : iT v) {t : Nat} (ht : t < v 9 0) : v 0 t ≤ 3 ∧ v 1 t < 8 ∧ v 3 t ≤ 8 ∧ v 7 t ≤ 1 ∧ v 8 t ≤ 1 ∧ v 4 t ≤ 40000 ∧ v 6 t ≤ 40000 := by
  obtain ⟨h1, h2, h3, h4, h5, h6, h7, -⟩ := h.2 t ht
  exact ⟨h1, h2, h3, h4, h5, h6, h7⟩
theorem iT.pl (h : iT v) {t p : Nat} (ht : t < v 9 0) (hp : p < v 3 t) : v 10 (8 * t + p) ≤ 2 ∧ (v 10 (8 * t + p) = 1 → v 11 (8 * t + p) < v 9 0 ∧ v 1 (v 11 (8 * t + p)) = v 1 t ∧ (v 7 t = 0 → v 7 (v 11 (8 * t + p)) = 0)) ∧ (v 10 (8 * t + p) = 2 → v 11 (8 * t + p) ≤ 3 ∧ v 12 (8 * t + p) ≤ 32) := (h.2 t ht).2.2.2.2.2.2.2.2.2.2.2.2 p hp
theorem iT.g (h : iT v) {t : Nat} (ht : t < v 9 0) (hk : v 0 t = 3) : (∃ m, v 5 t = m + 1 ∧ m < v 9 0 ∧ v 0 m ≠ 3 ∧ v 1 m ≠ v 1 t) ∧ v 4 t = 0 ∧ v 8 t = 0 ∧ 1 ≤ v 6 t := (h.2 t ht).2.2.2.2.2.2.2.2.2.2.1 hk
theorem iT.ng (h : iT v) {t : Nat} (ht : t < v 9 0) (hk : v 0 t ≠ 3) : v 5 t = 0 ∧ v 6 t = 0 := (h.2 t ht).2.2.2.2.2.2.2.2.2.2.2.1 hk
theorem iT.np (h : iT v) {t : Nat} (ht : t < v 9 0) (hk : v 0 t = 0 ∨ v 0 t = 3) : v 3 t = 0 := (h.2 t ht).2.2.2.2.2.2.2.2.2.1 hk
theorem iT.rt (h : iT v) {t : Nat} (ht : t < v 9 0) (hk : v 0 t = 2) : v 7 t = 0 := (h.2 t ht).2.2.2.2.2.2.2.1 hk
/-- no call: a number more of them -/
theorem Jx.up {b0 q : Nat} {x y : Hz} (h : Jx b0 q n x y) : Jx b0 q (n + 1) x y := by
  obtain ⟨d, c, v, u, w, z, h1, h2, h3, h4, h5, h6⟩ := h
  exact ⟨d, c, v, u, w, z, h1, h2, h3, h4, h5, h6.up⟩
end IV
section TR
variable {d : AD} {c : CH} {v : Nu} {u : Mu} {w : Me} {q z : Nat} {x y : Int32}
theorem inOut (x : Int32) {n : Nat} (hn : n < 2147483648) : (x < 0 ∨ nI n ≤ x) ∨ ∃ k, k < n ∧ x = nI k := by
  rcases pk_ix x (n := n) (by omega) with h | h | h
  · exact Or.inl (Or.inl h)
  · exact Or.inl (Or.inr h)
  · exact Or.inr h
theorem isIn_n {k n : Nat} (hk : k < n) (hn : n < 2147483648) {h : Hz} : fX11_isIn (nI k) (nI n) h = some (1, h) := by
  rw [i_isIn hn, if_neg]
  rintro (h | h)
  · exact nI_pos (by omega) h
  · exact nI_ge hk (by omega) h
theorem isIn_o {n : Nat} (hn : n < 2147483648) {h : Hz} (hx : x < 0 ∨ nI n ≤ x) : fX11_isIn x (nI n) h = some (0, h) := by
  rw [i_isIn hn, if_pos hx]
/-- a thing that is there, or none -/
theorem b_there (R : RC d c v u w) (hI : iT v) (hN : Nv v u) (x : Int32) :
    (∃ t, t < v 9 0 ∧ v 7 t = 0 ∧ x = nI t ∧ fX6_find (da d 101 0) x (cB d c) = some (some (da d 1 t), cB d c) ∧ fX11_isThere q x (mB q z u w) = some (1, mB q z u w)) ∨
    (fX6_find (da d 101 0) x (cB d c) = some (none, cB d c) ∧ fX11_isThere q x (mB q z u w) = some (0, mB q z u w)) := by
  have hb := hI.1
  rcases inOut x (n := v 9 0) (by omega) with h | ⟨t, ht, rfl⟩
  · right
    refine ⟨e_findO R h, ?_⟩
    unfold fX11_isThere
    rw [mG9, b1_s, hN.k9, isIn_o (by omega) h, b2_s]
    rfl
  · have hg := (hI.k ht).2.2.2.1
    have e1 := e_find R hb ht hg
    have e2 : fX11_isThere q (nI t) (mB q z u w) = some (if v 7 t = 0 then 1 else 0, mB q z u w) := by
      unfold fX11_isThere
      rw [mG9, b1_s, hN.k9, isIn_n ht (by omega), b2_s, if_neg (by decide), mA7, b1_s, mX7, mI_n (by omega) (by decide), b1_s, hN.k7, nI_if0 (by omega)]
      by_cases h : v 7 t = 0
      · rw [if_pos h, if_pos h]; rfl
      · rw [if_neg h, if_neg h]; rfl
    by_cases h : v 7 t = 0
    · rw [if_pos h] at e1 e2
      exact Or.inl ⟨t, ht, h, rfl, e1, e2⟩
    · rw [if_neg h] at e1 e2
      exact Or.inr ⟨e1, e2⟩
theorem b_ever (R : RC d c v u w) (hI : iT v) (x : Int32) :
    (∃ t, t < v 9 0 ∧ x = nI t ∧ fX6_ever (da d 101 0) x (cB d c) = some (some (da d 1 t), cB d c) ∧ ∀ h, fX11_isIn x (nI (v 9 0)) h = some (1, h)) ∨
    ((x < 0 ∨ nI (v 9 0) ≤ x) ∧ fX6_ever (da d 101 0) x (cB d c) = some (none, cB d c) ∧ ∀ h, fX11_isIn x (nI (v 9 0)) h = some (0, h)) := by
  have hb := hI.1
  rcases inOut x (n := v 9 0) (by omega) with h | ⟨t, ht, rfl⟩
  · exact Or.inr ⟨h, e_everO R h, fun _ => isIn_o (by omega) h⟩
  · exact Or.inl ⟨t, ht, rfl, e_ever R hb ht, fun _ => isIn_n ht (by omega)⟩
theorem s_hasPlaces {t : Nat} (hI : iT v) (hN : Nv v u) (ht : t < v 9 0) : fX11_hasPlaces q (nI t) (mB q z u w) = some (if v 0 t = 1 ∨ v 0 t = 2 then 1 else 0, mB q z u w) := by
  have hb := hI.1
  unfold fX11_hasPlaces
  simp (disch := omega) only [mA0, b1_s, mX0, mI_n, hN.k0]
  have := (hI.k ht).1
  rcases (show v 0 t = 0 ∨ v 0 t = 1 ∨ v 0 t = 2 ∨ v 0 t = 3 by omega) with h | h | h | h <;> rw [h] <;> rfl
/-- a place of a thing: the class's tests and the reference's -/
theorem b_place (R : RC d c v u w) (hI : iT v) (hN : Nv v u) (x y : Int32) :
    (fX6_find (da d 101 0) x (cB d c) = some (none, cB d c) ∧ fX11_place q x y (mB q z u w) = some (-1, mB q z u w) ∧ fX11_isThere q x (mB q z u w) = some (0, mB q z u w)) ∨
    ∃ t, t < v 9 0 ∧ v 7 t = 0 ∧ x = nI t ∧ fX6_find (da d 101 0) x (cB d c) = some (some (da d 1 t), cB d c) ∧ fX11_isThere q x (mB q z u w) = some (1, mB q z u w) ∧
      ((¬ (v 0 t = 1 ∨ v 0 t = 2) ∧ v 3 t = 0 ∧ fX5_hasPlaces (da d 1 t) (cB d c) = some (0, cB d c) ∧ fX5_hasPlace (da d 1 t) y (cB d c) = some (0, cB d c) ∧ fX11_place q x y (mB q z u w) = some (-2, mB q z u w)) ∨
       ((v 0 t = 1 ∨ v 0 t = 2) ∧ fX5_hasPlaces (da d 1 t) (cB d c) = some (1, cB d c) ∧
        (((y < 0 ∨ nI (v 3 t) ≤ y) ∧ fX5_hasPlace (da d 1 t) y (cB d c) = some (0, cB d c) ∧ fX11_place q x y (mB q z u w) = some (-3, mB q z u w)) ∨
         ∃ p, p < v 3 t ∧ y = nI p ∧ fX5_hasPlace (da d 1 t) y (cB d c) = some (1, cB d c) ∧ fX11_place q x y (mB q z u w) = some (0, mB q z u w)))) := by
  have hb := hI.1
  rcases b_there (q := q) (z := z) R hI hN x with ⟨t, ht, h7, rfl, e1, e2⟩ | ⟨e1, e2⟩
  · right
    refine ⟨t, ht, h7, rfl, e1, e2, ?_⟩
    obtain ⟨k0, k1, k3, -⟩ := hI.k ht
    have e3 := e_hasPlaces R ht k0
    have e4 := s_hasPlaces (q := q) (z := z) (w := w) hI hN ht
    have e5 : fX11_place q (nI t) y (mB q z u w) = if v 0 t = 1 ∨ v 0 t = 2 then (b2 (fX11_isIn y (nI (v 3 t)) (mB q z u w)) fun x11 s12 => (if x11 = 0 then some ((-3), s12) else some (0, s12))) else some (-2, mB q z u w) := by
      unfold fX11_place
      rw [mtg, b1_s, e2, b2_s, if_neg (by decide), mtg, b1_s, e4, b2_s]
      by_cases h : v 0 t = 1 ∨ v 0 t = 2
      · rw [if_pos h, if_pos h, if_neg (by decide), mA3, b1_s, mX3, mI_n (by omega) (by decide), b1_s, hN.k3]
      · rw [if_neg h, if_neg h, if_pos rfl]
    by_cases h : v 0 t = 1 ∨ v 0 t = 2
    · rw [if_pos h] at e3 e5
      right
      refine ⟨h, e3, ?_⟩
      rcases inOut y (n := v 3 t) (by omega) with hy | ⟨p, hp, rfl⟩
      · left
        refine ⟨hy, e_hasPlaceO R ht hy, ?_⟩
        rw [e5, isIn_o (by omega) hy, b2_s]
        rfl
      · right
        refine ⟨p, hp, rfl, e_hasPlace R ht k3 hp, ?_⟩
        rw [e5, isIn_n hp (by omega), b2_s]
        rfl
    · rw [if_neg h] at e3 e5
      have h3 : v 3 t = 0 := hI.np ht (by omega)
      refine Or.inl ⟨h, h3, e3, e_hasPlaceO R ht ?_, e5⟩
      rw [h3]
      by_cases hy : y < 0
      · exact Or.inl hy
      · exact Or.inr (fa_of_nlt hy)
  · left
    refine ⟨e1, ?_, e2⟩
    unfold fX11_place
    rw [mtg, b1_s, e2, b2_s]
    rfl
end TR
