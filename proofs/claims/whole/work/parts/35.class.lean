/-! The class's heap: each cell by its sort and number, wherever it lies. Sorts: 1 THING, 2 its things, 3 its rows, 4 LETTER, 5 WALK, 6 to 9 its arrays, 10 waiting name, 11 ROW, 12 its values; 100 to 123 the cells of the object itself. -/
def tkl : List Nat := [99, 5, 17, 16, 0, 9, 14, 14, 12, 12, 8, 4, 13]
def tkh : List Nat := [10, 6, 17, 2, 15, 7, 18, 19, 12, 12, 12, 3, 14, 17, 3, 14, 17, 1, 3, 14, 17, 14, 17, 12]
def TK (k : Nat) : Nat := if k < 100 then tkl.getD k 99 else tkh.getD (k - 100) 99
/-- the end, each address's sort and number, the address of each -/
abbrev AD : Type := Nat × (Nat → Nat) × (Nat → Nat) × (Nat → Nat → Nat)
abbrev dz (d : AD) : Nat := d.1
abbrev dk (d : AD) : Nat → Nat := d.2.1
abbrev dx (d : AD) : Nat → Nat := d.2.2.1
abbrev da (d : AD) : Nat → Nat → Nat := d.2.2.2
abbrev CH : Type := (Nat → Nat → Nat → Int32) × (Nat → Nat → Nat → Int64) × (Nat → Nat → Nat → Option (Nat × Nat)) × (Nat → Nat → Nat)
abbrev cI (c : CH) : Nat → Nat → Nat → Int32 := c.1
abbrev cJ (c : CH) : Nat → Nat → Nat → Int64 := c.2.1
abbrev cQ (c : CH) : Nat → Nat → Nat → Option (Nat × Nat) := c.2.2.1
abbrev cN (c : CH) : Nat → Nat → Nat := c.2.2.2
def cB (d : AD) (c : CH) : Hz := (fun a i => c.1 (d.2.1 a) (d.2.2.1 a) i, fun a i => c.2.1 (d.2.1 a) (d.2.2.1 a) i, fun a i => (c.2.2.1 (d.2.1 a) (d.2.2.1 a) i).map (fun q => d.2.2.2 q.1 q.2), fun a => TK (d.2.1 a), fun a => c.2.2.2 (d.2.1 a) (d.2.2.1 a), d.1)
/-- it is there -/
def lvd (d : AD) (k x : Nat) : Prop := k ≠ 0 ∧ d.2.1 (d.2.2.2 k x) = k ∧ d.2.2.1 (d.2.2.2 k x) = x
def AI (d : AD) : Prop := ∀ a, d.2.1 a ≠ 0 → a < d.1 ∧ d.2.2.2 (d.2.1 a) (d.2.2.1 a) = a
def CZ (d : AD) (c : CH) : Prop := (∀ k x, ¬ lvd d k x → (∀ i, c.1 k x i = 0) ∧ (∀ i, c.2.1 k x i = 0) ∧ (∀ i, c.2.2.1 k x i = none) ∧ c.2.2.2 k x = 0) ∧ ∀ k x i q, c.2.2.1 k x i = some q → lvd d q.1 q.2
def WF (d : AD) (c : CH) : Prop := AI d ∧ CZ d c
def z3 {α : Type} (f : Nat → Nat → Nat → α) (k x i : Nat) (v : α) : Nat → Nat → Nat → α := fun k' x' i' => if k' = k ∧ x' = x ∧ i' = i then v else f k' x' i'
def kwI (k x i : Nat) (v : Int32) (c : CH) : CH := (z3 c.1 k x i v, c.2)
def kwL (k x i : Nat) (v : Int64) (c : CH) : CH := (c.1, z3 c.2.1 k x i v, c.2.2)
def kwQ (k x i : Nat) (v : Option (Nat × Nat)) (c : CH) : CH := (c.1, c.2.1, z3 c.2.2.1 k x i v, c.2.2.2)
def kwN (k x n : Nat) (c : CH) : CH := (c.1, c.2.1, c.2.2.1, zu c.2.2.2 k x n)
/-- a new cell, of sort k and number x -/
def dnew (k x : Nat) (d : AD) : AD := (d.1 + 1, va_up d.2.1 d.1 k, va_up d.2.2.1 d.1 x, zu d.2.2.2 k x d.1)
section CB
variable {d : AD} {c : CH} {k x i n : Nat} {v w : Int32}
theorem cgI {t : Nat} (hl : lvd d k x) (ht : TK k = t) : gI t i (da d k x) (cB d c) = some (cI c k x i) := by
  have e1 : zT (cB d c) (da d k x) = t := by show TK (d.2.1 (d.2.2.2 k x)) = t; rw [hl.2.1]; exact ht
  simp only [gI, e1, if_true]
  show some (c.1 (d.2.1 (d.2.2.2 k x)) (d.2.2.1 (d.2.2.2 k x)) i) = _
  rw [hl.2.1, hl.2.2]
theorem cgP {t : Nat} (hl : lvd d k x) (ht : TK k = t) : gP t i (da d k x) (cB d c) = some ((cQ c k x i).map (fun q => da d q.1 q.2)) := by
  have e1 : zT (cB d c) (da d k x) = t := by show TK (d.2.1 (d.2.2.2 k x)) = t; rw [hl.2.1]; exact ht
  simp only [gP, e1, if_true]
  show some ((c.2.2.1 (d.2.1 (d.2.2.2 k x)) (d.2.2.1 (d.2.2.2 k x)) i).map _) = _
  rw [hl.2.1, hl.2.2]
theorem cgA {t : Nat} {q : Nat × Nat} (hl : lvd d k x) (ht : TK k = t) (hq : cQ c k x i = some q) : gA t i (da d k x) (cB d c) = some (da d q.1 q.2) := by
  have h := cgP (c := c) (i := i) hl ht
  simp only [gP] at h
  have e1 : zT (cB d c) (da d k x) = t := by show TK (d.2.1 (d.2.2.2 k x)) = t; rw [hl.2.1]; exact ht
  rw [if_pos e1] at h
  simp only [gA, e1, if_true]
  rw [Option.some.inj h, hq]
  rfl
theorem ctg {t : Nat} (hl : lvd d k x) (ht : TK k = t) : tg t (da d k x) (cB d c) = some (da d k x) := by
  have e1 : zT (cB d c) (da d k x) = t := by show TK (d.2.1 (d.2.2.2 k x)) = t; rw [hl.2.1]; exact ht
  simp only [tg, e1, if_true]
theorem cu_I {α : Type} {f : Nat → Nat → Nat → α} {v : α} (hA : AI d) (hl : lvd d k x) : zu (fun a i => f (d.2.1 a) (d.2.2.1 a) i) (da d k x) i v = fun a i' => z3 f k x i v (d.2.1 a) (d.2.2.1 a) i' := by
  funext a j
  simp only [zu, z3]
  by_cases ha : a = da d k x
  · subst ha
    simp only [true_and]
    show (if j = i then v else f (d.2.1 (d.2.2.2 k x)) (d.2.2.1 (d.2.2.2 k x)) j) = if d.2.1 (d.2.2.2 k x) = k ∧ d.2.2.1 (d.2.2.2 k x) = x ∧ j = i then v else _
    rw [hl.2.1, hl.2.2]
    simp
  · have hne : ¬ (d.2.1 a = k ∧ d.2.2.1 a = x ∧ j = i) := by
      rintro ⟨h1, h2, -⟩
      have h3 := (hA a (by rw [h1]; exact hl.1)).2
      rw [h1, h2] at h3
      exact ha h3.symm
    rw [if_neg (fun h => ha h.1), if_neg hne]
theorem cw_I (hA : AI d) (hl : lvd d k x) : zwI (da d k x) i v (cB d c) = cB d (kwI k x i v c) := by
  simp only [zwI, cB, kwI]
  rw [cu_I hA hl]
theorem cw_L {y : Int64} (hA : AI d) (hl : lvd d k x) : zwL (da d k x) i y (cB d c) = cB d (kwL k x i y c) := by
  simp only [zwL, cB, kwL]
  rw [cu_I hA hl]
theorem cw_P {q : Option (Nat × Nat)} (hA : AI d) (hl : lvd d k x) : zwP (da d k x) i (q.map (fun q => da d q.1 q.2)) (cB d c) = cB d (kwQ k x i q c) := by
  simp only [zwP, cB, kwQ]
  rw [cu_I (f := fun k x i => (c.2.2.1 k x i).map (fun q => d.2.2.2 q.1 q.2)) hA hl]
  congr 4
  funext a j
  simp only [z3]
  by_cases h : d.2.1 a = k ∧ d.2.2.1 a = x ∧ j = i
  · rw [if_pos h, if_pos h]
  · rw [if_neg h, if_neg h]
theorem cpI {t : Nat} (hA : AI d) (hl : lvd d k x) (ht : TK k = t) : pI t i (da d k x) v (cB d c) = some (cB d (kwI k x i v c)) := by
  have e1 : zT (cB d c) (da d k x) = t := by show TK (d.2.1 (d.2.2.2 k x)) = t; rw [hl.2.1]; exact ht
  simp only [pI, e1, if_true, cw_I hA hl]
theorem cpZ {t : Nat} (hA : AI d) (hl : lvd d k x) (ht : TK k = t) (hv : v = 0 ∨ v = 1) : pZ t i (da d k x) v (cB d c) = some (cB d (kwI k x i v c)) := by
  have e1 : zT (cB d c) (da d k x) = t := by show TK (d.2.1 (d.2.2.2 k x)) = t; rw [hl.2.1]; exact ht
  simp only [pZ, e1, true_and, if_pos hv, cw_I hA hl]
theorem cpP {t : Nat} {r : Option Nat} (q : Option (Nat × Nat)) (hA : AI d) (hl : lvd d k x) (ht : TK k = t) (hr : r = q.map (fun q => da d q.1 q.2)) : pP t i (da d k x) r (cB d c) = some (cB d (kwQ k x i q c)) := by
  have e1 : zT (cB d c) (da d k x) = t := by show TK (d.2.1 (d.2.2.2 k x)) = t; rw [hl.2.1]; exact ht
  subst hr
  simp only [pP, e1, if_true, cw_P hA hl]
theorem cNn (hl : lvd d k x) : zN (cB d c) (da d k x) = cN c k x := by
  show c.2.2.2 (d.2.1 (d.2.2.2 k x)) (d.2.2.1 (d.2.2.2 k x)) = _
  rw [hl.2.1, hl.2.2]
theorem cTt (hl : lvd d k x) : zT (cB d c) (da d k x) = TK k := by
  show TK (d.2.1 (d.2.2.2 k x)) = _
  rw [hl.2.1]
theorem cxN {t : Nat} (hl : lvd d k x) (ht : TK k = t) : xN t (da d k x) (cB d c) = some (nI (cN c k x)) := by
  simp only [xN, cTt hl, ht, if_true, cNn hl]
  rfl
theorem cxI {t : Nat} (hl : lvd d k x) (ht : TK k = t) (hn : n < cN c k x) (h2 : n < 2147483648) : xI t (da d k x) (nI n) (cB d c) = some (cI c k x n) := by
  have h3 : ¬ (nI n < 0 ∨ cN c k x ≤ (nI n).toNatClampNeg) := by
    rw [nI_c h2]
    rintro (h | h)
    · exact nI_pos (by omega) h
    · omega
  simp only [xI, cTt hl, ht, true_and, cNn hl]
  rw [if_pos h3, nI_c h2]
  show some (c.1 (d.2.1 (d.2.2.2 k x)) (d.2.2.1 (d.2.2.2 k x)) n) = _
  rw [hl.2.1, hl.2.2]
theorem cyI (hA : AI d) (hl : lvd d k x) (ht : TK k = 12) (hn : n < cN c k x) (h2 : n < 2147483648) : yI (da d k x) (nI n) v (cB d c) = some (cB d (kwI k x n v c)) := by
  have h3 : ¬ (nI n < 0 ∨ cN c k x ≤ (nI n).toNatClampNeg) := by
    rw [nI_c h2]
    rintro (h | h)
    · exact nI_pos (by omega) h
    · omega
  simp only [yI, cTt hl, ht, true_and, cNn hl]
  rw [if_pos h3, nI_c h2, cw_I hA hl]
theorem cyZ (hA : AI d) (hl : lvd d k x) (ht : TK k = 14) (hn : n < cN c k x) (h2 : n < 2147483648) : yZ (da d k x) (nI n) v (cB d c) = some (cB d (kwI k x n (vp_nar .boolean v) c)) := by
  have h3 : ¬ (nI n < 0 ∨ cN c k x ≤ (nI n).toNatClampNeg) := by
    rw [nI_c h2]
    rintro (h | h)
    · exact nI_pos (by omega) h
    · omega
  simp only [yZ, cTt hl, ht, true_and, cNn hl]
  rw [if_pos h3, nI_c h2, cw_I hA hl]
theorem cxL (hl : lvd d k x) (ht : TK k = 13) (hn : n < cN c k x) (h2 : n < 2147483648) : xL (da d k x) (nI n) (cB d c) = some (cJ c k x n) := by
  have h3 : ¬ (nI n < 0 ∨ cN c k x ≤ (nI n).toNatClampNeg) := by
    rw [nI_c h2]
    rintro (h | h)
    · exact nI_pos (by omega) h
    · omega
  simp only [xL, cTt hl, ht, true_and, cNn hl]
  rw [if_pos h3, nI_c h2]
  show some (c.2.1 (d.2.1 (d.2.2.2 k x)) (d.2.2.1 (d.2.2.2 k x)) n) = _
  rw [hl.2.1, hl.2.2]
theorem cyL {y : Int64} (hA : AI d) (hl : lvd d k x) (ht : TK k = 13) (hn : n < cN c k x) (h2 : n < 2147483648) : yL (da d k x) (nI n) y (cB d c) = some (cB d (kwL k x n y c)) := by
  have h3 : ¬ (nI n < 0 ∨ cN c k x ≤ (nI n).toNatClampNeg) := by
    rw [nI_c h2]
    rintro (h | h)
    · exact nI_pos (by omega) h
    · omega
  simp only [yL, cTt hl, ht, true_and, cNn hl]
  rw [if_pos h3, nI_c h2, cw_L hA hl]
theorem cxP {t : Nat} (hl : lvd d k x) (ht : TK k = t) (hn : n < cN c k x) (h2 : n < 2147483648) : xP t (da d k x) (nI n) (cB d c) = some ((cQ c k x n).map (fun q => da d q.1 q.2)) := by
  have h3 : ¬ (nI n < 0 ∨ cN c k x ≤ (nI n).toNatClampNeg) := by
    rw [nI_c h2]
    rintro (h | h)
    · exact nI_pos (by omega) h
    · omega
  simp only [xP, cTt hl, ht, true_and, cNn hl]
  rw [if_pos h3, nI_c h2]
  show some ((c.2.2.1 (d.2.1 (d.2.2.2 k x)) (d.2.2.1 (d.2.2.2 k x)) n).map _) = _
  rw [hl.2.1, hl.2.2]
theorem cyP {t e : Nat} {r : Option Nat} (q : Option (Nat × Nat)) (hA : AI d) (hl : lvd d k x) (ht : TK k = t) (hn : n < cN c k x) (h2 : n < 2147483648) (hr : r = q.map (fun q => da d q.1 q.2)) (hq : ∀ y, q = some y → lvd d y.1 y.2 ∧ TK y.1 = e) : yP t e (da d k x) (nI n) r (cB d c) = some (cB d (kwQ k x n q c)) := by
  have h3 : ¬ (nI n < 0 ∨ cN c k x ≤ (nI n).toNatClampNeg) := by
    rw [nI_c h2]
    rintro (h | h)
    · exact nI_pos (by omega) h
    · omega
  have h4 : r.all (fun b => zT (cB d c) b == e) = true := by
    subst hr
    cases q with
    | none => rfl
    | some y =>
      obtain ⟨h5, h6⟩ := hq y rfl
      show (zT (cB d c) (da d y.1 y.2) == e) = true
      rw [cTt h5, h6]
      simp
  simp only [yP, cTt hl, ht, true_and, cNn hl, h4, and_true]
  rw [if_pos h3, nI_c h2, hr, cw_P hA hl]
/-! a new cell -/
theorem dnew_old {k0 x0 : Nat} (hA : AI d) (hn : ¬ lvd d k0 x0) (hl : lvd d k x) : da (dnew k0 x0 d) k x = da d k x ∧ lvd (dnew k0 x0 d) k x := by
  have hne : ¬ (k = k0 ∧ x = x0) := fun ⟨h1, h2⟩ => hn (by rw [← h1, ← h2]; exact hl)
  have e1 : zu d.2.2.2 k0 x0 d.1 k x = d.2.2.2 k x := zu_n hne
  have hlt : d.2.2.2 k x < d.1 := (hA _ (by rw [hl.2.1]; exact hl.1)).1
  refine ⟨e1, hl.1, ?_, ?_⟩
  · show va_up d.2.1 d.1 k0 (zu d.2.2.2 k0 x0 d.1 k x) = k
    rw [e1, va_up_ne _ _ (by omega)]
    exact hl.2.1
  · show va_up d.2.2.1 d.1 x0 (zu d.2.2.2 k0 x0 d.1 k x) = x
    rw [e1, va_up_ne _ _ (by omega)]
    exact hl.2.2
theorem dnew_new {k0 x0 : Nat} (hk : k0 ≠ 0) : da (dnew k0 x0 d) k0 x0 = d.1 ∧ lvd (dnew k0 x0 d) k0 x0 := by
  have e1 : zu d.2.2.2 k0 x0 d.1 k0 x0 = d.1 := zu_s
  refine ⟨e1, hk, ?_, ?_⟩
  · show va_up d.2.1 d.1 k0 (zu d.2.2.2 k0 x0 d.1 k0 x0) = k0
    rw [e1, va_up_self]
  · show va_up d.2.2.1 d.1 x0 (zu d.2.2.2 k0 x0 d.1 k0 x0) = x0
    rw [e1, va_up_self]
theorem dnew_iff {k0 x0 : Nat} (hA : AI d) (hk : k0 ≠ 0) (hn : ¬ lvd d k0 x0) : lvd (dnew k0 x0 d) k x ↔ lvd d k x ∨ (k = k0 ∧ x = x0) := by
  constructor
  · intro h
    by_cases e : k = k0 ∧ x = x0
    · exact Or.inr e
    · left
      have e1 : zu d.2.2.2 k0 x0 d.1 k x = d.2.2.2 k x := zu_n e
      obtain ⟨h1, h2, h3⟩ := h
      have h2' : va_up d.2.1 d.1 k0 (zu d.2.2.2 k0 x0 d.1 k x) = k := h2
      have h3' : va_up d.2.2.1 d.1 x0 (zu d.2.2.2 k0 x0 d.1 k x) = x := h3
      rw [e1] at h2' h3'
      by_cases e2 : d.2.2.2 k x = d.1
      · rw [e2, va_up_self] at h2' h3'
        exact absurd ⟨h2'.symm, h3'.symm⟩ e
      · rw [va_up_ne _ _ e2] at h2' h3'
        exact ⟨h1, h2', h3'⟩
  · rintro (h | ⟨rfl, rfl⟩)
    · exact (dnew_old hA hn h).2
    · exact (dnew_new hk).2
theorem dnew_AI {k0 x0 : Nat} (hA : AI d) (hk : k0 ≠ 0) (hn : ¬ lvd d k0 x0) : AI (dnew k0 x0 d) := by
  intro a ha
  by_cases e : a = d.1
  · subst e
    refine ⟨by show d.1 < d.1 + 1; omega, ?_⟩
    show zu d.2.2.2 k0 x0 d.1 (va_up d.2.1 d.1 k0 d.1) (va_up d.2.2.1 d.1 x0 d.1) = d.1
    rw [va_up_self, va_up_self, zu_s]
  · have e1 : va_up d.2.1 d.1 k0 a = d.2.1 a := va_up_ne _ _ e
    have e2 : va_up d.2.2.1 d.1 x0 a = d.2.2.1 a := va_up_ne _ _ e
    have ha' : d.2.1 a ≠ 0 := by rw [← e1]; exact ha
    obtain ⟨h1, h2⟩ := hA a ha'
    refine ⟨by show a < d.1 + 1; omega, ?_⟩
    show zu d.2.2.2 k0 x0 d.1 (va_up d.2.1 d.1 k0 a) (va_up d.2.2.1 d.1 x0 a) = a
    rw [e1, e2]
    have hl : lvd d (d.2.1 a) (d.2.2.1 a) := ⟨ha', by rw [h2], by rw [h2]⟩
    have hne : ¬ (d.2.1 a = k0 ∧ d.2.2.1 a = x0) := fun ⟨h3, h4⟩ => hn (by rw [← h3, ← h4]; exact hl)
    rw [zu_n hne]
    exact h2
/-- the heap with a new cell -/
theorem cnew {k0 x0 t : Nat} (hw : WF d c) (hk : k0 ≠ 0) (hn : ¬ lvd d k0 x0) (ht : TK k0 = t) : znew t n (cB d c) = cB (dnew k0 x0 d) (kwN k0 x0 n c) := by
  obtain ⟨hA, hZ, hQ⟩ := hw
  obtain ⟨z1, z2, z3', z4⟩ := hZ k0 x0 hn
  have key : ∀ a, a ≠ d.1 → ¬ (d.2.1 a = k0 ∧ d.2.2.1 a = x0) := by
    intro a _ ⟨h1, h2⟩
    have h3 := (hA a (by rw [h1]; exact hk)).2
    rw [h1, h2] at h3
    exact hn ⟨hk, by rw [h3]; exact h1, by rw [h3]; exact h2⟩
  have hp1 : va_up (fun a i => c.1 (d.2.1 a) (d.2.2.1 a) i) d.1 (fun _ => 0) = fun a i => c.1 (va_up d.2.1 d.1 k0 a) (va_up d.2.2.1 d.1 x0 a) i := by
    funext a i
    by_cases e : a = d.1
    · subst e; rw [va_up_self, va_up_self, va_up_self, z1]
    · rw [va_up_ne _ _ e, va_up_ne _ _ e, va_up_ne _ _ e]
  have hp2 : va_up (fun a i => c.2.1 (d.2.1 a) (d.2.2.1 a) i) d.1 (fun _ => 0) = fun a i => c.2.1 (va_up d.2.1 d.1 k0 a) (va_up d.2.2.1 d.1 x0 a) i := by
    funext a i
    by_cases e : a = d.1
    · subst e; rw [va_up_self, va_up_self, va_up_self, z2]
    · rw [va_up_ne _ _ e, va_up_ne _ _ e, va_up_ne _ _ e]
  have hp3 : va_up (fun a i => (c.2.2.1 (d.2.1 a) (d.2.2.1 a) i).map (fun q => d.2.2.2 q.1 q.2)) d.1 (fun _ => none) = fun a i => (c.2.2.1 (va_up d.2.1 d.1 k0 a) (va_up d.2.2.1 d.1 x0 a) i).map (fun q => zu d.2.2.2 k0 x0 d.1 q.1 q.2) := by
    funext a i
    by_cases e : a = d.1
    · subst e; rw [va_up_self, va_up_self, va_up_self, z3']; rfl
    · rw [va_up_ne _ _ e, va_up_ne _ _ e, va_up_ne _ _ e]
      cases h : c.2.2.1 (d.2.1 a) (d.2.2.1 a) i with
      | none => rfl
      | some q =>
        have hl := hQ _ _ _ _ h
        show some (d.2.2.2 q.1 q.2) = some (zu d.2.2.2 k0 x0 d.1 q.1 q.2)
        rw [zu_n (fun ⟨h1, h2⟩ => hn (by rw [← h1, ← h2]; exact hl))]
  have hp4 : va_up (fun a => TK (d.2.1 a)) d.1 t = fun a => TK (va_up d.2.1 d.1 k0 a) := by
    funext a
    by_cases e : a = d.1
    · subst e; rw [va_up_self, va_up_self, ht]
    · rw [va_up_ne _ _ e, va_up_ne _ _ e]
  have hp5 : va_up (fun a => c.2.2.2 (d.2.1 a) (d.2.2.1 a)) d.1 n = fun a => zu c.2.2.2 k0 x0 n (va_up d.2.1 d.1 k0 a) (va_up d.2.2.1 d.1 x0 a) := by
    funext a
    by_cases e : a = d.1
    · subst e; rw [va_up_self, va_up_self, va_up_self, zu_s]
    · rw [va_up_ne _ _ e, va_up_ne _ _ e, va_up_ne _ _ e, zu_n (key a e)]
  simp only [znew, cB, kwN, dnew, zs, zT, zN]
  rw [hp1, hp2, hp3, hp4, hp5]
theorem WF.new {k0 x0 : Nat} (hw : WF d c) (hk : k0 ≠ 0) (hn : ¬ lvd d k0 x0) : WF (dnew k0 x0 d) (kwN k0 x0 n c) := by
  obtain ⟨hA, hZ, hQ⟩ := hw
  refine ⟨dnew_AI hA hk hn, fun k x h => ?_, fun k x i q h => (dnew_old hA hn (hQ k x i q h)).2⟩
  have h1 : ¬ (lvd d k x ∨ (k = k0 ∧ x = x0)) := fun h2 => h ((dnew_iff hA hk hn).mpr h2)
  obtain ⟨a1, a2, a3, a4⟩ := hZ k x (fun h2 => h1 (Or.inl h2))
  exact ⟨a1, a2, a3, by show zu c.2.2.2 k0 x0 n k x = 0; rw [zu_n (fun h2 => h1 (Or.inr h2))]; exact a4⟩
theorem WF.wI (hw : WF d c) (hl : lvd d k x) : WF d (kwI k x i v c) := by
  obtain ⟨hA, hZ, hQ⟩ := hw
  refine ⟨hA, fun k' x' h => ?_, hQ⟩
  obtain ⟨a1, a2, a3, a4⟩ := hZ k' x' h
  refine ⟨fun j => ?_, a2, a3, a4⟩
  show z3 c.1 k x i v k' x' j = 0
  simp only [z3]
  rw [if_neg (fun h2 => h (by rw [h2.1, h2.2.1]; exact hl))]
  exact a1 j
theorem WF.wL {y : Int64} (hw : WF d c) (hl : lvd d k x) : WF d (kwL k x i y c) := by
  obtain ⟨hA, hZ, hQ⟩ := hw
  refine ⟨hA, fun k' x' h => ?_, hQ⟩
  obtain ⟨a1, a2, a3, a4⟩ := hZ k' x' h
  refine ⟨a1, fun j => ?_, a3, a4⟩
  show z3 c.2.1 k x i y k' x' j = 0
  simp only [z3]
  rw [if_neg (fun h2 => h (by rw [h2.1, h2.2.1]; exact hl))]
  exact a2 j
theorem WF.wQ {q : Option (Nat × Nat)} (hw : WF d c) (hl : lvd d k x) (hq : ∀ y, q = some y → lvd d y.1 y.2) : WF d (kwQ k x i q c) := by
  obtain ⟨hA, hZ, hQ⟩ := hw
  refine ⟨hA, fun k' x' h => ?_, fun k' x' j y h => ?_⟩
  · obtain ⟨a1, a2, a3, a4⟩ := hZ k' x' h
    refine ⟨a1, a2, fun j => ?_, a4⟩
    show z3 c.2.2.1 k x i q k' x' j = none
    simp only [z3]
    rw [if_neg (fun h2 => h (by rw [h2.1, h2.2.1]; exact hl))]
    exact a3 j
  · have h' : z3 c.2.2.1 k x i q k' x' j = some y := h
    simp only [z3] at h'
    by_cases e : k' = k ∧ x' = x ∧ j = i
    · rw [if_pos e] at h'
      exact hq y h'
    · rw [if_neg e] at h'
      exact hQ k' x' j y h'
end CB
