/-! A heap by typed functions: what an address holds, by the kind of its cell. Kinds 0 to 11: the objects of vwCl; 12 ints, 13 longs, 14 booleans, 15 to 19 arrays of references. -/
abbrev Hz : Type := (Nat → Nat → Int32) × (Nat → Nat → Int64) × (Nat → Nat → Option Nat) × (Nat → Nat) × (Nat → Nat) × Nat
abbrev zI (h : Hz) : Nat → Nat → Int32 := h.1
abbrev zL (h : Hz) : Nat → Nat → Int64 := h.2.1
abbrev zP (h : Hz) : Nat → Nat → Option Nat := h.2.2.1
abbrev zT (h : Hz) : Nat → Nat := h.2.2.2.1
abbrev zN (h : Hz) : Nat → Nat := h.2.2.2.2.1
abbrev zs (h : Hz) : Nat := h.2.2.2.2.2
def zu {α : Type} (f : Nat → Nat → α) (a k : Nat) (v : α) : Nat → Nat → α := fun b j => if b = a ∧ j = k then v else f b j
theorem zu_off {α : Type} {f : Nat → Nat → α} {a k b : Nat} {v : α} (h : b ≠ a) : zu f a k v b = f b := by
  funext j
  simp [zu, h]
theorem zu_at {α : Type} {f : Nat → Nat → α} {a k : Nat} {v : α} : zu f a k v a = fun j => if j = k then v else f a j := by
  funext j
  simp [zu]
def zwI (a k : Nat) (v : Int32) (h : Hz) : Hz := (zu h.1 a k v, h.2)
def zwL (a k : Nat) (v : Int64) (h : Hz) : Hz := (h.1, zu h.2.1 a k v, h.2.2)
def zwP (a k : Nat) (v : Option Nat) (h : Hz) : Hz := (h.1, h.2.1, zu h.2.2.1 a k v, h.2.2.2)
/-- a new cell of kind t and length n at the heap's end -/
def znew (t n : Nat) (h : Hz) : Hz := (va_up h.1 (zs h) (fun _ => 0), va_up h.2.1 (zs h) (fun _ => 0), va_up h.2.2.1 (zs h) (fun _ => none), va_up (zT h) (zs h) t, va_up (zN h) (zs h) n, zs h + 1)
/-- the fields: how many, which are references -/
def nF (c : Nat) : Nat := match c with
  | 0 => 10
  | 1 => 5
  | 2 => 2
  | 3 => 3
  | 4 => 2
  | 5 => 11
  | 6 => 2
  | 7 => 2
  | 8 => 3
  | 9 => 11
  | 10 => 13
  | _ => 50
def rF (c : Nat) : List Nat := match c with
  | 0 => [3, 5, 7]
  | 1 => [0, 1, 2, 3]
  | 2 => [0]
  | 3 => [0, 1]
  | 4 => [1]
  | 5 => [3, 4, 6]
  | 6 => [0]
  | 7 => [0]
  | 8 => [0, 1]
  | 9 => [1, 2, 3, 4, 5]
  | 10 => [0, 1, 2, 3, 4, 5, 6, 7, 8, 9]
  | _ => (List.range 50).filter (fun k => !(k == 9 || k == 24 || k == 25 || k == 29 || k == 33 || k == 46))
def isR (c k : Nat) : Bool := (rF c).contains k
def fv (h : Hz) (a c k : Nat) : Value := if isR c k = true then va_rf (zP h a k) else .int (zI h a k)
def zF (h : Hz) (a : Nat) : List Value := (List.range (nF (zT h a))).map (fv h a (zT h a))
def zE (cy : Nat → ClassId) (h : Hz) (a : Nat) : va_E :=
  if zT h a < 12 then .inr (zT h a, zF h a)
  else if zT h a = 13 then .inl (cy 1, zN h a, .inr (.inl (zL h a)))
  else if zT h a < 15 then .inl (cy (zT h a - 12), zN h a, .inl (zI h a))
  else .inl (cy (zT h a - 12), zN h a, .inr (.inr (.inr (.inr (zP h a)))))
/-- the heap is as the functions say, at every address that has a kind -/
def zW (A : Nat → Prop) (cy : Nat → ClassId) (D : va_G) (h : Hz) (H : Heap) : Prop := H.size = zs h ∧ ∀ a : Nat, zT h a < 20 → A a ∧ a < zs h ∧ va_at D vwCl (a, zE cy h a) H
abbrev zty (cy : Nat → ClassId) : List (ClassId × FieldType) := [(cy 0, .int), (cy 1, .long), (cy 2, .boolean), (cy 3, .object "FarHold$Letter"), (cy 4, .object "FarHold$Row"), (cy 5, .object "FarHold$Thing"), (cy 6, .object "FarHold$WaitingName"), (cy 7, .object "FarHold$Walk")]
abbrev zK (D : va_G) (cy : Nat → ClassId) (U : State) : Prop := va_K D vwCl (zty cy) U
/-- links to the constructors of nest mates, and the arrays over the own classes -/
def zNest (U : State) : Prop := (va_Nw (.methodLinkNest RX10 9 yX6_init RX10) U ∧ va_Nw (.methodLinkNest RX10 18 yX2_init RX10) U ∧ va_Nw (.methodLinkNest RX10 25 yX7_init RX10) U ∧ va_Nw (.methodLinkNest RX10 48 yX3_init RX10) U ∧ va_Nw (.methodLinkNest RX10 58 yX1_init RX10) U ∧ va_Nw (.methodLinkNest RX1 11 yX3_init RX10) U) ∧ va_AO "FarHold$Letter" U ∧ va_AO "FarHold$Row" U ∧ va_AO "FarHold$Thing" U ∧ va_AO "FarHold$WaitingName" U ∧ va_AO "FarHold$Walk" U
theorem zNest.warm {s U : State} (hW : s.WarmedH U.vm) (h : zNest s) : zNest U := by
  obtain ⟨⟨h1, h2, h3, h4, h5, h6⟩, g1, g2, g3, g4, g5⟩ := h
  exact ⟨⟨h1.warmM hW, h2.warmM hW, h3.warmM hW, h4.warmM hW, h5.warmM hW, h6.warmM hW⟩, g1.moved hW.alike, g2.moved hW.alike, g3.moved hW.alike, g4.moved hW.alike, g5.moved hW.alike⟩
theorem zNest.same {u U : State} (h : u.vm = U.vm) (hz : zNest u) : zNest U := by
  obtain ⟨⟨h1, h2, h3, h4, h5, h6⟩, g1, g2, g3, g4, g5⟩ := hz
  have ha : u.vm.Alike U.vm := by rw [h]; exact Vm.Alike.refl U.vm
  exact ⟨⟨h1.same rfl h, h2.same rfl h, h3.same rfl h, h4.same rfl h, h5.same rfl h, h6.same rfl h⟩, g1.moved ha, g2.moved ha, g3.moved ha, g4.moved ha, g5.moved ha⟩
/-- a contract's start, and its end -/
def zS (A : Nat → Prop) (D : va_G) (cy : Nat → ClassId) (h : Hz) (U : State) : Prop := zW A cy D h U.heap ∧ zK D cy U ∧ zNest U ∧ ∀ q : Nat, U.heap.size ≤ q → A q
def zB (A : Nat → Prop) (D : va_G) (cy : Nat → ClassId) (h : Hz) (U : State) : Prop := zW A cy D h U.heap
theorem zS_blind (A : Nat → Prop) (D : va_G) (cy : Nat → ClassId) (h : Hz) (av : List Value) : FrameBlind (va_Pc av (zS A D cy h)) := by
  intro a U g mk q
  obtain ⟨q0, q1, q2, q3, q4⟩ := q
  exact ⟨q0, q1, va_K.moved (u := U) (U := U.calling g mk a) (Vm.Alike.refl U.vm) q2, q3.same (U := U.calling g mk a) rfl, q4⟩
/-- what a method's body stands on -/
def zX (A : Nat → Prop) (D : va_G) (cy : Nat → ClassId) (p : Program) (s : State) (m : MethodId) (args : Array Value) (c : Code) (cc : ByteArray) (own : String) (nL : Nat) : Prop :=
  p.tables.exec = Jvm.exec ∧ c.code = cc ∧ (∀ w ∈ wT, w.before args s = true) ∧ s.vm.findClass own = some m.cls ∧ zK D cy s ∧ c.maxLocals = nL ∧ zNest s ∧ ∀ q : Nat, s.heap.size ≤ q → A q
/-- a kind of objects: its names, its words -/
def zC (ci : Nat) (C : String) (T : u_T) (N : Nat) (ty : Nat → FieldType) : Prop := vwCl[ci]? = some (C, T, N) ∧ (∀ w ∈ u_ws C T N, w ∈ wT) ∧ ci < 12 ∧ nF ci = N ∧ (∀ k, k < N → parseFieldDescriptor (T k).2.2.1 = some (ty k)) ∧ (∀ a, a < N → ∀ b, b < N → a ≠ b → (T a).2.1 ≠ (T b).2.1)
/-! the operations -/
def gI (c k a : Nat) (h : Hz) : Option Int32 := if zT h a = c then some (zI h a k) else none
def gP (c k a : Nat) (h : Hz) : Option (Option Nat) := if zT h a = c then some (zP h a k) else none
def pI (c k a : Nat) (v : Int32) (h : Hz) : Option Hz := if zT h a = c then some (zwI a k v h) else none
def pZ (c k a : Nat) (v : Int32) (h : Hz) : Option Hz := if zT h a = c ∧ (v = 0 ∨ v = 1) then some (zwI a k v h) else none
def pP (c k a : Nat) (v : Option Nat) (h : Hz) : Option Hz := if zT h a = c then some (zwP a k v h) else none
def xI (t a : Nat) (i : Int32) (h : Hz) : Option Int32 := if zT h a = t ∧ ¬ (i < 0 ∨ zN h a ≤ i.toNatClampNeg) then some (zI h a i.toNatClampNeg) else none
def yI (a : Nat) (i v : Int32) (h : Hz) : Option Hz := if zT h a = 12 ∧ ¬ (i < 0 ∨ zN h a ≤ i.toNatClampNeg) then some (zwI a i.toNatClampNeg v h) else none
def yZ (a : Nat) (i v : Int32) (h : Hz) : Option Hz := if zT h a = 14 ∧ ¬ (i < 0 ∨ zN h a ≤ i.toNatClampNeg) then some (zwI a i.toNatClampNeg (vp_nar .boolean v) h) else none
def xL (a : Nat) (i : Int32) (h : Hz) : Option Int64 := if zT h a = 13 ∧ ¬ (i < 0 ∨ zN h a ≤ i.toNatClampNeg) then some (zL h a i.toNatClampNeg) else none
def yL (a : Nat) (i : Int32) (v : Int64) (h : Hz) : Option Hz := if zT h a = 13 ∧ ¬ (i < 0 ∨ zN h a ≤ i.toNatClampNeg) then some (zwL a i.toNatClampNeg v h) else none
def xP (t a : Nat) (i : Int32) (h : Hz) : Option (Option Nat) := if zT h a = t ∧ ¬ (i < 0 ∨ zN h a ≤ i.toNatClampNeg) then some (zP h a i.toNatClampNeg) else none
def yP (t ce a : Nat) (i : Int32) (v : Option Nat) (h : Hz) : Option Hz := if zT h a = t ∧ ¬ (i < 0 ∨ zN h a ≤ i.toNatClampNeg) ∧ v.all (fun b => zT h b == ce) = true then some (zwP a i.toNatClampNeg v h) else none
def xN (t a : Nat) (h : Hz) : Option Int32 := if zT h a = t then some (Int32.ofNat (zN h a)) else none
def nO (c : Nat) (h : Hz) : Option (Nat × Hz) := some (zs h, znew c 0 h)
def nA (t B : Nat) (n : Int32) (h : Hz) : Option (Nat × Hz) := if ¬ n < 0 ∧ n.toNatClampNeg ≤ B then some (zs h, znew t n.toNatClampNeg h) else none
/-- System.arraycopy of longs -/
def cL (a0 : Nat) (sp : Int32) (a : Nat) (dp n : Int32) (h : Hz) : Option Hz :=
  if zT h a0 = 13 ∧ zT h a = 13 ∧ ¬ sp < 0 ∧ ¬ dp < 0 ∧ ¬ n < 0 ∧ sp.toNatClampNeg + n.toNatClampNeg ≤ zN h a0 ∧ dp.toNatClampNeg + n.toNatClampNeg ≤ zN h a then some (h.1, va_up h.2.1 a (va_cpy (zL h a0) (zL h a) sp.toNatClampNeg dp.toNatClampNeg n.toNatClampNeg), h.2.2) else none
def tg (c a : Nat) (h : Hz) : Option Nat := if zT h a = c then some a else none
def b1 {α β : Type} (x : Option α) (k : α → Option β) : Option β := x.bind k
def b2 {α β : Type} (x : Option (α × Hz)) (k : α → Hz → Option β) : Option β := x.bind fun q => k q.1 q.2
def oe {β : Type} (r : Option Nat) (a : Option β) (b : Nat → Option β) : Option β := match r with
  | none => a
  | some x => b x
theorem b1_some {α β : Type} {x : Option α} {k : α → Option β} {y : β} (h : b1 x k = some y) : ∃ a, x = some a ∧ k a = some y := by
  cases x with
  | none => cases h
  | some a => exact ⟨a, rfl, h⟩
theorem b2_some {α β : Type} {x : Option (α × Hz)} {k : α → Hz → Option β} {y : β} (h : b2 x k = some y) : ∃ a s, x = some (a, s) ∧ k a s = some y := by
  cases x with
  | none => cases h
  | some a => exact ⟨a.1, a.2, rfl, h⟩
theorem oe_n {β : Type} {a : Option β} {b : Nat → Option β} {y : β} (h : oe none a b = some y) : a = some y := h
theorem oe_s {β : Type} {a : Option β} {b : Nat → Option β} {y : β} {x : Nat} (h : oe (some x) a b = some y) : b x = some y := h
theorem it_t {c : Prop} {d : Decidable c} {β : Type} {a b : Option β} {y : β} (h : (if c then a else b) = some y) (hc : c) : a = some y := by rwa [if_pos hc] at h
theorem it_f {c : Prop} {d : Decidable c} {β : Type} {a b : Option β} {y : β} (h : (if c then a else b) = some y) (hc : ¬ c) : b = some y := by rwa [if_neg hc] at h
theorem it_s {c : Prop} {d : Decidable c} {β : Type} {a : Option β} {y : β} (h : (if c then a else none) = some y) : c ∧ a = some y := by
  by_cases hc : c
  · exact ⟨hc, by rwa [if_pos hc] at h⟩
  · rw [if_neg hc] at h
    cases h
theorem it_v {c : Prop} {d : Decidable c} {β : Type} {a y : β} (h : (if c then some a else none) = some y) : c ∧ a = y := ⟨(it_s h).1, Option.some.inj (it_s h).2⟩
/-! the heap's rows -/
theorem zE_obj {cy : Nat → ClassId} {h : Hz} {a c : Nat} (ht : zT h a = c) (hc : c < 12) : zE cy h a = .inr (c, zF h a) := by
  subst ht
  simp only [zE, if_pos hc]
theorem zF_get {h : Hz} {a c k : Nat} (ht : zT h a = c) (hk : k < nF c) : (zF h a)[k]? = some (fv h a c k) := by
  subst ht
  simp [zF, hk]
theorem zF_len {h : Hz} {a c : Nat} (ht : zT h a = c) : (zF h a).length = nF c := by
  subst ht
  simp [zF]
theorem zE_int {cy : Nat → ClassId} {h : Hz} {a : Nat} (ht : zT h a = 12) : zE cy h a = .inl (cy 0, zN h a, .inl (zI h a)) := by simp [zE, ht]
theorem zE_bool {cy : Nat → ClassId} {h : Hz} {a : Nat} (ht : zT h a = 14) : zE cy h a = .inl (cy 2, zN h a, .inl (zI h a)) := by simp [zE, ht]
theorem zE_long {cy : Nat → ClassId} {h : Hz} {a : Nat} (ht : zT h a = 13) : zE cy h a = .inl (cy 1, zN h a, .inr (.inl (zL h a))) := by simp [zE, ht]
theorem zE_ref {cy : Nat → ClassId} {h : Hz} {a t : Nat} (ht : zT h a = t) (h1 : 15 ≤ t) : zE cy h a = .inl (cy (t - 12), zN h a, .inr (.inr (.inr (.inr (zP h a))))) := by
  subst ht
  simp only [zE, if_neg (show ¬ zT h a < 12 by omega), if_neg (show ¬ zT h a = 13 by omega), if_neg (show ¬ zT h a < 15 by omega)]
def zOff (a : Nat) (h h' : Hz) : Prop := h'.2.2.2 = h.2.2.2 ∧ ∀ b, b ≠ a → zI h' b = zI h b ∧ zL h' b = zL h b ∧ zP h' b = zP h b
theorem zE_off {cy : Nat → ClassId} {a b : Nat} {h h' : Hz} (ho : zOff a h h') (hb : b ≠ a) : zE cy h' b = zE cy h b := by
  obtain ⟨h1, h2⟩ := ho
  obtain ⟨e1, e2, e3⟩ := h2 b hb
  have eT : zT h' b = zT h b := by simp only [zT, h1]
  have eN : zN h' b = zN h b := by simp only [zN, h1]
  have hf : zF h' b = zF h b := by
    simp only [zF, eT]
    apply List.map_congr_left
    intro k _
    simp only [fv, e1, e3]
  simp only [zE, hf, eT, eN, e1, e2, e3]
theorem zW_upd {A : Nat → Prop} {cy : Nat → ClassId} {D : va_G} {a : Nat} {h h' : Hz} {H H' : Heap} (hW : zW A cy D h H) (ho : zOff a h h') (hz : H'.size = H.size) (hq : ∀ q : Nat, q ≠ a → H'[q]? = H[q]?) (hat : va_at D vwCl (a, zE cy h' a) H') : zW A cy D h' H' := by
  obtain ⟨h1, h2⟩ := hW
  refine ⟨by rw [hz, h1]; show zs h = zs h'; simp only [zs]; rw [ho.1], fun b hb => ?_⟩
  have hb' : zT h b < 20 := by
    have : zT h' b = zT h b := by simp only [zT]; rw [ho.1]
    omega
  obtain ⟨g1, g2, g3⟩ := h2 b hb'
  refine ⟨g1, by show b < zs h'; simp only [zs]; rw [ho.1]; exact g2, ?_⟩
  by_cases e : b = a
  · subst e
    exact hat
  · rw [zE_off ho e]
    exact g3.kept (hq b e)
theorem zwI_off (a k : Nat) (v : Int32) (h : Hz) : zOff a h (zwI a k v h) := ⟨rfl, fun b hb => ⟨zu_off hb, rfl, rfl⟩⟩
theorem zwL_off (a k : Nat) (v : Int64) (h : Hz) : zOff a h (zwL a k v h) := ⟨rfl, fun b hb => ⟨rfl, zu_off hb, rfl⟩⟩
theorem zwP_off (a k : Nat) (v : Option Nat) (h : Hz) : zOff a h (zwP a k v h) := ⟨rfl, fun b hb => ⟨rfl, rfl, zu_off hb⟩⟩
theorem zF_wI {h : Hz} {a c k : Nat} (v : Int32) (ht : zT h a = c) (hr : isR c k = false) : zF (zwI a k v h) a = (zF h a).set k (.int v) := by
  subst ht
  apply List.ext_getElem?
  intro j
  simp only [zF, List.getElem?_set, List.length_map, List.length_range]
  by_cases hj : j < nF (zT h a)
  · by_cases e : k = j
    · subst e
      simp [zwI, zI, zP, zT, zN, zs, hj, fv, hr, zu_at]
    · simp [zwI, zI, zP, zT, zN, zs, hj, e, fv, zu_at, Ne.symm e]
  · by_cases e : k = j
    · subst e
      simp [zwI, zT, hj]
    · simp [zwI, zT, hj, e]
theorem zF_wP {h : Hz} {a c k : Nat} (v : Option Nat) (ht : zT h a = c) (hr : isR c k = true) : zF (zwP a k v h) a = (zF h a).set k (va_rf v) := by
  subst ht
  apply List.ext_getElem?
  intro j
  simp only [zF, List.getElem?_set, List.length_map, List.length_range]
  by_cases hj : j < nF (zT h a)
  · by_cases e : k = j
    · subst e
      simp [zwP, zI, zP, zT, zN, zs, hj, fv, hr, zu_at]
    · simp [zwP, zI, zP, zT, zN, zs, hj, e, fv, zu_at, Ne.symm e]
  · by_cases e : k = j
    · subst e
      simp [zwP, zT, hj]
    · simp [zwP, zT, hj, e]
theorem znew_at {h : Hz} {t n b : Nat} (hb : b ≠ zs h) (cy : Nat → ClassId) : zE cy (znew t n h) b = zE cy h b ∧ zT (znew t n h) b = zT h b := by
  have e0 : zT (znew t n h) b = zT h b := va_up_ne _ _ hb
  have e1 : zI (znew t n h) b = zI h b := va_up_ne _ _ hb
  have e2 : zL (znew t n h) b = zL h b := va_up_ne _ _ hb
  have e3 : zP (znew t n h) b = zP h b := va_up_ne _ _ hb
  have e4 : zN (znew t n h) b = zN h b := va_up_ne _ _ hb
  have hf : zF (znew t n h) b = zF h b := by
    simp only [zF, e0]
    apply List.map_congr_left
    intro k _
    simp only [fv, e1, e3]
  refine ⟨?_, e0⟩
  simp only [zE, hf, e0, e1, e2, e3, e4]
theorem zW_new {A : Nat → Prop} {cy : Nat → ClassId} {D : va_G} {t n : Nat} {h : Hz} {H H' : Heap} (hW : zW A cy D h H) (hA : A H.size) (hz : H'.size = H.size + 1) (hq : ∀ q : Nat, q < H.size → H'[q]? = H[q]?) (hat : va_at D vwCl (zs h, zE cy (znew t n h) (zs h)) H') : zW A cy D (znew t n h) H' := by
  obtain ⟨h1, h2⟩ := hW
  refine ⟨by rw [hz, h1]; rfl, fun b hb => ?_⟩
  by_cases e : b = zs h
  · subst e
    exact ⟨by rw [← h1]; exact hA, by show zs h < zs h + 1; omega, hat⟩
  · obtain ⟨e1, e2⟩ := znew_at (t := t) (n := n) e cy
    rw [e2] at hb
    obtain ⟨g1, g2, g3⟩ := h2 b hb
    refine ⟨g1, by show b < zs h + 1; omega, ?_⟩
    rw [e1]
    exact g3.kept (hq b (by omega))
