section ZR2
variable {p : Program} {l : Launch} {e : Env} {R : Room} {s : State} {m : MethodId} {args : Array Value} {below : List Frame} {meth : Method} {c : Code} {H H0 : Heap} {locs : List Loc} {cells slots : Nat} {Q : State → Prop}
variable {cc : ByteArray} {pc nL : Nat} {ls : Array Slot} {rest : List Value} {A : Nat → Prop} {D : va_G} {cy : Nat → ClassId} {h h' : Hz} {own : String}
theorem z_putI {ci k a N index : Nat} {C : String} {T : u_T} {ty : Nat → FieldType} {v : Int32} (X : zX A D cy p s m args c cc own nL) (hW : zW A cy D h H) (hS : va_S A H0 H locs) (hg : pI ci k a v h = some h') (hC : zC ci C T N ty) (hk : k < N) (hr : isR ci k = false) (hty : ty k = .int) (hfin : (T k).2.2.2 = false ∨ ((T k).2.2.2 = true ∧ meth.name = "<init>" ∧ (T k).1 = own)) (hl : Cond.fieldLink own index (T k).1 (T k).2.1 (T k).2.2.1 ∈ wT) (hdg : decode cc pc = .ok (.putfield index, 3))
    (kk : ∀ (H1 : Heap) (locs1 : List Loc), zW A cy D h' H1 → va_S A H0 H1 locs1 → W p l e R s m args below meth c H1 locs1 cells slots Q (F0 m (pc + 3) ls rest)) : W p l e R s m args below meth c H locs cells slots Q (F0 m pc ls (.int v :: .ref a :: rest)) := by
  obtain ⟨hT, rfl⟩ := it_v hg
  exact z_put X hW hS hC hk hT (zwI_off a k v h) (zF_wI v hT hr) (by rw [hty]; rfl) (by rw [hty]; rfl) hfin hl hdg kk
theorem z_putZ {ci k a N index : Nat} {C : String} {T : u_T} {ty : Nat → FieldType} {v : Int32} (X : zX A D cy p s m args c cc own nL) (hW : zW A cy D h H) (hS : va_S A H0 H locs) (hg : pZ ci k a v h = some h') (hC : zC ci C T N ty) (hk : k < N) (hr : isR ci k = false) (hty : ty k = .boolean) (hfin : (T k).2.2.2 = false ∨ ((T k).2.2.2 = true ∧ meth.name = "<init>" ∧ (T k).1 = own)) (hl : Cond.fieldLink own index (T k).1 (T k).2.1 (T k).2.2.1 ∈ wT) (hdg : decode cc pc = .ok (.putfield index, 3))
    (kk : ∀ (H1 : Heap) (locs1 : List Loc), zW A cy D h' H1 → va_S A H0 H1 locs1 → W p l e R s m args below meth c H1 locs1 cells slots Q (F0 m (pc + 3) ls rest)) : W p l e R s m args below meth c H locs cells slots Q (F0 m pc ls (.int v :: .ref a :: rest)) := by
  obtain ⟨⟨hT, hv⟩, rfl⟩ := it_v hg
  refine z_put X hW hS hC hk hT (zwI_off a k v h) (zF_wI v hT hr) ?_ ?_ hfin hl hdg kk
  · rw [hty]; rcases hv with rfl | rfl <;> rfl
  · rw [hty]; rcases hv with rfl | rfl <;> rfl
theorem z_putP {ci k a N index : Nat} {C : String} {T : u_T} {ty : Nat → FieldType} {v : Option Nat} (X : zX A D cy p s m args c cc own nL) (hW : zW A cy D h H) (hS : va_S A H0 H locs) (hg : pP ci k a v h = some h') (hC : zC ci C T N ty) (hk : k < N) (hr : isR ci k = true) (hty : (∃ n, ty k = .object n) ∨ ∃ t, ty k = .array t) (hfin : (T k).2.2.2 = false ∨ ((T k).2.2.2 = true ∧ meth.name = "<init>" ∧ (T k).1 = own)) (hl : Cond.fieldLink own index (T k).1 (T k).2.1 (T k).2.2.1 ∈ wT) (hdg : decode cc pc = .ok (.putfield index, 3))
    (kk : ∀ (H1 : Heap) (locs1 : List Loc), zW A cy D h' H1 → va_S A H0 H1 locs1 → W p l e R s m args below meth c H1 locs1 cells slots Q (F0 m (pc + 3) ls rest)) : W p l e R s m args below meth c H locs cells slots Q (F0 m pc ls (va_rf v :: .ref a :: rest)) := by
  obtain ⟨hT, rfl⟩ := it_v hg
  refine z_put X hW hS hC hk hT (zwP_off a k v h) (zF_wP v hT hr) ?_ ?_ hfin hl hdg kk
  · rcases hty with ⟨n, e1⟩ | ⟨n, e1⟩ <;> rw [e1] <;> cases v <;> rfl
  · rcases hty with ⟨n, e1⟩ | ⟨n, e1⟩ <;> rw [e1] <;> cases v <;> rfl
/-! arrays -/
theorem z_arr {a : Nat} {x : va_E} {t : Nat} (hW : zW A cy D h H) (hT : zT h a = t) (ht : t < 20) (hE : zE cy h a = x) : A a ∧ a < zs h ∧ va_at D vwCl (a, x) H := by
  obtain ⟨g1, g2, g3⟩ := hW.2 a (by rw [hT]; exact ht)
  rw [hE] at g3
  exact ⟨g1, g2, g3⟩
theorem z_aldI {a : Nat} {i x : Int32} (X : zX A D cy p s m args c cc own nL) (hW : zW A cy D h H) (hg : xI 12 a i h = some x) (hdg : decode cc pc = .ok (.iaload, 1))
    (kk : W p l e R s m args below meth c H locs cells slots Q (F0 m (pc + 1) ls (.int x :: rest))) : W p l e R s m args below meth c H locs cells slots Q (F0 m pc ls (.int i :: .ref a :: rest)) := by
  obtain ⟨⟨hT, hin⟩, rfl⟩ := it_v hg
  obtain ⟨hx, hb, -, -, hK, -⟩ := X
  obtain ⟨-, -, g3⟩ := z_arr hW hT (by decide) (zE_int hT)
  exact va_iald hx hb hK (zP_one g3) 0 0 rfl rfl hin hdg kk
theorem z_aldZ {a : Nat} {i x : Int32} (X : zX A D cy p s m args c cc own nL) (hW : zW A cy D h H) (hg : xI 14 a i h = some x) (hdg : decode cc pc = .ok (.baload, 1))
    (kk : W p l e R s m args below meth c H locs cells slots Q (F0 m (pc + 1) ls (.int x :: rest))) : W p l e R s m args below meth c H locs cells slots Q (F0 m pc ls (.int i :: .ref a :: rest)) := by
  obtain ⟨⟨hT, hin⟩, rfl⟩ := it_v hg
  obtain ⟨hx, hb, -, -, hK, -⟩ := X
  obtain ⟨-, -, g3⟩ := z_arr hW hT (by decide) (zE_bool hT)
  exact va_zald hx hb hK (zP_one g3) 0 2 rfl rfl hin hdg kk
theorem z_aldL {a : Nat} {i : Int32} {x : Int64} (X : zX A D cy p s m args c cc own nL) (hW : zW A cy D h H) (hg : xL a i h = some x) (hdg : decode cc pc = .ok (.laload, 1))
    (kk : W p l e R s m args below meth c H locs cells slots Q (F0 m (pc + 1) ls (.long x :: rest))) : W p l e R s m args below meth c H locs cells slots Q (F0 m pc ls (.int i :: .ref a :: rest)) := by
  obtain ⟨⟨hT, hin⟩, rfl⟩ := it_v hg
  obtain ⟨hx, hb, -, -, hK, -⟩ := X
  obtain ⟨-, -, g3⟩ := z_arr hW hT (by decide) (zE_long hT)
  exact va_lald hx hb hK (zP_one g3) 0 1 rfl rfl hin hdg kk
/-- an array of references: which one, by the place in zty -/
theorem z_aldP {a t : Nat} {C : String} {i : Int32} {x : Option Nat} (X : zX A D cy p s m args c cc own nL) (hW : zW A cy D h H) (hg : xP t a i h = some x) (h1 : 15 ≤ t) (h2 : t < 20) (hty : (zty cy)[t - 12]? = some (cy (t - 12), .object C)) (hdg : decode cc pc = .ok (.aaload, 1))
    (kk : W p l e R s m args below meth c H locs cells slots Q (F0 m (pc + 1) ls (va_rf x :: rest))) : W p l e R s m args below meth c H locs cells slots Q (F0 m pc ls (.int i :: .ref a :: rest)) := by
  obtain ⟨⟨hT, hin⟩, rfl⟩ := it_v hg
  obtain ⟨hx, hb, -, -, hK, -⟩ := X
  obtain ⟨-, -, g3⟩ := z_arr hW hT h2 (zE_ref hT h1)
  exact va_aldq hx hb hK (zP_one g3) 0 (t - 12) rfl hty hin hdg kk
theorem zI_wI (a k : Nat) (v : Int32) (h : Hz) : zI (zwI a k v h) a = upd (zI h a) k v := by
  funext j
  show zu h.1 a k v a j = _
  rw [zu_at]
  rfl
theorem zL_wL (a k : Nat) (v : Int64) (h : Hz) : zL (zwL a k v h) a = vp_updL (zL h a) k v := by
  funext j
  show zu h.2.1 a k v a j = _
  rw [zu_at]
  rfl
theorem zP_wP (a k : Nat) (v : Option Nat) (h : Hz) : zP (zwP a k v h) a = va_up (zP h a) k v := by
  funext j
  show zu h.2.2.1 a k v a j = _
  rw [zu_at]
  rfl
/-- a store: from what the machine does at the cell to the heap behind it -/
theorem z_st {a j : Nat} {x : va_E} {H1 : Heap} (hW : zW A cy D h H) (hS : va_S A H0 H locs) (gA : A a) (ho : zOff a h h') (hz : H1.size = H.size) (oq : ∀ q : Nat, q ≠ a → H1[q]? = H[q]?) (hE : zE cy h' a = x) (hat : va_at D vwCl (a, x) H1) : zW A cy D h' H1 ∧ va_S A H0 H1 (locs ++ [⟨a, j⟩]) := by
  refine ⟨zW_upd hW ho hz oq ?_, hS.put hz oq gA⟩
  rw [hE]
  exact hat
theorem z_astI {a : Nat} {i v : Int32} (X : zX A D cy p s m args c cc own nL) (hW : zW A cy D h H) (hS : va_S A H0 H locs) (hg : yI a i v h = some h') (hdg : decode cc pc = .ok (.iastore, 1))
    (kk : ∀ (H1 : Heap) (locs1 : List Loc), zW A cy D h' H1 → va_S A H0 H1 locs1 → W p l e R s m args below meth c H1 locs1 cells slots Q (F0 m (pc + 1) ls rest)) : W p l e R s m args below meth c H locs cells slots Q (F0 m pc ls (.int v :: .int i :: .ref a :: rest)) := by
  obtain ⟨⟨hT, hin⟩, rfl⟩ := it_v hg
  obtain ⟨hx, hb, -, -, hK, -⟩ := X
  obtain ⟨gA, -, g3⟩ := z_arr hW hT (by decide) (zE_int hT)
  refine W.iast hx hb g3 ((hK.2 0 _ rfl).1 (zN h a) (fun j => .int (zI h a j))) (fun q => by cases q) (by show ¬ (i < 0 ∨ (arrV _ _ _).slots.size ≤ _); rw [arrV_size]; exact hin) rfl rfl hdg fun H1 e z oq => ?_
  obtain ⟨k1, k2⟩ := z_st (j := i.toNatClampNeg) (h' := zwI a i.toNatClampNeg v h) (H1 := H1) hW hS gA (zwI_off _ _ _ _) z oq (zE_int (cy := cy) (h := zwI a i.toNatClampNeg v h) hT) (by
    show H1[a]? = some (vp_cell _ _)
    rw [e, vp_cell_i, vp_cell_i, arrV_store, zI_wI]
    congr 2
    funext q
    by_cases hq : q = i.toNatClampNeg
    · subst hq
      simp [updV, upd]
    · simp [updV, upd, hq])
  exact kk H1 _ k1 k2
theorem z_astZ {a : Nat} {i v : Int32} (X : zX A D cy p s m args c cc own nL) (hW : zW A cy D h H) (hS : va_S A H0 H locs) (hg : yZ a i v h = some h') (hdg : decode cc pc = .ok (.bastore, 1))
    (kk : ∀ (H1 : Heap) (locs1 : List Loc), zW A cy D h' H1 → va_S A H0 H1 locs1 → W p l e R s m args below meth c H1 locs1 cells slots Q (F0 m (pc + 1) ls rest)) : W p l e R s m args below meth c H locs cells slots Q (F0 m pc ls (.int v :: .int i :: .ref a :: rest)) := by
  obtain ⟨⟨hT, hin⟩, rfl⟩ := it_v hg
  obtain ⟨hx, hb, -, -, hK, -⟩ := X
  obtain ⟨gA, -, g3⟩ := z_arr hW hT (by decide) (zE_bool hT)
  refine W.zast hx hb g3 ((hK.2 2 _ rfl).1 (zN h a) (fun j => .int (zI h a j))) (fun q => by cases q) (by show ¬ (i < 0 ∨ (arrV _ _ _).slots.size ≤ _); rw [arrV_size]; exact hin) rfl rfl hdg fun H1 e z oq => ?_
  obtain ⟨k1, k2⟩ := z_st (j := i.toNatClampNeg) (h' := zwI a i.toNatClampNeg (vp_nar .boolean v) h) (H1 := H1) hW hS gA (zwI_off _ _ _ _) z oq (zE_bool (cy := cy) (h := zwI a i.toNatClampNeg (vp_nar .boolean v) h) hT) (by
    show H1[a]? = some (vp_cell _ _)
    rw [e, vp_cell_i, vp_cell_i, arrV_store, zI_wI]
    congr 2
    funext q
    by_cases hq : q = i.toNatClampNeg
    · subst hq
      simp [updV, upd, vp_nar]
      try rfl
    · simp [updV, upd, hq])
  exact kk H1 _ k1 k2
theorem z_astL {a : Nat} {i : Int32} {v : Int64} (X : zX A D cy p s m args c cc own nL) (hW : zW A cy D h H) (hS : va_S A H0 H locs) (hg : yL a i v h = some h') (hdg : decode cc pc = .ok (.lastore, 1))
    (kk : ∀ (H1 : Heap) (locs1 : List Loc), zW A cy D h' H1 → va_S A H0 H1 locs1 → W p l e R s m args below meth c H1 locs1 cells slots Q (F0 m (pc + 1) ls rest)) : W p l e R s m args below meth c H locs cells slots Q (F0 m pc ls (.long v :: .int i :: .ref a :: rest)) := by
  obtain ⟨⟨hT, hin⟩, rfl⟩ := it_v hg
  obtain ⟨hx, hb, -, -, hK, -⟩ := X
  obtain ⟨gA, -, g3⟩ := z_arr hW hT (by decide) (zE_long hT)
  refine W.last hx hb g3 ((hK.2 1 _ rfl).1 (zN h a) (fun j => .long (zL h a j))) (fun q => by cases q) (by show ¬ (i < 0 ∨ (arrV _ _ _).slots.size ≤ _); rw [arrV_size]; exact hin) rfl rfl hdg fun H1 e z oq => ?_
  obtain ⟨k1, k2⟩ := z_st (j := i.toNatClampNeg) (h' := zwL a i.toNatClampNeg v h) (H1 := H1) hW hS gA (zwL_off _ _ _ _) z oq (zE_long (cy := cy) (h := zwL a i.toNatClampNeg v h) hT) (by
    show H1[a]? = some (vp_cell _ _)
    rw [e, vp_cell_l, vp_cell_l, arrV_store, zL_wL]
    congr 2
    funext q
    by_cases hq : q = i.toNatClampNeg
    · subst hq
      simp [updV, vp_updL]
    · simp [updV, vp_updL, hq])
  exact kk H1 _ k1 k2
theorem z_astP {a t ce N : Nat} {i : Int32} {v : Option Nat} {C : String} {T : u_T} {ty : Nat → FieldType} (X : zX A D cy p s m args c cc own nL) (hW : zW A cy D h H) (hS : va_S A H0 H locs) (hg : yP t ce a i v h = some h') (h1 : 15 ≤ t) (h2 : t < 20) (hC : zC ce C T N ty) (hty : (zty cy)[t - 12]? = some (cy (t - 12), .object C)) (hdg : decode cc pc = .ok (.aastore, 1))
    (kk : ∀ (H1 : Heap) (locs1 : List Loc), zW A cy D h' H1 → va_S A H0 H1 locs1 → W p l e R s m args below meth c H1 locs1 cells slots Q (F0 m (pc + 1) ls rest)) : W p l e R s m args below meth c H locs cells slots Q (F0 m pc ls (va_rf v :: .int i :: .ref a :: rest)) := by
  obtain ⟨⟨hT, hin, hv⟩, rfl⟩ := it_v hg
  obtain ⟨hx, hb, -, -, hK, -⟩ := X
  obtain ⟨gA, -, g3⟩ := z_arr hW hT h2 (zE_ref hT h1)
  have hlt : i.toNatClampNeg < zN h a := Nat.not_le.mp fun q => hin (Or.inr q)
  have h0 : ¬ i < 0 := fun q => hin (Or.inl q)
  have fin : ∀ H1 : Heap, H1[a]? = some ((vp_cell (cy (t - 12)) (zN h a, .inr (.inr (.inr (.inr (zP h a)))))).setSlot i.toNatClampNeg (va_rf v)) → H1.size = H.size → (∀ q : Nat, q ≠ a → H1[q]? = H[q]?) → W p l e R s m args below meth c H1 (locs ++ [⟨a, i.toNatClampNeg⟩]) cells slots Q (F0 m (pc + 1) ls rest) := by
    intro H1 e z oq
    obtain ⟨k1, k2⟩ := z_st (j := i.toNatClampNeg) (h' := zwP a i.toNatClampNeg v h) (H1 := H1) hW hS gA (zwP_off _ _ _ _) z oq (zE_ref (cy := cy) (h := zwP a i.toNatClampNeg v h) hT h1) (by
      show H1[a]? = some (vp_cell _ _)
      rw [e, vp_cell_q, vp_cell_q, arrV_store, zP_wP]
      congr 2
      funext q
      by_cases hq : q = i.toNatClampNeg
      · subst hq
        simp [updV, va_up]
      · simp [updV, va_up, hq])
    exact kk H1 _ k1 k2
  cases v with
  | none => exact va_WaastN (C := C) hx hb g3 ((hK.2 (t - 12) _ hty).1 (zN h a) (fun j => va_rf (zP h a j))) (fun h => by cases h) (by show ¬ (i < 0 ∨ (arrV _ _ _).slots.size ≤ _); rw [arrV_size]; exact hin) rfl rfl hdg fin
  | some b =>
    have hb2 : zT h b = ce := by simpa using hv
    obtain ⟨-, -, gb⟩ := z_obj hW hb2 hC
    obtain ⟨r', hr', cellV, k1, k2, k3, -⟩ := gb
    have hcls := (hK.1 ce _ hC.1).2
    obtain ⟨kA, comp, m1, m2, m3, -⟩ := (hK.2 (t - 12) _ hty).2
    have hcomp : comp = D.1 ce := Option.some.inj (m3.symm.trans hcls.1)
    subst hcomp
    obtain ⟨kC, hkC, -⟩ := hcls.2
    exact W.aast hx hb g3 (fun q h => by cases h) (fun h => by cases h) m1 m2 rfl hkC ⟨h0, by show _ < (arrV _ _ _).slots.size; rw [arrV_size]; exact hlt⟩ k1 (fun q h => by rw [k3] at h; cases h) (by rw [k2]; exact hkC) (by rw [k2]; exact va_assign hcls) rfl rfl hdg fin
theorem z_alenI {a : Nat} {x : Int32} (X : zX A D cy p s m args c cc own nL) (hW : zW A cy D h H) (hg : xN 12 a h = some x) (hdg : decode cc pc = .ok (.arraylength, 1))
    (kk : W p l e R s m args below meth c H locs cells slots Q (F0 m (pc + 1) ls (.int x :: rest))) : W p l e R s m args below meth c H locs cells slots Q (F0 m pc ls (.ref a :: rest)) := by
  obtain ⟨hT, rfl⟩ := it_v hg
  obtain ⟨hx, hb, -, -, hK, -⟩ := X
  obtain ⟨-, -, g3⟩ := z_arr hW hT (by decide) (zE_int hT)
  exact va_alen hx hb hK (zP_one g3) 0 0 rfl rfl rfl hdg kk
theorem z_alenZ {a : Nat} {x : Int32} (X : zX A D cy p s m args c cc own nL) (hW : zW A cy D h H) (hg : xN 14 a h = some x) (hdg : decode cc pc = .ok (.arraylength, 1))
    (kk : W p l e R s m args below meth c H locs cells slots Q (F0 m (pc + 1) ls (.int x :: rest))) : W p l e R s m args below meth c H locs cells slots Q (F0 m pc ls (.ref a :: rest)) := by
  obtain ⟨hT, rfl⟩ := it_v hg
  obtain ⟨hx, hb, -, -, hK, -⟩ := X
  obtain ⟨-, -, g3⟩ := z_arr hW hT (by decide) (zE_bool hT)
  exact va_alen hx hb hK (zP_one g3) 0 2 rfl rfl rfl hdg kk
theorem z_alenL {a : Nat} {x : Int32} (X : zX A D cy p s m args c cc own nL) (hW : zW A cy D h H) (hg : xN 13 a h = some x) (hdg : decode cc pc = .ok (.arraylength, 1))
    (kk : W p l e R s m args below meth c H locs cells slots Q (F0 m (pc + 1) ls (.int x :: rest))) : W p l e R s m args below meth c H locs cells slots Q (F0 m pc ls (.ref a :: rest)) := by
  obtain ⟨hT, rfl⟩ := it_v hg
  obtain ⟨hx, hb, -, -, hK, -⟩ := X
  obtain ⟨-, -, g3⟩ := z_arr hW hT (by decide) (zE_long hT)
  exact va_alen hx hb hK (zP_one g3) 0 1 rfl rfl rfl hdg kk
theorem z_alenP {a t : Nat} {C : String} {x : Int32} (X : zX A D cy p s m args c cc own nL) (hW : zW A cy D h H) (hg : xN t a h = some x) (h1 : 15 ≤ t) (h2 : t < 20) (hty : (zty cy)[t - 12]? = some (cy (t - 12), .object C)) (hdg : decode cc pc = .ok (.arraylength, 1))
    (kk : W p l e R s m args below meth c H locs cells slots Q (F0 m (pc + 1) ls (.int x :: rest))) : W p l e R s m args below meth c H locs cells slots Q (F0 m pc ls (.ref a :: rest)) := by
  obtain ⟨hT, rfl⟩ := it_v hg
  obtain ⟨hx, hb, -, -, hK, -⟩ := X
  obtain ⟨-, -, g3⟩ := z_arr hW hT h2 (zE_ref hT h1)
  exact va_alen hx hb hK (zP_one g3) 0 (t - 12) rfl hty rfl hdg kk
end ZR2
