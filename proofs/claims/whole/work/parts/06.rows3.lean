section ZR3
variable {p : Program} {l : Launch} {e : Env} {R : Room} {s : State} {m : MethodId} {args : Array Value} {below : List Frame} {meth : Method} {c : Code} {H H0 : Heap} {locs : List Loc} {cells slots : Nat} {Q : State → Prop}
variable {cc : ByteArray} {pc nL : Nat} {ls : Array Slot} {rest : List Value} {A : Nat → Prop} {D : va_G} {cy : Nat → ClassId} {h h' : Hz} {own : String}
theorem zF_new {t n : Nat} {h : Hz} {ty : Nat → FieldType} (hty : ∀ k, k < nF t → defaultValue (ty k) = if isR t k = true then .null else .int 0) (j : Nat) (hj : j < nF t) : defaultValue (ty j) = vp_V (zF (znew t n h) (zs h)) j := by
  have hT : zT (znew t n h) (zs h) = t := va_up_self _ _ _
  have e1 : zI (znew t n h) (zs h) = fun _ => 0 := va_up_self _ _ _
  have e3 : zP (znew t n h) (zs h) = fun _ => none := va_up_self _ _ _
  rw [hty j hj]
  simp only [vp_V, List.getD_eq_getElem?_getD, zF_get hT hj, fv, e1, e3, Option.getD_some]
  rfl
theorem z_new {ci a N index : Nat} {C : String} {T : u_T} {ty : Nat → FieldType} (X : zX A D cy p s m args c cc own nL) (hW : zW A cy D h H) (hS : va_S A s.heap H locs) (hg : nO ci h = some (a, h')) (hC : zC ci C T N ty) (hd : ∀ k, k < nF ci → defaultValue (ty k) = if isR ci k = true then .null else .int 0) (h1 : Cond.classLink own index C ∈ wT) (h2 : Cond.instantiable C N ∈ wT) (h3 : Cond.initialized C ∈ wT) (hdg : decode cc pc = .ok (.new index, 3)) (hcells : cells + 1 ≤ R.cells) (hslots : slots + N ≤ R.slots)
    (kk : ∀ (H1 : Heap), zW A cy D h' H1 → va_S A s.heap H1 locs → W p l e R s m args below meth c H1 locs (cells + 1) (slots + N) Q (F0 m (pc + 3) ls (.ref a :: rest))) : W p l e R s m args below meth c H locs cells slots Q (F0 m pc ls rest) := by
  cases hg
  obtain ⟨hx, hb, hts, hown, hK, -, -, hA⟩ := X
  obtain ⟨hc, hin, hci, hnF, hty, hnm⟩ := hC
  have hKn := hK.1 ci _ hc
  have hA1 : A H.size := hA _ hS.1
  refine W.newcK hx hb hown (hts _ h1) (hts _ h2) (hts _ h3) rfl hdg hcells hslots hKn.2.1 hW.1 fun H1 kC hkC e1 z1 o1 => ?_
  have hq : ∀ q : Nat, q < H.size → H1[q]? = H[q]? := fun q hq => o1 q (by rw [← hW.1]; exact hq)
  refine kk H1 (zW_new hW hA1 (by rw [z1, hW.1]) hq ?_) ⟨Nat.le_trans hS.1 (by rw [z1, hW.1]; omega), fun x g1 g2 => (hq x (Nat.lt_of_lt_of_le g1 hS.1)).trans (hS.2.1 x g1 g2), hS.2.2⟩
  have hT : zT (znew ci 0 h) (zs h) = ci := va_up_self _ _ _
  rw [zE_obj hT hci]
  exact ⟨_, hc, (u_born ty hts hin hKn hkC e1 hty).to (fun j hj => zF_new hd j (by rw [hnF]; exact hj))⟩
theorem z_newP {t a B index : Nat} {C : String} {n : Int32} (X : zX A D cy p s m args c cc own nL) (hW : zW A cy D h H) (hS : va_S A s.heap H locs) (hg : nA t B n h = some (a, h')) (g1 : 15 ≤ t) (g2 : t < 20) (hty : (zty cy)[t - 12]? = some (cy (t - 12), .object C)) (h1 : Cond.classLink own index C ∈ wT) (h2 : va_AO C s) (hB : B * 4 ≤ 536870912) (hdg : decode cc pc = .ok (.anewarray index, 3)) (hcells : cells + 1 ≤ R.cells) (hslots : slots + B ≤ R.slots)
    (kk : ∀ (H1 : Heap), zW A cy D h' H1 → va_S A s.heap H1 locs → W p l e R s m args below meth c H1 locs (cells + 1) (slots + B) Q (F0 m (pc + 3) ls (.ref a :: rest))) : W p l e R s m args below meth c H locs cells slots Q (F0 m pc ls (.int n :: rest)) := by
  obtain ⟨⟨hn, hle⟩, hg⟩ := it_v hg
  cases hg
  obtain ⟨hx, hb, hts, hown, hK, -, -, hA⟩ := X
  have hA1 : A H.size := hA _ hS.1
  refine W.anew hx hb hown (hts _ h1) (va_AO.use h2) rfl hdg rfl hn (by omega) hcells (by omega) fun cA kA comp f1 f2 f3 f4 => ?_
  obtain ⟨kA', comp', m1, m2, m3, m4⟩ := (hK.2 (t - 12) _ hty).2
  have hcA : cA = cy (t - 12) := Option.some.inj (f1.symm.trans m4)
  subst hcA
  generalize hH1 : H.push ({ cls := cy (t - 12), slots := Array.replicate n.toNatClampNeg .null, vm := .none } : Cell) = H1
  have z1 : H1.size = H.size + 1 := by rw [← hH1, Array.size_push]
  have e1 : H1[H.size]? = some (arrV (cy (t - 12)) n.toNatClampNeg (fun _ => .null)) := by rw [← hH1, Array.getElem?_push_size, ← arrV_new]
  have hq : ∀ q : Nat, q < H.size → H1[q]? = H[q]? := fun q hq => by rw [← hH1, Array.getElem?_push, if_neg (Nat.ne_of_lt hq)]
  rw [hW.1]
  refine W.widen (Nat.le_refl _) (Nat.add_le_add_left hle slots) (kk H1 (zW_new hW hA1 z1 hq ?_) ⟨Nat.le_trans hS.1 (by rw [z1]; omega), fun x g1 g2 => (hq x (Nat.lt_of_lt_of_le g1 hS.1)).trans (hS.2.1 x g1 g2), hS.2.2⟩)
  have hT : zT (znew t n.toNatClampNeg h) (zs h) = t := va_up_self _ _ _
  have e3 : zP (znew t n.toNatClampNeg h) (zs h) = fun _ => none := va_up_self _ _ _
  have e4 : zN (znew t n.toNatClampNeg h) (zs h) = n.toNatClampNeg := va_up_self _ _ _
  rw [zE_ref hT g1, e3, e4]
  show H1[zs h]? = some (vp_cell _ _)
  rw [vp_cell_q, ← hW.1]
  exact e1
/-- an array of numbers: ints, longs, booleans -/
theorem z_newN {t a B : Nat} {n : Int32} {atype : ArrayType} {ty : FieldType} (X : zX A D cy p s m args c cc own nL) (hW : zW A cy D h H) (hS : va_S A s.heap H locs) (hg : nA t B n h = some (a, h')) (ht : t = 12 ∧ atype = .int ∨ t = 13 ∧ atype = .long ∨ t = 14 ∧ atype = .boolean) (h1 : Cond.arrayClass (newarray.typeOf atype) ∈ wT) (hB : B * 8 ≤ 536870912) (hdg : decode cc pc = .ok (.newarray atype, 2)) (hcells : cells + 1 ≤ R.cells) (hslots : slots + B ≤ R.slots)
    (kk : ∀ (H1 : Heap), zW A cy D h' H1 → va_S A s.heap H1 locs → W p l e R s m args below meth c H1 locs (cells + 1) (slots + B) Q (F0 m (pc + 2) ls (.ref a :: rest))) : W p l e R s m args below meth c H locs cells slots Q (F0 m pc ls (.int n :: rest)) := by
  obtain ⟨⟨hn, hle⟩, hg⟩ := it_v hg
  cases hg
  obtain ⟨hx, hb, hts, hown, hK, -, -, hA⟩ := X
  have hA1 : A H.size := hA _ hS.1
  have hbyt : n.toNatClampNeg * componentBytes (newarray.typeOf atype) ≤ 536870912 := by
    rcases ht with ⟨-, rfl⟩ | ⟨-, rfl⟩ | ⟨-, rfl⟩ <;> simp [newarray.typeOf, componentBytes] <;> omega
  refine va_newaK hx hb (hts _ h1) rfl hdg rfl hn rfl hbyt hcells (by omega) hW.1 fun H1 cA e1 z1 o1 hAr hNm => ?_
  have hq : ∀ q : Nat, q < H.size → H1[q]? = H[q]? := fun q hq => o1 q (by rw [← hW.1]; exact hq)
  refine W.widen (Nat.le_refl _) (Nat.add_le_add_left hle slots) (kk H1 (zW_new hW hA1 (by rw [z1, hW.1]) hq ?_) ⟨Nat.le_trans hS.1 (by rw [z1, hW.1]; omega), fun x g1 g2 => (hq x (Nat.lt_of_lt_of_le g1 hS.1)).trans (hS.2.1 x g1 g2), hS.2.2⟩)
  have hT : zT (znew t n.toNatClampNeg h) (zs h) = t := va_up_self _ _ _
  have eI : zI (znew t n.toNatClampNeg h) (zs h) = fun _ => 0 := va_up_self _ _ _
  have eL : zL (znew t n.toNatClampNeg h) (zs h) = fun _ => 0 := va_up_self _ _ _
  have e4 : zN (znew t n.toNatClampNeg h) (zs h) = n.toNatClampNeg := va_up_self _ _ _
  rcases ht with ⟨rfl, rfl⟩ | ⟨rfl, rfl⟩ | ⟨rfl, rfl⟩
  · have hcA : cA = cy 0 := Option.some.inj (hNm.symm.trans (hK.2 0 _ rfl).2)
    subst hcA
    rw [zE_int hT, eI, e4]
    exact e1
  · have hcA : cA = cy 1 := Option.some.inj (hNm.symm.trans (hK.2 1 _ rfl).2)
    subst hcA
    rw [zE_long hT, eL, e4]
    exact e1
  · have hcA : cA = cy 2 := Option.some.inj (hNm.symm.trans (hK.2 2 _ rfl).2)
    subst hcA
    rw [zE_bool hT, eI, e4]
    exact e1
/-! references in locals and on the stack -/
theorem z_aload_n {k : Fin 4} {i : Nat} {x : Option Nat} (hx : p.tables.exec = Jvm.exec) (hb : c.code = cc) (hdg : decode cc pc = .ok (.aload_n k, 1)) (hi : (k : Nat) = i) (hl : ls[i]? = some (.val (va_rf x)))
    (kk : W p l e R s m args below meth c H locs cells slots Q (F0 m (pc + 1) ls (va_rf x :: rest))) : W p l e R s m args below meth c H locs cells slots Q (F0 m pc ls rest) := by
  cases x with
  | none => exact lv_aload_nN hx hb hdg hi hl kk
  | some a => exact lv_aload_n hx hb hdg hi hl kk
theorem z_aload {i : Nat} {x : Option Nat} (hx : p.tables.exec = Jvm.exec) (hb : c.code = cc) (hdg : decode cc pc = .ok (.aload i, 2)) (hl : ls[i]? = some (.val (va_rf x)))
    (kk : W p l e R s m args below meth c H locs cells slots Q (F0 m (pc + 2) ls (va_rf x :: rest))) : W p l e R s m args below meth c H locs cells slots Q (F0 m pc ls rest) := by
  cases x with
  | none => exact lv_aloadN hx hb hdg hl kk
  | some a => exact lv_aload hx hb hdg hl kk
theorem va_rf_cat (x : Option Nat) : (va_rf x).category = 1 := by cases x <;> rfl
theorem z_astore_n {k : Fin 4} {i nL : Nat} {x : Option Nat} {lv lv' : List (Nat × Value)} (hx : p.tables.exec = Jvm.exec) (hb : c.code = cc) (hdg : decode cc pc = .ok (.astore_n k, 1)) (hi : (k : Nat) = i) (h : lv_has ls nL lv) (hn : i < nL) (hl : (i, va_rf x) :: lv.filter (fun q => !(q.1 == i) && !(q.1 + 1 == i && q.2.category == 2)) = lv')
    (kk : ∀ ls' : Array Slot, lv_has ls' nL lv' → W p l e R s m args below meth c H locs cells slots Q (F0 m (pc + 1) ls' rest)) : W p l e R s m args below meth c H locs cells slots Q (F0 m pc ls (va_rf x :: rest)) := by
  cases x with
  | none => exact lv_astore_nN hx hb hdg hi h hn hl kk
  | some a => exact lv_astore_n hx hb hdg hi h hn hl kk
theorem z_astore {i nL : Nat} {x : Option Nat} {lv lv' : List (Nat × Value)} (hx : p.tables.exec = Jvm.exec) (hb : c.code = cc) (hdg : decode cc pc = .ok (.astore i, 2)) (h : lv_has ls nL lv) (hn : i < nL) (hl : (i, va_rf x) :: lv.filter (fun q => !(q.1 == i) && !(q.1 + 1 == i && q.2.category == 2)) = lv')
    (kk : ∀ ls' : Array Slot, lv_has ls' nL lv' → W p l e R s m args below meth c H locs cells slots Q (F0 m (pc + 2) ls' rest)) : W p l e R s m args below meth c H locs cells slots Q (F0 m pc ls (va_rf x :: rest)) := by
  cases x with
  | none => exact lv_astoreN hx hb hdg h hn hl kk
  | some a => exact lv_astore hx hb hdg h hn hl kk
/-- a boolean answer -/
def rz (v : Int32) (h : Hz) : Option (Int32 × Hz) := if v = 0 ∨ v = 1 then some (v, h) else none
/-- the end of a method -/
theorem z_eti {v r : Int32} {h0 : Hz} {mc ms : Nat} (X : zX A D cy p s m args c cc own nL) (hlk : meth.locks = false) (hr : meth.sig.returnType = some .int) (hW : zW A cy D h H) (hS : va_S A s.heap H locs) (hh : some (v, h) = some (r, h0)) (hc : cells ≤ mc) (hs : slots ≤ ms) (hdg : decode cc pc = .ok (.ireturn, 1)) :
    W p l e R s m args below meth c H locs cells slots (MQ below (va_Qi (fun r1 u => r1 = r ∧ u = h0) (zB A D cy) A) args s mc ms A) (F0 m pc ls [.int v]) := by
  cases hh
  obtain ⟨hx, hb, -⟩ := X
  refine W.widen hc hs ?_
  exact W.iret hx hb hr (fun t ht hW1 => ⟨⟨v, h, rfl, ⟨rfl, rfl⟩, by show zW A cy D h t.heap; rw [ht]; exact hW⟩, hS.F ht⟩) hS.2.2 hdg
theorem z_etz {v r : Int32} {h0 : Hz} {mc ms : Nat} (X : zX A D cy p s m args c cc own nL) (hlk : meth.locks = false) (hr : meth.sig.returnType = some .boolean) (hW : zW A cy D h H) (hS : va_S A s.heap H locs) (hh : rz v h = some (r, h0)) (hc : cells ≤ mc) (hs : slots ≤ ms) (hdg : decode cc pc = .ok (.ireturn, 1)) :
    W p l e R s m args below meth c H locs cells slots (MQ below (va_Qi (fun r1 u => r1 = r ∧ u = h0) (zB A D cy) A) args s mc ms A) (F0 m pc ls [.int v]) := by
  obtain ⟨hv, hh⟩ := it_v hh
  cases hh
  obtain ⟨hx, hb, -⟩ := X
  refine W.widen hc hs ?_
  exact W.zret hx hb hr (by rcases hv with rfl | rfl <;> rfl) (fun t ht hW1 => ⟨⟨v, h, rfl, ⟨rfl, rfl⟩, by show zW A cy D h t.heap; rw [ht]; exact hW⟩, hS.F ht⟩) hS.2.2 hdg
theorem z_etl {v r : Int64} {h0 : Hz} {mc ms : Nat} (X : zX A D cy p s m args c cc own nL) (hlk : meth.locks = false) (hr : meth.sig.returnType = some .long) (hW : zW A cy D h H) (hS : va_S A s.heap H locs) (hh : some (v, h) = some (r, h0)) (hc : cells ≤ mc) (hs : slots ≤ ms) (hdg : decode cc pc = .ok (.lreturn, 1)) :
    W p l e R s m args below meth c H locs cells slots (MQ below (va_Ql (fun r1 u => r1 = r ∧ u = h0) (zB A D cy) A) args s mc ms A) (F0 m pc ls [.long v]) := by
  cases hh
  obtain ⟨hx, hb, -⟩ := X
  refine W.widen hc hs ?_
  exact W.lret hx hb hr (fun t ht hW1 => ⟨⟨v, h, rfl, ⟨rfl, rfl⟩, by show zW A cy D h t.heap; rw [ht]; exact hW⟩, hS.F ht⟩) hS.2.2 hdg
theorem z_eta {v r : Option Nat} {h0 : Hz} {mc ms : Nat} {C : String} (X : zX A D cy p s m args c cc own nL) (hlk : meth.locks = false) (hr : meth.sig.returnType = some (.object C)) (hW : zW A cy D h H) (hS : va_S A s.heap H locs) (hh : some (v, h) = some (r, h0)) (hc : cells ≤ mc) (hs : slots ≤ ms) (hdg : decode cc pc = .ok (.areturn, 1)) :
    W p l e R s m args below meth c H locs cells slots (MQ below (va_Qq (fun r1 u => r1 = r ∧ u = h0) (zB A D cy) A) args s mc ms A) (F0 m pc ls [va_rf v]) := by
  cases hh
  obtain ⟨hx, hb, -⟩ := X
  refine W.widen hc hs ?_
  exact W.aret hx hb hr (Or.inl ⟨C, rfl⟩) (va_rf_or v) (fun t ht hW1 => ⟨⟨v, h, rfl, ⟨rfl, rfl⟩, by show zW A cy D h t.heap; rw [ht]; exact hW⟩, hS.F ht⟩) hS.2.2 hdg
theorem z_etv {r : Unit} {h0 : Hz} {mc ms : Nat} (X : zX A D cy p s m args c cc own nL) (hlk : meth.locks = false) (hr : meth.sig.returnType = none) (hW : zW A cy D h H) (hS : va_S A s.heap H locs) (hh : some ((), h) = some (r, h0)) (hc : cells ≤ mc) (hs : slots ≤ ms) (hdg : decode cc pc = .ok (.return_, 1)) :
    W p l e R s m args below meth c H locs cells slots (MQ below (va_Qv (fun u => u = h0) (zB A D cy) A) args s mc ms A) (F0 m pc ls []) := by
  cases hh
  obtain ⟨hx, hb, -⟩ := X
  refine W.widen hc hs ?_
  exact W.vret hx hb hr (fun t ht hW1 => ⟨⟨h, rfl, rfl, by show zW A cy D h t.heap; rw [ht]; exact hW⟩, hS.F ht⟩) hS.2.2 hdg
end ZR3
