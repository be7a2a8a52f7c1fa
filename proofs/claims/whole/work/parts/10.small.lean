section Z10_small
variable {p : Program} {l : Launch} {e : Env} {s : State} {m : MethodId} {args : Array Value} {below : List Frame} {meth : Method} {c : Code} {A : Nat → Prop} {D : va_G} {cy : Nat → ClassId}
theorem dX0_init_0 : decode cX0_init 0 = .ok (.aload_n 0, 1) := by decide +kernel
theorem dX0_init_1 : decode cX0_init 1 = .ok (.invokespecial 3, 3) := by decide +kernel
theorem dX0_init_4 : decode cX0_init 4 = .ok (.aload_n 0, 1) := by decide +kernel
theorem dX0_init_5 : decode cX0_init 5 = .ok (.iconst 0, 1) := by decide +kernel
theorem dX0_init_6 : decode cX0_init 6 = .ok (.putfield 9, 3) := by decide +kernel
theorem dX0_init_9 : decode cX0_init 9 = .ok (.aload_n 0, 1) := by decide +kernel
theorem dX0_init_10 : decode cX0_init 10 = .ok (.aconst_null, 1) := by decide +kernel
theorem dX0_init_11 : decode cX0_init 11 = .ok (.putfield 15, 3) := by decide +kernel
theorem dX0_init_14 : decode cX0_init 14 = .ok (.aload_n 0, 1) := by decide +kernel
theorem dX0_init_15 : decode cX0_init 15 = .ok (.iconst (-1), 1) := by decide +kernel
theorem dX0_init_16 : decode cX0_init 16 = .ok (.putfield 19, 3) := by decide +kernel
theorem dX0_init_19 : decode cX0_init 19 = .ok (.aload_n 0, 1) := by decide +kernel
theorem dX0_init_20 : decode cX0_init 20 = .ok (.aconst_null, 1) := by decide +kernel
theorem dX0_init_21 : decode cX0_init 21 = .ok (.putfield 22, 3) := by decide +kernel
theorem dX0_init_24 : decode cX0_init 24 = .ok (.aload_n 0, 1) := by decide +kernel
theorem dX0_init_25 : decode cX0_init 25 = .ok (.iconst 0, 1) := by decide +kernel
theorem dX0_init_26 : decode cX0_init 26 = .ok (.putfield 26, 3) := by decide +kernel
theorem dX0_init_29 : decode cX0_init 29 = .ok (.aload_n 0, 1) := by decide +kernel
theorem dX0_init_30 : decode cX0_init 30 = .ok (.iconst 1, 1) := by decide +kernel
theorem dX0_init_31 : decode cX0_init 31 = .ok (.putfield 29, 3) := by decide +kernel
theorem dX0_init_34 : decode cX0_init 34 = .ok (.aload_n 0, 1) := by decide +kernel
theorem dX0_init_35 : decode cX0_init 35 = .ok (.iload_n 1, 1) := by decide +kernel
theorem dX0_init_36 : decode cX0_init 36 = .ok (.putfield 33, 3) := by decide +kernel
theorem dX0_init_39 : decode cX0_init 39 = .ok (.aload_n 0, 1) := by decide +kernel
theorem dX0_init_40 : decode cX0_init 40 = .ok (.iload_n 2, 1) := by decide +kernel
theorem dX0_init_41 : decode cX0_init 41 = .ok (.putfield 36, 3) := by decide +kernel
theorem dX0_init_44 : decode cX0_init 44 = .ok (.aload_n 0, 1) := by decide +kernel
theorem dX0_init_45 : decode cX0_init 45 = .ok (.iload_n 3, 1) := by decide +kernel
theorem dX0_init_46 : decode cX0_init 46 = .ok (.putfield 39, 3) := by decide +kernel
theorem dX0_init_49 : decode cX0_init 49 = .ok (.aload_n 0, 1) := by decide +kernel
theorem dX0_init_50 : decode cX0_init 50 = .ok (.aload 4, 2) := by decide +kernel
theorem dX0_init_52 : decode cX0_init 52 = .ok (.putfield 42, 3) := by decide +kernel
theorem dX0_init_55 : decode cX0_init 55 = .ok (.return_, 1) := by decide +kernel
def fX0_init (o : Nat) (v1 : Int32) (v2 : Int32) (v3 : Int32) (v4 : Option Nat) (h : Hz) : Option (Unit × Hz) := (b1 (pI 0 4 o 0 h) fun s1 => (b1 (pP 0 5 o none s1) fun s2 => (b1 (pI 0 6 o (-1) s2) fun s3 => (b1 (pP 0 7 o none s3) fun s4 => (b1 (pI 0 8 o 0 s4) fun s5 => (b1 (pZ 0 9 o 1 s5) fun s6 => (b1 (pI 0 0 o v1 s6) fun s7 => (b1 (pI 0 1 o v2 s7) fun s8 => (b1 (pI 0 2 o v3 s8) fun s9 => (b1 (pP 0 3 o v4 s9) fun s10 => some ((), s10)))))))))))
set_option maxHeartbeats 4000000 in
set_option maxRecDepth 100000 in
theorem wX0_init_0 {r0 : Unit} {h0 : Hz} (X : zX A D cy p s m args c cX0_init RX0 5) (hlk : meth.locks = false) (hr : meth.sig.returnType = none) (hin : meth.name = "<init>") (o : Nat) (v1 : Int32) (v2 : Int32) (v3 : Int32) (v4 : Option Nat) (h : Hz) (H : Heap) (locs : List Loc) (ls : Array Slot) (hl : lv_has ls 5 [(0, .ref o), (1, .int v1), (2, .int v2), (3, .int v3), (4, va_rf v4)]) (hW : zW A cy D h H) (hS : va_S A s.heap H locs) (h : fX0_init o v1 v2 v3 v4 h = some (r0, h0)) : W p l e ({ frames := 1, cells := 0, slots := 0, locals := 12 } : Room) s m args below meth c H locs 0 0 (MQ below (va_Qv (fun u => u = h0) (zB A D cy) A) args s 0 0 A) (F0 m 0 ls []) := by
  obtain ⟨hx, hb, hts, hown, hK9, hml, hN9, hA9⟩ := id X
  unfold fX0_init at h
  refine lv_aload_n hx hb dX0_init_0 rfl (lv_at hl 0 rfl) ?_
  refine W.objInit hx hb hown (hts _ kl_X0_3) (hts _ km_objectInit) (hts _ kco) rfl (by rw [hml]; exact hl.1) rfl dX0_init_1 (Nat.le_of_ble_eq_true rfl) (Nat.le_of_ble_eq_true rfl) ?_
  refine W.eq (g2 := F0 m 4 ls []) rfl ?_
  refine lv_aload_n hx hb dX0_init_4 rfl (lv_at hl 0 rfl) ?_
  refine lv_iconst (v := 0) hx hb dX0_init_5 (by decide) ?_
  replace h := b1_some h
  obtain ⟨s1, gs1, h⟩ := h
  refine z_putI X hW hS gs1 kX0 (by decide) (by decide) rfl (Or.inl rfl) kf_X0_9 dX0_init_6 (fun H locs hW hS => ?_)
  refine lv_aload_n hx hb dX0_init_9 rfl (lv_at hl 0 rfl) ?_
  refine lv_null hx hb dX0_init_10 ?_
  replace h := b1_some h
  obtain ⟨s2, gs2, h⟩ := h
  refine z_putP X hW hS gs2 kX0 (by decide) (by decide) (Or.inl ⟨_, rfl⟩) (Or.inl rfl) kf_X0_15 dX0_init_11 (fun H locs hW hS => ?_)
  refine lv_aload_n hx hb dX0_init_14 rfl (lv_at hl 0 rfl) ?_
  refine lv_iconst (v := (-1)) hx hb dX0_init_15 (by decide) ?_
  replace h := b1_some h
  obtain ⟨s3, gs3, h⟩ := h
  refine z_putI X hW hS gs3 kX0 (by decide) (by decide) rfl (Or.inl rfl) kf_X0_19 dX0_init_16 (fun H locs hW hS => ?_)
  refine lv_aload_n hx hb dX0_init_19 rfl (lv_at hl 0 rfl) ?_
  refine lv_null hx hb dX0_init_20 ?_
  replace h := b1_some h
  obtain ⟨s4, gs4, h⟩ := h
  refine z_putP X hW hS gs4 kX0 (by decide) (by decide) (Or.inl ⟨_, rfl⟩) (Or.inl rfl) kf_X0_22 dX0_init_21 (fun H locs hW hS => ?_)
  refine lv_aload_n hx hb dX0_init_24 rfl (lv_at hl 0 rfl) ?_
  refine lv_iconst (v := 0) hx hb dX0_init_25 (by decide) ?_
  replace h := b1_some h
  obtain ⟨s5, gs5, h⟩ := h
  refine z_putI X hW hS gs5 kX0 (by decide) (by decide) rfl (Or.inl rfl) kf_X0_26 dX0_init_26 (fun H locs hW hS => ?_)
  refine lv_aload_n hx hb dX0_init_29 rfl (lv_at hl 0 rfl) ?_
  refine lv_iconst (v := 1) hx hb dX0_init_30 (by decide) ?_
  replace h := b1_some h
  obtain ⟨s6, gs6, h⟩ := h
  refine z_putZ X hW hS gs6 kX0 (by decide) (by decide) rfl (Or.inl rfl) kf_X0_29 dX0_init_31 (fun H locs hW hS => ?_)
  refine lv_aload_n hx hb dX0_init_34 rfl (lv_at hl 0 rfl) ?_
  refine lv_iload_n hx hb dX0_init_35 rfl (lv_at hl 1 rfl) ?_
  replace h := b1_some h
  obtain ⟨s7, gs7, h⟩ := h
  refine z_putI X hW hS gs7 kX0 (by decide) (by decide) rfl (Or.inr ⟨rfl, hin, rfl⟩) kf_X0_33 dX0_init_36 (fun H locs hW hS => ?_)
  refine lv_aload_n hx hb dX0_init_39 rfl (lv_at hl 0 rfl) ?_
  refine lv_iload_n hx hb dX0_init_40 rfl (lv_at hl 2 rfl) ?_
  replace h := b1_some h
  obtain ⟨s8, gs8, h⟩ := h
  refine z_putI X hW hS gs8 kX0 (by decide) (by decide) rfl (Or.inr ⟨rfl, hin, rfl⟩) kf_X0_36 dX0_init_41 (fun H locs hW hS => ?_)
  refine lv_aload_n hx hb dX0_init_44 rfl (lv_at hl 0 rfl) ?_
  refine lv_iload_n hx hb dX0_init_45 rfl (lv_at hl 3 rfl) ?_
  replace h := b1_some h
  obtain ⟨s9, gs9, h⟩ := h
  refine z_putI X hW hS gs9 kX0 (by decide) (by decide) rfl (Or.inr ⟨rfl, hin, rfl⟩) kf_X0_39 dX0_init_46 (fun H locs hW hS => ?_)
  refine lv_aload_n hx hb dX0_init_49 rfl (lv_at hl 0 rfl) ?_
  refine z_aload hx hb dX0_init_50 (lv_at hl 4 rfl) ?_
  replace h := b1_some h
  obtain ⟨s10, gs10, h⟩ := h
  refine z_putP X hW hS gs10 kX0 (by decide) (by decide) (Or.inl ⟨_, rfl⟩) (Or.inr ⟨rfl, hin, rfl⟩) kf_X0_42 dX0_init_52 (fun H locs hW hS => ?_)
  exact z_etv X hlk hr hW hS h (by decide) (by decide) dX0_init_55

set_option maxHeartbeats 4000000 in
set_option maxRecDepth 100000 in
theorem cX0_init_met {l : Launch} {A : Nat → Prop} {D : va_G} {cy : Nat → ClassId} {r0 : Unit} {h0 : Hz} {o : Nat} {v1 : Int32} {v2 : Int32} {v3 : Int32} {v4 : Option Nat} {h : Hz} (g : fX0_init o v1 v2 v3 v4 h = some (r0, h0)) : Met l yX0_init (Cond.code yX0_init cX0_init 5 none :: wT) ({ frames := 1, cells := 0, slots := 0, locals := 12 } : Room) (va_Pc [.ref o, .int v1, .int v2, .int v3, va_rf v4] (zS A D cy h)) (va_Qv (fun u => u = h0) (zB A D cy) A) 0 0 A := by
  refine Met.ofW (cc := cX0_init) (maxL := 5) (ret := none) (by decide) rfl ?_
  intro p e s m args below meth c s₁ B hml hv
  obtain ⟨rfl, hW, hK, hN, hA⟩ := hv
  have X : zX A D cy p s m _ c cX0_init RX0 5 := ⟨B.exec, B.bytes, fun w hw => atoms_spec (ws := Cond.code yX0_init cX0_init 5 none :: wT) B.pre w (List.mem_cons_of_mem _ hw), findClass_of_methodNamed B.named, hK, hml, hN, hA⟩
  have hin : meth.name = "<init>" := (name_of_methodNamed B.named B.method).1
  cases v4 with
  | none =>
    have hl := lv_entry [.ref o, .int v1, .int v2, .int v3, va_rf none] (n := 5) (Nat.le_of_ble_eq_true rfl)
    rw [lg_entry_eq]
    generalize (lg_sl [.ref o, .int v1, .int v2, .int v3, va_rf none] ++ List.replicate (5 - (lg_sl [.ref o, .int v1, .int v2, .int v3, va_rf none]).length) Slot.unset).toArray = ls at hl ⊢
    have hl : lv_has ls 5 [(0, .ref o), (1, .int v1), (2, .int v2), (3, .int v3), (4, va_rf none)] := hl
    exact wX0_init_0 X B.notSynchronized B.returns hin o v1 v2 v3 none _ _ _ _ (lv_sub hl [0, 1, 2, 3, 4] rfl) hW va_S.rf g
  | some v4 =>
    have hl := lv_entry [.ref o, .int v1, .int v2, .int v3, va_rf (some v4)] (n := 5) (Nat.le_of_ble_eq_true rfl)
    rw [lg_entry_eq]
    generalize (lg_sl [.ref o, .int v1, .int v2, .int v3, va_rf (some v4)] ++ List.replicate (5 - (lg_sl [.ref o, .int v1, .int v2, .int v3, va_rf (some v4)]).length) Slot.unset).toArray = ls at hl ⊢
    have hl : lv_has ls 5 [(0, .ref o), (1, .int v1), (2, .int v2), (3, .int v3), (4, va_rf (some v4))] := hl
    exact wX0_init_0 X B.notSynchronized B.returns hin o v1 v2 v3 (some v4) _ _ _ _ (lv_sub hl [0, 1, 2, 3, 4] rfl) hW va_S.rf g

theorem dX3_init_0 : decode cX3_init 0 = .ok (.aload_n 0, 1) := by decide +kernel
theorem dX3_init_1 : decode cX3_init 1 = .ok (.invokespecial 3, 3) := by decide +kernel
theorem dX3_init_4 : decode cX3_init 4 = .ok (.aload_n 0, 1) := by decide +kernel
theorem dX3_init_5 : decode cX3_init 5 = .ok (.sipush 300, 3) := by decide +kernel
theorem dX3_init_8 : decode cX3_init 8 = .ok (.newarray .boolean, 2) := by decide +kernel
theorem dX3_init_10 : decode cX3_init 10 = .ok (.putfield 9, 3) := by decide +kernel
theorem dX3_init_13 : decode cX3_init 13 = .ok (.aload_n 0, 1) := by decide +kernel
theorem dX3_init_14 : decode cX3_init 14 = .ok (.sipush 300, 3) := by decide +kernel
theorem dX3_init_17 : decode cX3_init 17 = .ok (.anewarray 15, 3) := by decide +kernel
theorem dX3_init_20 : decode cX3_init 20 = .ok (.putfield 17, 3) := by decide +kernel
theorem dX3_init_23 : decode cX3_init 23 = .ok (.aload_n 0, 1) := by decide +kernel
theorem dX3_init_24 : decode cX3_init 24 = .ok (.iconst 0, 1) := by decide +kernel
theorem dX3_init_25 : decode cX3_init 25 = .ok (.putfield 21, 3) := by decide +kernel
theorem dX3_init_28 : decode cX3_init 28 = .ok (.return_, 1) := by decide +kernel
def fX3_init (o : Nat) (h : Hz) : Option (Unit × Hz) := (b2 (nA 14 300 300 h) fun a1 s2 => (b1 (pP 3 0 o (some a1) s2) fun s3 => (b2 (nA 17 300 300 s3) fun a4 s5 => (b1 (pP 3 1 o (some a4) s5) fun s6 => (b1 (pI 3 2 o 0 s6) fun s7 => some ((), s7))))))
set_option maxHeartbeats 4000000 in
set_option maxRecDepth 100000 in
theorem wX3_init_0 {r0 : Unit} {h0 : Hz} (X : zX A D cy p s m args c cX3_init RX3 1) (hlk : meth.locks = false) (hr : meth.sig.returnType = none) (hin : meth.name = "<init>") (o : Nat) (h : Hz) (H : Heap) (locs : List Loc) (ls : Array Slot) (hl : lv_has ls 1 [(0, .ref o)]) (hW : zW A cy D h H) (hS : va_S A s.heap H locs) (h : fX3_init o h = some (r0, h0)) : W p l e ({ frames := 1, cells := 2, slots := 600, locals := 12 } : Room) s m args below meth c H locs 0 0 (MQ below (va_Qv (fun u => u = h0) (zB A D cy) A) args s 2 600 A) (F0 m 0 ls []) := by
  obtain ⟨hx, hb, hts, hown, hK9, hml, hN9, hA9⟩ := id X
  unfold fX3_init at h
  refine lv_aload_n hx hb dX3_init_0 rfl (lv_at hl 0 rfl) ?_
  refine W.objInit hx hb hown (hts _ kl_X3_3) (hts _ km_objectInit) (hts _ kco) rfl (by rw [hml]; exact hl.1) rfl dX3_init_1 (Nat.le_of_ble_eq_true rfl) (Nat.le_of_ble_eq_true rfl) ?_
  refine W.eq (g2 := F0 m 4 ls []) rfl ?_
  refine lv_aload_n hx hb dX3_init_4 rfl (lv_at hl 0 rfl) ?_
  refine lv_sipush (v := 300) hx hb dX3_init_5 (by decide) ?_
  replace h := b2_some h
  obtain ⟨a1, s2, ga1, h⟩ := h
  refine z_newN (ty := .int) X hW hS ga1 (Or.inr (Or.inr ⟨rfl, rfl⟩)) kp_boolean (by decide) dX3_init_8 (by decide) (by decide) (fun H hW hS => ?_)
  replace h := b1_some h
  obtain ⟨s3, gs3, h⟩ := h
  refine z_putP X hW hS gs3 kX3 (by decide) (by decide) (Or.inr ⟨_, rfl⟩) (Or.inr ⟨rfl, hin, rfl⟩) kf_X3_9 dX3_init_10 (fun H locs hW hS => ?_)
  refine lv_aload_n hx hb dX3_init_13 rfl (lv_at hl 0 rfl) ?_
  refine lv_sipush (v := 300) hx hb dX3_init_14 (by decide) ?_
  replace h := b2_some h
  obtain ⟨a4, s5, ga4, h⟩ := h
  refine z_newP X hW hS ga4 (by decide) (by decide) rfl kc_X3_15 hN9.2.2.2.1 (by decide) dX3_init_17 (by decide) (by decide) (fun H hW hS => ?_)
  replace h := b1_some h
  obtain ⟨s6, gs6, h⟩ := h
  refine z_putP X hW hS gs6 kX3 (by decide) (by decide) (Or.inr ⟨_, rfl⟩) (Or.inr ⟨rfl, hin, rfl⟩) kf_X3_17 dX3_init_20 (fun H locs hW hS => ?_)
  refine lv_aload_n hx hb dX3_init_23 rfl (lv_at hl 0 rfl) ?_
  refine lv_iconst (v := 0) hx hb dX3_init_24 (by decide) ?_
  replace h := b1_some h
  obtain ⟨s7, gs7, h⟩ := h
  refine z_putI X hW hS gs7 kX3 (by decide) (by decide) rfl (Or.inl rfl) kf_X3_21 dX3_init_25 (fun H locs hW hS => ?_)
  exact z_etv X hlk hr hW hS h (by decide) (by decide) dX3_init_28

set_option maxHeartbeats 4000000 in
set_option maxRecDepth 100000 in
theorem cX3_init_met {l : Launch} {A : Nat → Prop} {D : va_G} {cy : Nat → ClassId} {r0 : Unit} {h0 : Hz} {o : Nat} {h : Hz} (g : fX3_init o h = some (r0, h0)) : Met l yX3_init (Cond.code yX3_init cX3_init 1 none :: wT) ({ frames := 1, cells := 2, slots := 600, locals := 12 } : Room) (va_Pc [.ref o] (zS A D cy h)) (va_Qv (fun u => u = h0) (zB A D cy) A) 2 600 A := by
  refine Met.ofW (cc := cX3_init) (maxL := 1) (ret := none) (by decide) rfl ?_
  intro p e s m args below meth c s₁ B hml hv
  obtain ⟨rfl, hW, hK, hN, hA⟩ := hv
  have X : zX A D cy p s m _ c cX3_init RX3 1 := ⟨B.exec, B.bytes, fun w hw => atoms_spec (ws := Cond.code yX3_init cX3_init 1 none :: wT) B.pre w (List.mem_cons_of_mem _ hw), findClass_of_methodNamed B.named, hK, hml, hN, hA⟩
  have hin : meth.name = "<init>" := (name_of_methodNamed B.named B.method).1
  have hl := lv_entry [.ref o] (n := 1) (Nat.le_of_ble_eq_true rfl)
  rw [lg_entry_eq]
  generalize (lg_sl [.ref o] ++ List.replicate (1 - (lg_sl [.ref o]).length) Slot.unset).toArray = ls at hl ⊢
  have hl : lv_has ls 1 [(0, .ref o)] := hl
  exact wX3_init_0 X B.notSynchronized B.returns hin o _ _ _ _ (lv_sub hl [0] rfl) hW va_S.rf g

theorem dX1_init_0 : decode cX1_init 0 = .ok (.aload_n 0, 1) := by decide +kernel
theorem dX1_init_1 : decode cX1_init 1 = .ok (.invokespecial 3, 3) := by decide +kernel
theorem dX1_init_4 : decode cX1_init 4 = .ok (.aload_n 0, 1) := by decide +kernel
theorem dX1_init_5 : decode cX1_init 5 = .ok (.new 9, 3) := by decide +kernel
theorem dX1_init_8 : decode cX1_init 8 = .ok (.dup, 1) := by decide +kernel
theorem dX1_init_9 : decode cX1_init 9 = .ok (.invokespecial 11, 3) := by decide +kernel
theorem dX1_init_12 : decode cX1_init 12 = .ok (.putfield 12, 3) := by decide +kernel
theorem dX1_init_15 : decode cX1_init 15 = .ok (.aload_n 0, 1) := by decide +kernel
theorem dX1_init_16 : decode cX1_init 16 = .ok (.sipush 300, 3) := by decide +kernel
theorem dX1_init_19 : decode cX1_init 19 = .ok (.newarray .boolean, 2) := by decide +kernel
theorem dX1_init_21 : decode cX1_init 21 = .ok (.putfield 18, 3) := by decide +kernel
theorem dX1_init_24 : decode cX1_init 24 = .ok (.aload_n 0, 1) := by decide +kernel
theorem dX1_init_25 : decode cX1_init 25 = .ok (.sipush 300, 3) := by decide +kernel
theorem dX1_init_28 : decode cX1_init 28 = .ok (.anewarray 22, 3) := by decide +kernel
theorem dX1_init_31 : decode cX1_init 31 = .ok (.putfield 24, 3) := by decide +kernel
theorem dX1_init_34 : decode cX1_init 34 = .ok (.aload_n 0, 1) := by decide +kernel
theorem dX1_init_35 : decode cX1_init 35 = .ok (.sipush 300, 3) := by decide +kernel
theorem dX1_init_38 : decode cX1_init 38 = .ok (.newarray .int, 2) := by decide +kernel
theorem dX1_init_40 : decode cX1_init 40 = .ok (.putfield 28, 3) := by decide +kernel
theorem dX1_init_43 : decode cX1_init 43 = .ok (.aload_n 0, 1) := by decide +kernel
theorem dX1_init_44 : decode cX1_init 44 = .ok (.iconst 0, 1) := by decide +kernel
theorem dX1_init_45 : decode cX1_init 45 = .ok (.putfield 32, 3) := by decide +kernel
theorem dX1_init_48 : decode cX1_init 48 = .ok (.return_, 1) := by decide +kernel
def fX1_init (o : Nat) (h : Hz) : Option (Unit × Hz) := (b2 (nO 3 h) fun a1 s2 => (b2 (fX3_init a1 s2) fun _ s4 => (b1 (pP 1 0 o (some a1) s4) fun s5 => (b2 (nA 14 300 300 s5) fun a6 s7 => (b1 (pP 1 1 o (some a6) s7) fun s8 => (b2 (nA 17 300 300 s8) fun a9 s10 => (b1 (pP 1 2 o (some a9) s10) fun s11 => (b2 (nA 12 300 300 s11) fun a12 s13 => (b1 (pP 1 3 o (some a12) s13) fun s14 => (b1 (pI 1 4 o 0 s14) fun s15 => some ((), s15)))))))))))
set_option maxHeartbeats 4000000 in
set_option maxRecDepth 100000 in
theorem wX1_init_0 {r0 : Unit} {h0 : Hz} (X : zX A D cy p s m args c cX1_init RX1 1) (hlk : meth.locks = false) (hr : meth.sig.returnType = none) (hin : meth.name = "<init>") (o : Nat) (h : Hz) (H : Heap) (locs : List Loc) (ls : Array Slot) (hl : lv_has ls 1 [(0, .ref o)]) (hW : zW A cy D h H) (hS : va_S A s.heap H locs) (h : fX1_init o h = some (r0, h0)) : W p l e ({ frames := 2, cells := 6, slots := 1503, locals := 32 } : Room) s m args below meth c H locs 0 0 (MQ below (va_Qv (fun u => u = h0) (zB A D cy) A) args s 6 1503 A) (F0 m 0 ls []) := by
  obtain ⟨hx, hb, hts, hown, hK9, hml, hN9, hA9⟩ := id X
  unfold fX1_init at h
  refine lv_aload_n hx hb dX1_init_0 rfl (lv_at hl 0 rfl) ?_
  refine W.objInit hx hb hown (hts _ kl_X1_3) (hts _ km_objectInit) (hts _ kco) rfl (by rw [hml]; exact hl.1) rfl dX1_init_1 (Nat.le_of_ble_eq_true rfl) (Nat.le_of_ble_eq_true rfl) ?_
  refine W.eq (g2 := F0 m 4 ls []) rfl ?_
  refine lv_aload_n hx hb dX1_init_4 rfl (lv_at hl 0 rfl) ?_
  replace h := b2_some h
  obtain ⟨a1, s2, ga1, h⟩ := h
  refine z_new X hW hS ga1 kX3 kd_X3 kc_X1_9 kn_X3 ki_5 dX1_init_5 (by decide) (by decide) (fun H hW hS => ?_)
  refine lv_dup hx hb dX1_init_8 rfl ?_
  replace h := b2_some h
  obtain ⟨_ur3, s4, gs4, h⟩ := h
  refine z_callINv (rest := [.ref a1, .ref o]) X hW hS (cX3_init_met gs4) kb_X3_init km_X3_init rfl hN9.1.2.2.2.2.2 rfl rfl ⟨Nat.le_of_ble_eq_true rfl, Nat.le_of_ble_eq_true rfl⟩ rfl rfl (Nat.le_of_ble_eq_true rfl) hl.1 dX1_init_9 ⟨(by decide), (by decide)⟩ (fun H locs hW hS => ?_)
  replace h := b1_some h
  obtain ⟨s5, gs5, h⟩ := h
  refine z_putP X hW hS gs5 kX1 (by decide) (by decide) (Or.inl ⟨_, rfl⟩) (Or.inr ⟨rfl, hin, rfl⟩) kf_X1_12 dX1_init_12 (fun H locs hW hS => ?_)
  refine lv_aload_n hx hb dX1_init_15 rfl (lv_at hl 0 rfl) ?_
  refine lv_sipush (v := 300) hx hb dX1_init_16 (by decide) ?_
  replace h := b2_some h
  obtain ⟨a6, s7, ga6, h⟩ := h
  refine z_newN (ty := .int) X hW hS ga6 (Or.inr (Or.inr ⟨rfl, rfl⟩)) kp_boolean (by decide) dX1_init_19 (by decide) (by decide) (fun H hW hS => ?_)
  replace h := b1_some h
  obtain ⟨s8, gs8, h⟩ := h
  refine z_putP X hW hS gs8 kX1 (by decide) (by decide) (Or.inr ⟨_, rfl⟩) (Or.inr ⟨rfl, hin, rfl⟩) kf_X1_18 dX1_init_21 (fun H locs hW hS => ?_)
  refine lv_aload_n hx hb dX1_init_24 rfl (lv_at hl 0 rfl) ?_
  refine lv_sipush (v := 300) hx hb dX1_init_25 (by decide) ?_
  replace h := b2_some h
  obtain ⟨a9, s10, ga9, h⟩ := h
  refine z_newP X hW hS ga9 (by decide) (by decide) rfl kc_X1_22 hN9.2.2.2.1 (by decide) dX1_init_28 (by decide) (by decide) (fun H hW hS => ?_)
  replace h := b1_some h
  obtain ⟨s11, gs11, h⟩ := h
  refine z_putP X hW hS gs11 kX1 (by decide) (by decide) (Or.inr ⟨_, rfl⟩) (Or.inr ⟨rfl, hin, rfl⟩) kf_X1_24 dX1_init_31 (fun H locs hW hS => ?_)
  refine lv_aload_n hx hb dX1_init_34 rfl (lv_at hl 0 rfl) ?_
  refine lv_sipush (v := 300) hx hb dX1_init_35 (by decide) ?_
  replace h := b2_some h
  obtain ⟨a12, s13, ga12, h⟩ := h
  refine z_newN (ty := .int) X hW hS ga12 (Or.inl ⟨rfl, rfl⟩) kp_int (by decide) dX1_init_38 (by decide) (by decide) (fun H hW hS => ?_)
  replace h := b1_some h
  obtain ⟨s14, gs14, h⟩ := h
  refine z_putP X hW hS gs14 kX1 (by decide) (by decide) (Or.inr ⟨_, rfl⟩) (Or.inr ⟨rfl, hin, rfl⟩) kf_X1_28 dX1_init_40 (fun H locs hW hS => ?_)
  refine lv_aload_n hx hb dX1_init_43 rfl (lv_at hl 0 rfl) ?_
  refine lv_iconst (v := 0) hx hb dX1_init_44 (by decide) ?_
  replace h := b1_some h
  obtain ⟨s15, gs15, h⟩ := h
  refine z_putI X hW hS gs15 kX1 (by decide) (by decide) rfl (Or.inl rfl) kf_X1_32 dX1_init_45 (fun H locs hW hS => ?_)
  exact z_etv X hlk hr hW hS h (by decide) (by decide) dX1_init_48

set_option maxHeartbeats 4000000 in
set_option maxRecDepth 100000 in
theorem cX1_init_met {l : Launch} {A : Nat → Prop} {D : va_G} {cy : Nat → ClassId} {r0 : Unit} {h0 : Hz} {o : Nat} {h : Hz} (g : fX1_init o h = some (r0, h0)) : Met l yX1_init (Cond.code yX1_init cX1_init 1 none :: wT) ({ frames := 2, cells := 6, slots := 1503, locals := 32 } : Room) (va_Pc [.ref o] (zS A D cy h)) (va_Qv (fun u => u = h0) (zB A D cy) A) 6 1503 A := by
  refine Met.ofW (cc := cX1_init) (maxL := 1) (ret := none) (by decide) rfl ?_
  intro p e s m args below meth c s₁ B hml hv
  obtain ⟨rfl, hW, hK, hN, hA⟩ := hv
  have X : zX A D cy p s m _ c cX1_init RX1 1 := ⟨B.exec, B.bytes, fun w hw => atoms_spec (ws := Cond.code yX1_init cX1_init 1 none :: wT) B.pre w (List.mem_cons_of_mem _ hw), findClass_of_methodNamed B.named, hK, hml, hN, hA⟩
  have hin : meth.name = "<init>" := (name_of_methodNamed B.named B.method).1
  have hl := lv_entry [.ref o] (n := 1) (Nat.le_of_ble_eq_true rfl)
  rw [lg_entry_eq]
  generalize (lg_sl [.ref o] ++ List.replicate (1 - (lg_sl [.ref o]).length) Slot.unset).toArray = ls at hl ⊢
  have hl : lv_has ls 1 [(0, .ref o)] := hl
  exact wX1_init_0 X B.notSynchronized B.returns hin o _ _ _ _ (lv_sub hl [0] rfl) hW va_S.rf g

theorem dX3_has_0 : decode cX3_has 0 = .ok (.aload_n 1, 1) := by decide +kernel
theorem dX3_has_1 : decode cX3_has 1 = .ok (.getfield 29, 3) := by decide +kernel
theorem dX3_has_4 : decode cX3_has 4 = .ok (.ifCond .lt 31, 3) := by decide +kernel
theorem dX3_has_7 : decode cX3_has 7 = .ok (.aload_n 1, 1) := by decide +kernel
theorem dX3_has_8 : decode cX3_has 8 = .ok (.getfield 29, 3) := by decide +kernel
theorem dX3_has_11 : decode cX3_has 11 = .ok (.aload_n 0, 1) := by decide +kernel
theorem dX3_has_12 : decode cX3_has 12 = .ok (.getfield 9, 3) := by decide +kernel
theorem dX3_has_15 : decode cX3_has 15 = .ok (.arraylength, 1) := by decide +kernel
theorem dX3_has_16 : decode cX3_has 16 = .ok (.if_icmp .ge 19, 3) := by decide +kernel
theorem dX3_has_19 : decode cX3_has 19 = .ok (.aload_n 0, 1) := by decide +kernel
theorem dX3_has_20 : decode cX3_has 20 = .ok (.getfield 9, 3) := by decide +kernel
theorem dX3_has_23 : decode cX3_has 23 = .ok (.aload_n 1, 1) := by decide +kernel
theorem dX3_has_24 : decode cX3_has 24 = .ok (.getfield 29, 3) := by decide +kernel
theorem dX3_has_27 : decode cX3_has 27 = .ok (.baload, 1) := by decide +kernel
theorem dX3_has_28 : decode cX3_has 28 = .ok (.ifCond .eq 7, 3) := by decide +kernel
theorem dX3_has_31 : decode cX3_has 31 = .ok (.iconst 1, 1) := by decide +kernel
theorem dX3_has_32 : decode cX3_has 32 = .ok (.goto 4, 3) := by decide +kernel
theorem dX3_has_35 : decode cX3_has 35 = .ok (.iconst 0, 1) := by decide +kernel
theorem dX3_has_36 : decode cX3_has 36 = .ok (.ireturn, 1) := by decide +kernel
def fX3_has (o : Nat) (v1 : Option Nat) (h : Hz) : Option (Int32 × Hz) := b1 v1 fun a1 => (b1 (gI 5 0 a1 h) fun x2 => (if x2 < 0 then rz 0 h else (b1 (gI 5 0 a1 h) fun x4 => (b1 (gA 3 0 o h) fun a5 => (b1 (xN 14 a5 h) fun x6 => (if x6 ≤ x4 then rz 0 h else (b1 (gA 3 0 o h) fun a8 => (b1 (gI 5 0 a1 h) fun x9 => (b1 (xI 14 a8 x9 h) fun x10 => (if x10 = 0 then rz 0 h else rz 1 h))))))))))
set_option maxHeartbeats 4000000 in
set_option maxRecDepth 100000 in
theorem wX3_has_0 {r0 : Int32} {h0 : Hz} (X : zX A D cy p s m args c cX3_has RX3 2) (hlk : meth.locks = false) (hr : meth.sig.returnType = (some .boolean)) (o : Nat) (v1 : Option Nat) (h : Hz) (H : Heap) (locs : List Loc) (ls : Array Slot) (hl : lv_has ls 2 [(0, .ref o), (1, va_rf v1)]) (hW : zW A cy D h H) (hS : va_S A s.heap H locs) (h : fX3_has o v1 h = some (r0, h0)) : W p l e ({ frames := 0, cells := 0, slots := 0, locals := 0 } : Room) s m args below meth c H locs 0 0 (MQ below (va_Qi (fun r1 u => r1 = r0 ∧ u = h0) (zB A D cy) A) args s 0 0 A) (F0 m 0 ls []) := by
  obtain ⟨hx, hb, hts, hown, hK9, hml, hN9, hA9⟩ := id X
  unfold fX3_has at h
  refine z_aload_n hx hb dX3_has_0 rfl (lv_at hl 1 rfl) ?_
  replace h := b1_some h
  obtain ⟨a1, ea1, h⟩ := h
  subst ea1
  replace h := b1_some h
  obtain ⟨x2, gx2, h⟩ := h
  refine z_getI X hW gx2 kX5 (by decide) (by decide) kf_X3_29 dX3_has_1 ?_
  refine lv_if_lt (tgt := 35) hx hb dX3_has_4 (by decide) (fun c3 => ?_) (fun c3 => ?_)
  · replace h := it_t h c3
    refine lv_iconst (v := 0) hx hb dX3_has_35 (by decide) ?_
    exact z_etz X hlk hr hW hS h (by decide) (by decide) dX3_has_36
  · replace h := it_f h c3
    refine lv_aload_n hx hb dX3_has_7 rfl (lv_at hl 1 rfl) ?_
    replace h := b1_some h
    obtain ⟨x4, gx4, h⟩ := h
    refine z_getI X hW gx4 kX5 (by decide) (by decide) kf_X3_29 dX3_has_8 ?_
    refine lv_aload_n hx hb dX3_has_11 rfl (lv_at hl 0 rfl) ?_
    replace h := b1_some h
    obtain ⟨a5, ga5, h⟩ := h
    refine z_getA X hW ga5 kX3 (by decide) (by decide) kf_X3_9 dX3_has_12 ?_
    replace h := b1_some h
    obtain ⟨x6, gx6, h⟩ := h
    refine z_alenZ X hW gx6 dX3_has_15 ?_
    refine lv_icmp_ge (tgt := 35) hx hb dX3_has_16 (by decide) (fun c7 => ?_) (fun c7 => ?_)
    · replace h := it_t h c7
      refine lv_iconst (v := 0) hx hb dX3_has_35 (by decide) ?_
      exact z_etz X hlk hr hW hS h (by decide) (by decide) dX3_has_36
    · replace h := it_f h c7
      refine lv_aload_n hx hb dX3_has_19 rfl (lv_at hl 0 rfl) ?_
      replace h := b1_some h
      obtain ⟨a8, ga8, h⟩ := h
      refine z_getA X hW ga8 kX3 (by decide) (by decide) kf_X3_9 dX3_has_20 ?_
      refine lv_aload_n hx hb dX3_has_23 rfl (lv_at hl 1 rfl) ?_
      replace h := b1_some h
      obtain ⟨x9, gx9, h⟩ := h
      refine z_getI X hW gx9 kX5 (by decide) (by decide) kf_X3_29 dX3_has_24 ?_
      replace h := b1_some h
      obtain ⟨x10, gx10, h⟩ := h
      refine z_aldZ X hW gx10 dX3_has_27 ?_
      refine lv_if_eq (tgt := 35) hx hb dX3_has_28 (by decide) (fun c11 => ?_) (fun c11 => ?_)
      · replace h := it_t h c11
        refine lv_iconst (v := 0) hx hb dX3_has_35 (by decide) ?_
        exact z_etz X hlk hr hW hS h (by decide) (by decide) dX3_has_36
      · replace h := it_f h c11
        refine lv_iconst (v := 1) hx hb dX3_has_31 (by decide) ?_
        refine lv_goto (tgt := 36) hx hb dX3_has_32 (by decide) ?_
        exact z_etz X hlk hr hW hS h (by decide) (by decide) dX3_has_36

set_option maxHeartbeats 4000000 in
set_option maxRecDepth 100000 in
theorem cX3_has_met {l : Launch} {A : Nat → Prop} {D : va_G} {cy : Nat → ClassId} {r0 : Int32} {h0 : Hz} {o : Nat} {v1 : Option Nat} {h : Hz} (g : fX3_has o v1 h = some (r0, h0)) : Met l yX3_has (Cond.code yX3_has cX3_has 2 (some .boolean) :: wT) ({ frames := 0, cells := 0, slots := 0, locals := 0 } : Room) (va_Pc [.ref o, va_rf v1] (zS A D cy h)) (va_Qi (fun r1 u => r1 = r0 ∧ u = h0) (zB A D cy) A) 0 0 A := by
  refine Met.ofW (cc := cX3_has) (maxL := 2) (ret := (some .boolean)) (by decide) rfl ?_
  intro p e s m args below meth c s₁ B hml hv
  obtain ⟨rfl, hW, hK, hN, hA⟩ := hv
  have X : zX A D cy p s m _ c cX3_has RX3 2 := ⟨B.exec, B.bytes, fun w hw => atoms_spec (ws := Cond.code yX3_has cX3_has 2 (some .boolean) :: wT) B.pre w (List.mem_cons_of_mem _ hw), findClass_of_methodNamed B.named, hK, hml, hN, hA⟩
  cases v1 with
  | none =>
    have hl := lv_entry [.ref o, va_rf none] (n := 2) (Nat.le_of_ble_eq_true rfl)
    rw [lg_entry_eq]
    generalize (lg_sl [.ref o, va_rf none] ++ List.replicate (2 - (lg_sl [.ref o, va_rf none]).length) Slot.unset).toArray = ls at hl ⊢
    have hl : lv_has ls 2 [(0, .ref o), (1, va_rf none)] := hl
    exact wX3_has_0 X B.notSynchronized B.returns o none _ _ _ _ (lv_sub hl [0, 1] rfl) hW va_S.rf g
  | some v1 =>
    have hl := lv_entry [.ref o, va_rf (some v1)] (n := 2) (Nat.le_of_ble_eq_true rfl)
    rw [lg_entry_eq]
    generalize (lg_sl [.ref o, va_rf (some v1)] ++ List.replicate (2 - (lg_sl [.ref o, va_rf (some v1)]).length) Slot.unset).toArray = ls at hl ⊢
    have hl : lv_has ls 2 [(0, .ref o), (1, va_rf (some v1))] := hl
    exact wX3_has_0 X B.notSynchronized B.returns o (some v1) _ _ _ _ (lv_sub hl [0, 1] rfl) hW va_S.rf g

theorem dX1_has_0 : decode cX1_has 0 = .ok (.aload_n 0, 1) := by decide +kernel
theorem dX1_has_1 : decode cX1_has 1 = .ok (.getfield 12, 3) := by decide +kernel
theorem dX1_has_4 : decode cX1_has 4 = .ok (.aload_n 1, 1) := by decide +kernel
theorem dX1_has_5 : decode cX1_has 5 = .ok (.invokevirtual 36, 3) := by decide +kernel
theorem dX1_has_8 : decode cX1_has 8 = .ok (.ireturn, 1) := by decide +kernel
def fX1_has (o : Nat) (v1 : Option Nat) (h : Hz) : Option (Int32 × Hz) := (b1 (gA 1 0 o h) fun a1 => (b1 (tg 3 a1 h) fun _ => (b2 (fX3_has a1 v1 h) fun x3 s4 => rz x3 s4)))
set_option maxHeartbeats 4000000 in
set_option maxRecDepth 100000 in
theorem wX1_has_0 {r0 : Int32} {h0 : Hz} (X : zX A D cy p s m args c cX1_has RX1 2) (hlk : meth.locks = false) (hr : meth.sig.returnType = (some .boolean)) (o : Nat) (v1 : Option Nat) (h : Hz) (H : Heap) (locs : List Loc) (ls : Array Slot) (hl : lv_has ls 2 [(0, .ref o), (1, va_rf v1)]) (hW : zW A cy D h H) (hS : va_S A s.heap H locs) (h : fX1_has o v1 h = some (r0, h0)) : W p l e ({ frames := 1, cells := 0, slots := 0, locals := 21 } : Room) s m args below meth c H locs 0 0 (MQ below (va_Qi (fun r1 u => r1 = r0 ∧ u = h0) (zB A D cy) A) args s 0 0 A) (F0 m 0 ls []) := by
  obtain ⟨hx, hb, hts, hown, hK9, hml, hN9, hA9⟩ := id X
  unfold fX1_has at h
  refine lv_aload_n hx hb dX1_has_0 rfl (lv_at hl 0 rfl) ?_
  replace h := b1_some h
  obtain ⟨a1, ga1, h⟩ := h
  refine z_getA X hW ga1 kX1 (by decide) (by decide) kf_X1_12 dX1_has_1 ?_
  refine z_aload_n hx hb dX1_has_4 rfl (lv_at hl 1 rfl) ?_
  replace h := b1_some h
  obtain ⟨q2, gq2, h⟩ := h
  replace h := b2_some h
  obtain ⟨x3, s4, gs4, h⟩ := h
  refine z_callVi (rest := []) X hW hS (cX3_has_met gs4) kb_X3_has kv_X3_has kl_X1_36 (it_v gq2).1 kX3 rfl rfl ⟨Nat.le_of_ble_eq_true rfl, Nat.le_of_ble_eq_true rfl⟩ rfl rfl (by decide) hl.1 dX1_has_5 ⟨(by decide), (by decide)⟩ (fun H locs hW hS => ?_)
  exact z_etz X hlk hr hW hS h (by decide) (by decide) dX1_has_8

set_option maxHeartbeats 4000000 in
set_option maxRecDepth 100000 in
theorem cX1_has_met {l : Launch} {A : Nat → Prop} {D : va_G} {cy : Nat → ClassId} {r0 : Int32} {h0 : Hz} {o : Nat} {v1 : Option Nat} {h : Hz} (g : fX1_has o v1 h = some (r0, h0)) : Met l yX1_has (Cond.code yX1_has cX1_has 2 (some .boolean) :: wT) ({ frames := 1, cells := 0, slots := 0, locals := 21 } : Room) (va_Pc [.ref o, va_rf v1] (zS A D cy h)) (va_Qi (fun r1 u => r1 = r0 ∧ u = h0) (zB A D cy) A) 0 0 A := by
  refine Met.ofW (cc := cX1_has) (maxL := 2) (ret := (some .boolean)) (by decide) rfl ?_
  intro p e s m args below meth c s₁ B hml hv
  obtain ⟨rfl, hW, hK, hN, hA⟩ := hv
  have X : zX A D cy p s m _ c cX1_has RX1 2 := ⟨B.exec, B.bytes, fun w hw => atoms_spec (ws := Cond.code yX1_has cX1_has 2 (some .boolean) :: wT) B.pre w (List.mem_cons_of_mem _ hw), findClass_of_methodNamed B.named, hK, hml, hN, hA⟩
  cases v1 with
  | none =>
    have hl := lv_entry [.ref o, va_rf none] (n := 2) (Nat.le_of_ble_eq_true rfl)
    rw [lg_entry_eq]
    generalize (lg_sl [.ref o, va_rf none] ++ List.replicate (2 - (lg_sl [.ref o, va_rf none]).length) Slot.unset).toArray = ls at hl ⊢
    have hl : lv_has ls 2 [(0, .ref o), (1, va_rf none)] := hl
    exact wX1_has_0 X B.notSynchronized B.returns o none _ _ _ _ (lv_sub hl [0, 1] rfl) hW va_S.rf g
  | some v1 =>
    have hl := lv_entry [.ref o, va_rf (some v1)] (n := 2) (Nat.le_of_ble_eq_true rfl)
    rw [lg_entry_eq]
    generalize (lg_sl [.ref o, va_rf (some v1)] ++ List.replicate (2 - (lg_sl [.ref o, va_rf (some v1)]).length) Slot.unset).toArray = ls at hl ⊢
    have hl : lv_has ls 2 [(0, .ref o), (1, va_rf (some v1))] := hl
    exact wX1_has_0 X B.notSynchronized B.returns o (some v1) _ _ _ _ (lv_sub hl [0, 1] rfl) hW va_S.rf g

theorem dX1_depthOf_0 : decode cX1_depthOf 0 = .ok (.aload_n 1, 1) := by decide +kernel
theorem dX1_depthOf_1 : decode cX1_depthOf 1 = .ok (.getfield 119, 3) := by decide +kernel
theorem dX1_depthOf_4 : decode cX1_depthOf 4 = .ok (.ifCond .lt 27, 3) := by decide +kernel
theorem dX1_depthOf_7 : decode cX1_depthOf 7 = .ok (.aload_n 1, 1) := by decide +kernel
theorem dX1_depthOf_8 : decode cX1_depthOf 8 = .ok (.getfield 119, 3) := by decide +kernel
theorem dX1_depthOf_11 : decode cX1_depthOf 11 = .ok (.aload_n 0, 1) := by decide +kernel
theorem dX1_depthOf_12 : decode cX1_depthOf 12 = .ok (.getfield 28, 3) := by decide +kernel
theorem dX1_depthOf_15 : decode cX1_depthOf 15 = .ok (.arraylength, 1) := by decide +kernel
theorem dX1_depthOf_16 : decode cX1_depthOf 16 = .ok (.if_icmp .ge 15, 3) := by decide +kernel
theorem dX1_depthOf_19 : decode cX1_depthOf 19 = .ok (.aload_n 0, 1) := by decide +kernel
theorem dX1_depthOf_20 : decode cX1_depthOf 20 = .ok (.getfield 28, 3) := by decide +kernel
theorem dX1_depthOf_23 : decode cX1_depthOf 23 = .ok (.aload_n 1, 1) := by decide +kernel
theorem dX1_depthOf_24 : decode cX1_depthOf 24 = .ok (.getfield 119, 3) := by decide +kernel
theorem dX1_depthOf_27 : decode cX1_depthOf 27 = .ok (.iaload, 1) := by decide +kernel
theorem dX1_depthOf_28 : decode cX1_depthOf 28 = .ok (.goto 4, 3) := by decide +kernel
theorem dX1_depthOf_31 : decode cX1_depthOf 31 = .ok (.iconst 0, 1) := by decide +kernel
theorem dX1_depthOf_32 : decode cX1_depthOf 32 = .ok (.ireturn, 1) := by decide +kernel
def fX1_depthOf (o : Nat) (v1 : Option Nat) (h : Hz) : Option (Int32 × Hz) := b1 v1 fun a1 => (b1 (gI 5 0 a1 h) fun x2 => (if x2 < 0 then some (0, h) else (b1 (gI 5 0 a1 h) fun x4 => (b1 (gA 1 3 o h) fun a5 => (b1 (xN 12 a5 h) fun x6 => (if x6 ≤ x4 then some (0, h) else (b1 (gA 1 3 o h) fun a8 => (b1 (gI 5 0 a1 h) fun x9 => (b1 (xI 12 a8 x9 h) fun x10 => some (x10, h))))))))))
set_option maxHeartbeats 4000000 in
set_option maxRecDepth 100000 in
theorem wX1_depthOf_0 {r0 : Int32} {h0 : Hz} (X : zX A D cy p s m args c cX1_depthOf RX1 2) (hlk : meth.locks = false) (hr : meth.sig.returnType = (some .int)) (o : Nat) (v1 : Option Nat) (h : Hz) (H : Heap) (locs : List Loc) (ls : Array Slot) (hl : lv_has ls 2 [(0, .ref o), (1, va_rf v1)]) (hW : zW A cy D h H) (hS : va_S A s.heap H locs) (h : fX1_depthOf o v1 h = some (r0, h0)) : W p l e ({ frames := 0, cells := 0, slots := 0, locals := 0 } : Room) s m args below meth c H locs 0 0 (MQ below (va_Qi (fun r1 u => r1 = r0 ∧ u = h0) (zB A D cy) A) args s 0 0 A) (F0 m 0 ls []) := by
  obtain ⟨hx, hb, hts, hown, hK9, hml, hN9, hA9⟩ := id X
  unfold fX1_depthOf at h
  refine z_aload_n hx hb dX1_depthOf_0 rfl (lv_at hl 1 rfl) ?_
  replace h := b1_some h
  obtain ⟨a1, ea1, h⟩ := h
  subst ea1
  replace h := b1_some h
  obtain ⟨x2, gx2, h⟩ := h
  refine z_getI X hW gx2 kX5 (by decide) (by decide) kf_X1_119 dX1_depthOf_1 ?_
  refine lv_if_lt (tgt := 31) hx hb dX1_depthOf_4 (by decide) (fun c3 => ?_) (fun c3 => ?_)
  · replace h := it_t h c3
    refine lv_iconst (v := 0) hx hb dX1_depthOf_31 (by decide) ?_
    exact z_eti X hlk hr hW hS h (by decide) (by decide) dX1_depthOf_32
  · replace h := it_f h c3
    refine lv_aload_n hx hb dX1_depthOf_7 rfl (lv_at hl 1 rfl) ?_
    replace h := b1_some h
    obtain ⟨x4, gx4, h⟩ := h
    refine z_getI X hW gx4 kX5 (by decide) (by decide) kf_X1_119 dX1_depthOf_8 ?_
    refine lv_aload_n hx hb dX1_depthOf_11 rfl (lv_at hl 0 rfl) ?_
    replace h := b1_some h
    obtain ⟨a5, ga5, h⟩ := h
    refine z_getA X hW ga5 kX1 (by decide) (by decide) kf_X1_28 dX1_depthOf_12 ?_
    replace h := b1_some h
    obtain ⟨x6, gx6, h⟩ := h
    refine z_alenI X hW gx6 dX1_depthOf_15 ?_
    refine lv_icmp_ge (tgt := 31) hx hb dX1_depthOf_16 (by decide) (fun c7 => ?_) (fun c7 => ?_)
    · replace h := it_t h c7
      refine lv_iconst (v := 0) hx hb dX1_depthOf_31 (by decide) ?_
      exact z_eti X hlk hr hW hS h (by decide) (by decide) dX1_depthOf_32
    · replace h := it_f h c7
      refine lv_aload_n hx hb dX1_depthOf_19 rfl (lv_at hl 0 rfl) ?_
      replace h := b1_some h
      obtain ⟨a8, ga8, h⟩ := h
      refine z_getA X hW ga8 kX1 (by decide) (by decide) kf_X1_28 dX1_depthOf_20 ?_
      refine lv_aload_n hx hb dX1_depthOf_23 rfl (lv_at hl 1 rfl) ?_
      replace h := b1_some h
      obtain ⟨x9, gx9, h⟩ := h
      refine z_getI X hW gx9 kX5 (by decide) (by decide) kf_X1_119 dX1_depthOf_24 ?_
      replace h := b1_some h
      obtain ⟨x10, gx10, h⟩ := h
      refine z_aldI X hW gx10 dX1_depthOf_27 ?_
      refine lv_goto (tgt := 32) hx hb dX1_depthOf_28 (by decide) ?_
      exact z_eti X hlk hr hW hS h (by decide) (by decide) dX1_depthOf_32

set_option maxHeartbeats 4000000 in
set_option maxRecDepth 100000 in
theorem cX1_depthOf_met {l : Launch} {A : Nat → Prop} {D : va_G} {cy : Nat → ClassId} {r0 : Int32} {h0 : Hz} {o : Nat} {v1 : Option Nat} {h : Hz} (g : fX1_depthOf o v1 h = some (r0, h0)) : Met l yX1_depthOf (Cond.code yX1_depthOf cX1_depthOf 2 (some .int) :: wT) ({ frames := 0, cells := 0, slots := 0, locals := 0 } : Room) (va_Pc [.ref o, va_rf v1] (zS A D cy h)) (va_Qi (fun r1 u => r1 = r0 ∧ u = h0) (zB A D cy) A) 0 0 A := by
  refine Met.ofW (cc := cX1_depthOf) (maxL := 2) (ret := (some .int)) (by decide) rfl ?_
  intro p e s m args below meth c s₁ B hml hv
  obtain ⟨rfl, hW, hK, hN, hA⟩ := hv
  have X : zX A D cy p s m _ c cX1_depthOf RX1 2 := ⟨B.exec, B.bytes, fun w hw => atoms_spec (ws := Cond.code yX1_depthOf cX1_depthOf 2 (some .int) :: wT) B.pre w (List.mem_cons_of_mem _ hw), findClass_of_methodNamed B.named, hK, hml, hN, hA⟩
  cases v1 with
  | none =>
    have hl := lv_entry [.ref o, va_rf none] (n := 2) (Nat.le_of_ble_eq_true rfl)
    rw [lg_entry_eq]
    generalize (lg_sl [.ref o, va_rf none] ++ List.replicate (2 - (lg_sl [.ref o, va_rf none]).length) Slot.unset).toArray = ls at hl ⊢
    have hl : lv_has ls 2 [(0, .ref o), (1, va_rf none)] := hl
    exact wX1_depthOf_0 X B.notSynchronized B.returns o none _ _ _ _ (lv_sub hl [0, 1] rfl) hW va_S.rf g
  | some v1 =>
    have hl := lv_entry [.ref o, va_rf (some v1)] (n := 2) (Nat.le_of_ble_eq_true rfl)
    rw [lg_entry_eq]
    generalize (lg_sl [.ref o, va_rf (some v1)] ++ List.replicate (2 - (lg_sl [.ref o, va_rf (some v1)]).length) Slot.unset).toArray = ls at hl ⊢
    have hl : lv_has ls 2 [(0, .ref o), (1, va_rf (some v1))] := hl
    exact wX1_depthOf_0 X B.notSynchronized B.returns o (some v1) _ _ _ _ (lv_sub hl [0, 1] rfl) hW va_S.rf g

theorem dX3_add_0 : decode cX3_add 0 = .ok (.aload_n 1, 1) := by decide +kernel
theorem dX3_add_1 : decode cX3_add 1 = .ok (.getfield 29, 3) := by decide +kernel
theorem dX3_add_4 : decode cX3_add 4 = .ok (.ifCond .lt 27, 3) := by decide +kernel
theorem dX3_add_7 : decode cX3_add 7 = .ok (.aload_n 1, 1) := by decide +kernel
theorem dX3_add_8 : decode cX3_add 8 = .ok (.getfield 29, 3) := by decide +kernel
theorem dX3_add_11 : decode cX3_add 11 = .ok (.aload_n 0, 1) := by decide +kernel
theorem dX3_add_12 : decode cX3_add 12 = .ok (.getfield 9, 3) := by decide +kernel
theorem dX3_add_15 : decode cX3_add 15 = .ok (.arraylength, 1) := by decide +kernel
theorem dX3_add_16 : decode cX3_add 16 = .ok (.if_icmp .ge 15, 3) := by decide +kernel
theorem dX3_add_19 : decode cX3_add 19 = .ok (.aload_n 0, 1) := by decide +kernel
theorem dX3_add_20 : decode cX3_add 20 = .ok (.getfield 9, 3) := by decide +kernel
theorem dX3_add_23 : decode cX3_add 23 = .ok (.aload_n 1, 1) := by decide +kernel
theorem dX3_add_24 : decode cX3_add 24 = .ok (.getfield 29, 3) := by decide +kernel
theorem dX3_add_27 : decode cX3_add 27 = .ok (.baload, 1) := by decide +kernel
theorem dX3_add_28 : decode cX3_add 28 = .ok (.ifCond .eq 4, 3) := by decide +kernel
theorem dX3_add_31 : decode cX3_add 31 = .ok (.return_, 1) := by decide +kernel
theorem dX3_add_32 : decode cX3_add 32 = .ok (.aload_n 0, 1) := by decide +kernel
theorem dX3_add_33 : decode cX3_add 33 = .ok (.getfield 21, 3) := by decide +kernel
theorem dX3_add_36 : decode cX3_add 36 = .ok (.aload_n 0, 1) := by decide +kernel
theorem dX3_add_37 : decode cX3_add 37 = .ok (.getfield 17, 3) := by decide +kernel
theorem dX3_add_40 : decode cX3_add 40 = .ok (.arraylength, 1) := by decide +kernel
theorem dX3_add_41 : decode cX3_add 41 = .ok (.if_icmp .lt 4, 3) := by decide +kernel
theorem dX3_add_44 : decode cX3_add 44 = .ok (.return_, 1) := by decide +kernel
theorem dX3_add_45 : decode cX3_add 45 = .ok (.aload_n 0, 1) := by decide +kernel
theorem dX3_add_46 : decode cX3_add 46 = .ok (.getfield 9, 3) := by decide +kernel
theorem dX3_add_49 : decode cX3_add 49 = .ok (.aload_n 1, 1) := by decide +kernel
theorem dX3_add_50 : decode cX3_add 50 = .ok (.getfield 29, 3) := by decide +kernel
theorem dX3_add_53 : decode cX3_add 53 = .ok (.iconst 1, 1) := by decide +kernel
theorem dX3_add_54 : decode cX3_add 54 = .ok (.bastore, 1) := by decide +kernel
theorem dX3_add_55 : decode cX3_add 55 = .ok (.aload_n 0, 1) := by decide +kernel
theorem dX3_add_56 : decode cX3_add 56 = .ok (.getfield 17, 3) := by decide +kernel
theorem dX3_add_59 : decode cX3_add 59 = .ok (.aload_n 0, 1) := by decide +kernel
theorem dX3_add_60 : decode cX3_add 60 = .ok (.getfield 21, 3) := by decide +kernel
theorem dX3_add_63 : decode cX3_add 63 = .ok (.aload_n 1, 1) := by decide +kernel
theorem dX3_add_64 : decode cX3_add 64 = .ok (.aastore, 1) := by decide +kernel
theorem dX3_add_65 : decode cX3_add 65 = .ok (.aload_n 0, 1) := by decide +kernel
theorem dX3_add_66 : decode cX3_add 66 = .ok (.dup, 1) := by decide +kernel
theorem dX3_add_67 : decode cX3_add 67 = .ok (.getfield 21, 3) := by decide +kernel
theorem dX3_add_70 : decode cX3_add 70 = .ok (.iconst 1, 1) := by decide +kernel
theorem dX3_add_71 : decode cX3_add 71 = .ok (.iadd, 1) := by decide +kernel
theorem dX3_add_72 : decode cX3_add 72 = .ok (.putfield 21, 3) := by decide +kernel
theorem dX3_add_75 : decode cX3_add 75 = .ok (.return_, 1) := by decide +kernel
def fX3_add (o : Nat) (v1 : Option Nat) (h : Hz) : Option (Unit × Hz) := b1 v1 fun a1 => (b1 (gI 5 0 a1 h) fun x2 => (if x2 < 0 then some ((), h) else (b1 (gI 5 0 a1 h) fun x4 => (b1 (gA 3 0 o h) fun a5 => (b1 (xN 14 a5 h) fun x6 => (if x6 ≤ x4 then some ((), h) else (b1 (gA 3 0 o h) fun a8 => (b1 (gI 5 0 a1 h) fun x9 => (b1 (xI 14 a8 x9 h) fun x10 => (if x10 = 0 then (b1 (gI 3 2 o h) fun x12 => (b1 (gA 3 1 o h) fun a13 => (b1 (xN 17 a13 h) fun x14 => (if x12 < x14 then (b1 (gA 3 0 o h) fun a16 => (b1 (gI 5 0 a1 h) fun x17 => (b1 (yZ a16 x17 1 h) fun s18 => (b1 (gA 3 1 o s18) fun a19 => (b1 (gI 3 2 o s18) fun x20 => (b1 (yP 17 5 a19 x20 (some a1) s18) fun s21 => (b1 (gI 3 2 o s21) fun x22 => (b1 (pI 3 2 o (x22 + 1) s21) fun s23 => some ((), s23))))))))) else some ((), h))))) else some ((), h)))))))))))
set_option maxHeartbeats 4000000 in
set_option maxRecDepth 100000 in
theorem wX3_add_0 {r0 : Unit} {h0 : Hz} (X : zX A D cy p s m args c cX3_add RX3 2) (hlk : meth.locks = false) (hr : meth.sig.returnType = none) (o : Nat) (v1 : Option Nat) (h : Hz) (H : Heap) (locs : List Loc) (ls : Array Slot) (hl : lv_has ls 2 [(0, .ref o), (1, va_rf v1)]) (hW : zW A cy D h H) (hS : va_S A s.heap H locs) (h : fX3_add o v1 h = some (r0, h0)) : W p l e ({ frames := 0, cells := 0, slots := 0, locals := 0 } : Room) s m args below meth c H locs 0 0 (MQ below (va_Qv (fun u => u = h0) (zB A D cy) A) args s 0 0 A) (F0 m 0 ls []) := by
  obtain ⟨hx, hb, hts, hown, hK9, hml, hN9, hA9⟩ := id X
  unfold fX3_add at h
  refine z_aload_n hx hb dX3_add_0 rfl (lv_at hl 1 rfl) ?_
  replace h := b1_some h
  obtain ⟨a1, ea1, h⟩ := h
  subst ea1
  replace h := b1_some h
  obtain ⟨x2, gx2, h⟩ := h
  refine z_getI X hW gx2 kX5 (by decide) (by decide) kf_X3_29 dX3_add_1 ?_
  refine lv_if_lt (tgt := 31) hx hb dX3_add_4 (by decide) (fun c3 => ?_) (fun c3 => ?_)
  · replace h := it_t h c3
    exact z_etv X hlk hr hW hS h (by decide) (by decide) dX3_add_31
  · replace h := it_f h c3
    refine lv_aload_n hx hb dX3_add_7 rfl (lv_at hl 1 rfl) ?_
    replace h := b1_some h
    obtain ⟨x4, gx4, h⟩ := h
    refine z_getI X hW gx4 kX5 (by decide) (by decide) kf_X3_29 dX3_add_8 ?_
    refine lv_aload_n hx hb dX3_add_11 rfl (lv_at hl 0 rfl) ?_
    replace h := b1_some h
    obtain ⟨a5, ga5, h⟩ := h
    refine z_getA X hW ga5 kX3 (by decide) (by decide) kf_X3_9 dX3_add_12 ?_
    replace h := b1_some h
    obtain ⟨x6, gx6, h⟩ := h
    refine z_alenZ X hW gx6 dX3_add_15 ?_
    refine lv_icmp_ge (tgt := 31) hx hb dX3_add_16 (by decide) (fun c7 => ?_) (fun c7 => ?_)
    · replace h := it_t h c7
      exact z_etv X hlk hr hW hS h (by decide) (by decide) dX3_add_31
    · replace h := it_f h c7
      refine lv_aload_n hx hb dX3_add_19 rfl (lv_at hl 0 rfl) ?_
      replace h := b1_some h
      obtain ⟨a8, ga8, h⟩ := h
      refine z_getA X hW ga8 kX3 (by decide) (by decide) kf_X3_9 dX3_add_20 ?_
      refine lv_aload_n hx hb dX3_add_23 rfl (lv_at hl 1 rfl) ?_
      replace h := b1_some h
      obtain ⟨x9, gx9, h⟩ := h
      refine z_getI X hW gx9 kX5 (by decide) (by decide) kf_X3_29 dX3_add_24 ?_
      replace h := b1_some h
      obtain ⟨x10, gx10, h⟩ := h
      refine z_aldZ X hW gx10 dX3_add_27 ?_
      refine lv_if_eq (tgt := 32) hx hb dX3_add_28 (by decide) (fun c11 => ?_) (fun c11 => ?_)
      · replace h := it_t h c11
        refine lv_aload_n hx hb dX3_add_32 rfl (lv_at hl 0 rfl) ?_
        replace h := b1_some h
        obtain ⟨x12, gx12, h⟩ := h
        refine z_getI X hW gx12 kX3 (by decide) (by decide) kf_X3_21 dX3_add_33 ?_
        refine lv_aload_n hx hb dX3_add_36 rfl (lv_at hl 0 rfl) ?_
        replace h := b1_some h
        obtain ⟨a13, ga13, h⟩ := h
        refine z_getA X hW ga13 kX3 (by decide) (by decide) kf_X3_17 dX3_add_37 ?_
        replace h := b1_some h
        obtain ⟨x14, gx14, h⟩ := h
        refine z_alenP X hW gx14 (by decide) (by decide) rfl dX3_add_40 ?_
        refine lv_icmp_lt (tgt := 45) hx hb dX3_add_41 (by decide) (fun c15 => ?_) (fun c15 => ?_)
        · replace h := it_t h c15
          refine lv_aload_n hx hb dX3_add_45 rfl (lv_at hl 0 rfl) ?_
          replace h := b1_some h
          obtain ⟨a16, ga16, h⟩ := h
          refine z_getA X hW ga16 kX3 (by decide) (by decide) kf_X3_9 dX3_add_46 ?_
          refine lv_aload_n hx hb dX3_add_49 rfl (lv_at hl 1 rfl) ?_
          replace h := b1_some h
          obtain ⟨x17, gx17, h⟩ := h
          refine z_getI X hW gx17 kX5 (by decide) (by decide) kf_X3_29 dX3_add_50 ?_
          refine lv_iconst (v := 1) hx hb dX3_add_53 (by decide) ?_
          replace h := b1_some h
          obtain ⟨s18, gs18, h⟩ := h
          refine z_astZ X hW hS gs18 dX3_add_54 (fun H locs hW hS => ?_)
          refine lv_aload_n hx hb dX3_add_55 rfl (lv_at hl 0 rfl) ?_
          replace h := b1_some h
          obtain ⟨a19, ga19, h⟩ := h
          refine z_getA X hW ga19 kX3 (by decide) (by decide) kf_X3_17 dX3_add_56 ?_
          refine lv_aload_n hx hb dX3_add_59 rfl (lv_at hl 0 rfl) ?_
          replace h := b1_some h
          obtain ⟨x20, gx20, h⟩ := h
          refine z_getI X hW gx20 kX3 (by decide) (by decide) kf_X3_21 dX3_add_60 ?_
          refine lv_aload_n hx hb dX3_add_63 rfl (lv_at hl 1 rfl) ?_
          replace h := b1_some h
          obtain ⟨s21, gs21, h⟩ := h
          refine z_astP X hW hS gs21 (by decide) (by decide) kX5 rfl dX3_add_64 (fun H locs hW hS => ?_)
          refine lv_aload_n hx hb dX3_add_65 rfl (lv_at hl 0 rfl) ?_
          refine lv_dup hx hb dX3_add_66 rfl ?_
          replace h := b1_some h
          obtain ⟨x22, gx22, h⟩ := h
          refine z_getI X hW gx22 kX3 (by decide) (by decide) kf_X3_21 dX3_add_67 ?_
          refine lv_iconst (v := 1) hx hb dX3_add_70 (by decide) ?_
          refine lv_iadd hx hb dX3_add_71 ?_
          replace h := b1_some h
          obtain ⟨s23, gs23, h⟩ := h
          refine z_putI X hW hS gs23 kX3 (by decide) (by decide) rfl (Or.inl rfl) kf_X3_21 dX3_add_72 (fun H locs hW hS => ?_)
          exact z_etv X hlk hr hW hS h (by decide) (by decide) dX3_add_75
        · replace h := it_f h c15
          exact z_etv X hlk hr hW hS h (by decide) (by decide) dX3_add_44
      · replace h := it_f h c11
        exact z_etv X hlk hr hW hS h (by decide) (by decide) dX3_add_31

set_option maxHeartbeats 4000000 in
set_option maxRecDepth 100000 in
theorem cX3_add_met {l : Launch} {A : Nat → Prop} {D : va_G} {cy : Nat → ClassId} {r0 : Unit} {h0 : Hz} {o : Nat} {v1 : Option Nat} {h : Hz} (g : fX3_add o v1 h = some (r0, h0)) : Met l yX3_add (Cond.code yX3_add cX3_add 2 none :: wT) ({ frames := 0, cells := 0, slots := 0, locals := 0 } : Room) (va_Pc [.ref o, va_rf v1] (zS A D cy h)) (va_Qv (fun u => u = h0) (zB A D cy) A) 0 0 A := by
  refine Met.ofW (cc := cX3_add) (maxL := 2) (ret := none) (by decide) rfl ?_
  intro p e s m args below meth c s₁ B hml hv
  obtain ⟨rfl, hW, hK, hN, hA⟩ := hv
  have X : zX A D cy p s m _ c cX3_add RX3 2 := ⟨B.exec, B.bytes, fun w hw => atoms_spec (ws := Cond.code yX3_add cX3_add 2 none :: wT) B.pre w (List.mem_cons_of_mem _ hw), findClass_of_methodNamed B.named, hK, hml, hN, hA⟩
  cases v1 with
  | none =>
    have hl := lv_entry [.ref o, va_rf none] (n := 2) (Nat.le_of_ble_eq_true rfl)
    rw [lg_entry_eq]
    generalize (lg_sl [.ref o, va_rf none] ++ List.replicate (2 - (lg_sl [.ref o, va_rf none]).length) Slot.unset).toArray = ls at hl ⊢
    have hl : lv_has ls 2 [(0, .ref o), (1, va_rf none)] := hl
    exact wX3_add_0 X B.notSynchronized B.returns o none _ _ _ _ (lv_sub hl [0, 1] rfl) hW va_S.rf g
  | some v1 =>
    have hl := lv_entry [.ref o, va_rf (some v1)] (n := 2) (Nat.le_of_ble_eq_true rfl)
    rw [lg_entry_eq]
    generalize (lg_sl [.ref o, va_rf (some v1)] ++ List.replicate (2 - (lg_sl [.ref o, va_rf (some v1)]).length) Slot.unset).toArray = ls at hl ⊢
    have hl : lv_has ls 2 [(0, .ref o), (1, va_rf (some v1))] := hl
    exact wX3_add_0 X B.notSynchronized B.returns o (some v1) _ _ _ _ (lv_sub hl [0, 1] rfl) hW va_S.rf g

theorem dX1_addBehind_0 : decode cX1_addBehind 0 = .ok (.aload_n 1, 1) := by decide +kernel
theorem dX1_addBehind_1 : decode cX1_addBehind 1 = .ok (.getfield 119, 3) := by decide +kernel
theorem dX1_addBehind_4 : decode cX1_addBehind 4 = .ok (.ifCond .lt 27, 3) := by decide +kernel
theorem dX1_addBehind_7 : decode cX1_addBehind 7 = .ok (.aload_n 1, 1) := by decide +kernel
theorem dX1_addBehind_8 : decode cX1_addBehind 8 = .ok (.getfield 119, 3) := by decide +kernel
theorem dX1_addBehind_11 : decode cX1_addBehind 11 = .ok (.aload_n 0, 1) := by decide +kernel
theorem dX1_addBehind_12 : decode cX1_addBehind 12 = .ok (.getfield 24, 3) := by decide +kernel
theorem dX1_addBehind_15 : decode cX1_addBehind 15 = .ok (.arraylength, 1) := by decide +kernel
theorem dX1_addBehind_16 : decode cX1_addBehind 16 = .ok (.if_icmp .ge 15, 3) := by decide +kernel
theorem dX1_addBehind_19 : decode cX1_addBehind 19 = .ok (.aload_n 1, 1) := by decide +kernel
theorem dX1_addBehind_20 : decode cX1_addBehind 20 = .ok (.getfield 119, 3) := by decide +kernel
theorem dX1_addBehind_23 : decode cX1_addBehind 23 = .ok (.aload_n 0, 1) := by decide +kernel
theorem dX1_addBehind_24 : decode cX1_addBehind 24 = .ok (.getfield 28, 3) := by decide +kernel
theorem dX1_addBehind_27 : decode cX1_addBehind 27 = .ok (.arraylength, 1) := by decide +kernel
theorem dX1_addBehind_28 : decode cX1_addBehind 28 = .ok (.if_icmp .lt 4, 3) := by decide +kernel
theorem dX1_addBehind_31 : decode cX1_addBehind 31 = .ok (.return_, 1) := by decide +kernel
theorem dX1_addBehind_32 : decode cX1_addBehind 32 = .ok (.aload_n 0, 1) := by decide +kernel
theorem dX1_addBehind_33 : decode cX1_addBehind 33 = .ok (.getfield 12, 3) := by decide +kernel
theorem dX1_addBehind_36 : decode cX1_addBehind 36 = .ok (.aload_n 1, 1) := by decide +kernel
theorem dX1_addBehind_37 : decode cX1_addBehind 37 = .ok (.invokevirtual 122, 3) := by decide +kernel
theorem dX1_addBehind_40 : decode cX1_addBehind 40 = .ok (.aload_n 0, 1) := by decide +kernel
theorem dX1_addBehind_41 : decode cX1_addBehind 41 = .ok (.getfield 24, 3) := by decide +kernel
theorem dX1_addBehind_44 : decode cX1_addBehind 44 = .ok (.aload_n 1, 1) := by decide +kernel
theorem dX1_addBehind_45 : decode cX1_addBehind 45 = .ok (.getfield 119, 3) := by decide +kernel
theorem dX1_addBehind_48 : decode cX1_addBehind 48 = .ok (.aload_n 2, 1) := by decide +kernel
theorem dX1_addBehind_49 : decode cX1_addBehind 49 = .ok (.aastore, 1) := by decide +kernel
theorem dX1_addBehind_50 : decode cX1_addBehind 50 = .ok (.aload_n 0, 1) := by decide +kernel
theorem dX1_addBehind_51 : decode cX1_addBehind 51 = .ok (.getfield 28, 3) := by decide +kernel
theorem dX1_addBehind_54 : decode cX1_addBehind 54 = .ok (.aload_n 1, 1) := by decide +kernel
theorem dX1_addBehind_55 : decode cX1_addBehind 55 = .ok (.getfield 119, 3) := by decide +kernel
theorem dX1_addBehind_58 : decode cX1_addBehind 58 = .ok (.aload_n 2, 1) := by decide +kernel
theorem dX1_addBehind_59 : decode cX1_addBehind 59 = .ok (.ifnonnull 7, 3) := by decide +kernel
theorem dX1_addBehind_62 : decode cX1_addBehind 62 = .ok (.iconst 0, 1) := by decide +kernel
theorem dX1_addBehind_63 : decode cX1_addBehind 63 = .ok (.goto 10, 3) := by decide +kernel
theorem dX1_addBehind_66 : decode cX1_addBehind 66 = .ok (.aload_n 0, 1) := by decide +kernel
theorem dX1_addBehind_67 : decode cX1_addBehind 67 = .ok (.aload_n 2, 1) := by decide +kernel
theorem dX1_addBehind_68 : decode cX1_addBehind 68 = .ok (.invokevirtual 125, 3) := by decide +kernel
theorem dX1_addBehind_71 : decode cX1_addBehind 71 = .ok (.iconst 1, 1) := by decide +kernel
theorem dX1_addBehind_72 : decode cX1_addBehind 72 = .ok (.iadd, 1) := by decide +kernel
theorem dX1_addBehind_73 : decode cX1_addBehind 73 = .ok (.iastore, 1) := by decide +kernel
theorem dX1_addBehind_74 : decode cX1_addBehind 74 = .ok (.return_, 1) := by decide +kernel
def fX1_addBehind (o : Nat) (v1 : Option Nat) (v2 : Option Nat) (h : Hz) : Option (Unit × Hz) := b1 v1 fun a1 => (b1 (gI 5 0 a1 h) fun x2 => (if x2 < 0 then some ((), h) else (b1 (gI 5 0 a1 h) fun x4 => (b1 (gA 1 2 o h) fun a5 => (b1 (xN 17 a5 h) fun x6 => (if x6 ≤ x4 then some ((), h) else (b1 (gI 5 0 a1 h) fun x8 => (b1 (gA 1 3 o h) fun a9 => (b1 (xN 12 a9 h) fun x10 => (if x8 < x10 then (b1 (gA 1 0 o h) fun a12 => (b1 (tg 3 a12 h) fun _ => (b2 (fX3_add a12 (some a1) h) fun _ s15 => (b1 (gA 1 2 o s15) fun a16 => (b1 (gI 5 0 a1 s15) fun x17 => (b1 (yP 17 5 a16 x17 v2 s15) fun s18 => (b1 (gA 1 3 o s18) fun a19 => (b1 (gI 5 0 a1 s18) fun x20 => (oe v2 ((b1 (yI a19 x20 0 s18) fun s22 => some ((), s22))) fun a21 => (b1 (tg 1 o s18) fun _ => (b2 (fX1_depthOf o (some a21) s18) fun x24 s25 => (b1 (yI a19 x20 (x24 + 1) s25) fun s26 => some ((), s26))))))))))))) else some ((), h)))))))))))
set_option maxHeartbeats 4000000 in
set_option maxRecDepth 100000 in
theorem wX1_addBehind_0 {r0 : Unit} {h0 : Hz} (X : zX A D cy p s m args c cX1_addBehind RX1 3) (hlk : meth.locks = false) (hr : meth.sig.returnType = none) (o : Nat) (v1 : Option Nat) (v2 : Option Nat) (h : Hz) (H : Heap) (locs : List Loc) (ls : Array Slot) (hl : lv_has ls 3 [(0, .ref o), (1, va_rf v1), (2, va_rf v2)]) (hW : zW A cy D h H) (hS : va_S A s.heap H locs) (h : fX1_addBehind o v1 v2 h = some (r0, h0)) : W p l e ({ frames := 1, cells := 0, slots := 0, locals := 21 } : Room) s m args below meth c H locs 0 0 (MQ below (va_Qv (fun u => u = h0) (zB A D cy) A) args s 0 0 A) (F0 m 0 ls []) := by
  obtain ⟨hx, hb, hts, hown, hK9, hml, hN9, hA9⟩ := id X
  unfold fX1_addBehind at h
  refine z_aload_n hx hb dX1_addBehind_0 rfl (lv_at hl 1 rfl) ?_
  replace h := b1_some h
  obtain ⟨a1, ea1, h⟩ := h
  subst ea1
  replace h := b1_some h
  obtain ⟨x2, gx2, h⟩ := h
  refine z_getI X hW gx2 kX5 (by decide) (by decide) kf_X1_119 dX1_addBehind_1 ?_
  refine lv_if_lt (tgt := 31) hx hb dX1_addBehind_4 (by decide) (fun c3 => ?_) (fun c3 => ?_)
  · replace h := it_t h c3
    exact z_etv X hlk hr hW hS h (by decide) (by decide) dX1_addBehind_31
  · replace h := it_f h c3
    refine lv_aload_n hx hb dX1_addBehind_7 rfl (lv_at hl 1 rfl) ?_
    replace h := b1_some h
    obtain ⟨x4, gx4, h⟩ := h
    refine z_getI X hW gx4 kX5 (by decide) (by decide) kf_X1_119 dX1_addBehind_8 ?_
    refine lv_aload_n hx hb dX1_addBehind_11 rfl (lv_at hl 0 rfl) ?_
    replace h := b1_some h
    obtain ⟨a5, ga5, h⟩ := h
    refine z_getA X hW ga5 kX1 (by decide) (by decide) kf_X1_24 dX1_addBehind_12 ?_
    replace h := b1_some h
    obtain ⟨x6, gx6, h⟩ := h
    refine z_alenP X hW gx6 (by decide) (by decide) rfl dX1_addBehind_15 ?_
    refine lv_icmp_ge (tgt := 31) hx hb dX1_addBehind_16 (by decide) (fun c7 => ?_) (fun c7 => ?_)
    · replace h := it_t h c7
      exact z_etv X hlk hr hW hS h (by decide) (by decide) dX1_addBehind_31
    · replace h := it_f h c7
      refine lv_aload_n hx hb dX1_addBehind_19 rfl (lv_at hl 1 rfl) ?_
      replace h := b1_some h
      obtain ⟨x8, gx8, h⟩ := h
      refine z_getI X hW gx8 kX5 (by decide) (by decide) kf_X1_119 dX1_addBehind_20 ?_
      refine lv_aload_n hx hb dX1_addBehind_23 rfl (lv_at hl 0 rfl) ?_
      replace h := b1_some h
      obtain ⟨a9, ga9, h⟩ := h
      refine z_getA X hW ga9 kX1 (by decide) (by decide) kf_X1_28 dX1_addBehind_24 ?_
      replace h := b1_some h
      obtain ⟨x10, gx10, h⟩ := h
      refine z_alenI X hW gx10 dX1_addBehind_27 ?_
      refine lv_icmp_lt (tgt := 32) hx hb dX1_addBehind_28 (by decide) (fun c11 => ?_) (fun c11 => ?_)
      · replace h := it_t h c11
        refine lv_aload_n hx hb dX1_addBehind_32 rfl (lv_at hl 0 rfl) ?_
        replace h := b1_some h
        obtain ⟨a12, ga12, h⟩ := h
        refine z_getA X hW ga12 kX1 (by decide) (by decide) kf_X1_12 dX1_addBehind_33 ?_
        refine lv_aload_n hx hb dX1_addBehind_36 rfl (lv_at hl 1 rfl) ?_
        replace h := b1_some h
        obtain ⟨q13, gq13, h⟩ := h
        replace h := b2_some h
        obtain ⟨_ur14, s15, gs15, h⟩ := h
        refine z_callVv (rest := []) X hW hS (cX3_add_met gs15) kb_X3_add kv_X3_add kl_X1_122 (it_v gq13).1 kX3 rfl rfl ⟨Nat.le_of_ble_eq_true rfl, Nat.le_of_ble_eq_true rfl⟩ rfl rfl (by decide) hl.1 dX1_addBehind_37 ⟨(by decide), (by decide)⟩ (fun H locs hW hS => ?_)
        refine lv_aload_n hx hb dX1_addBehind_40 rfl (lv_at hl 0 rfl) ?_
        replace h := b1_some h
        obtain ⟨a16, ga16, h⟩ := h
        refine z_getA X hW ga16 kX1 (by decide) (by decide) kf_X1_24 dX1_addBehind_41 ?_
        refine lv_aload_n hx hb dX1_addBehind_44 rfl (lv_at hl 1 rfl) ?_
        replace h := b1_some h
        obtain ⟨x17, gx17, h⟩ := h
        refine z_getI X hW gx17 kX5 (by decide) (by decide) kf_X1_119 dX1_addBehind_45 ?_
        refine z_aload_n hx hb dX1_addBehind_48 rfl (lv_at hl 2 rfl) ?_
        replace h := b1_some h
        obtain ⟨s18, gs18, h⟩ := h
        refine z_astP X hW hS gs18 (by decide) (by decide) kX5 rfl dX1_addBehind_49 (fun H locs hW hS => ?_)
        refine lv_aload_n hx hb dX1_addBehind_50 rfl (lv_at hl 0 rfl) ?_
        replace h := b1_some h
        obtain ⟨a19, ga19, h⟩ := h
        refine z_getA X hW ga19 kX1 (by decide) (by decide) kf_X1_28 dX1_addBehind_51 ?_
        refine lv_aload_n hx hb dX1_addBehind_54 rfl (lv_at hl 1 rfl) ?_
        replace h := b1_some h
        obtain ⟨x20, gx20, h⟩ := h
        refine z_getI X hW gx20 kX5 (by decide) (by decide) kf_X1_119 dX1_addBehind_55 ?_
        refine z_aload_n hx hb dX1_addBehind_58 rfl (lv_at hl 2 rfl) ?_
        cases v2 with
        | none =>
          replace h := oe_n h
          have hl : lv_has ls 3 [(0, .ref o), (1, .ref a1), (2, .null)] := hl
          refine lv_ifnonnullN hx hb dX1_addBehind_59 ?_
          refine lv_iconst (v := 0) hx hb dX1_addBehind_62 (by decide) ?_
          refine lv_goto (tgt := 73) hx hb dX1_addBehind_63 (by decide) ?_
          replace h := b1_some h
          obtain ⟨s22, gs22, h⟩ := h
          refine z_astI X hW hS gs22 dX1_addBehind_73 (fun H locs hW hS => ?_)
          exact z_etv X hlk hr hW hS h (by decide) (by decide) dX1_addBehind_74
        | some a21 =>
          replace h := oe_s h
          have hl : lv_has ls 3 [(0, .ref o), (1, .ref a1), (2, .ref a21)] := hl
          refine lv_ifnonnull (tgt := 66) hx hb dX1_addBehind_59 (by decide) ?_
          refine lv_aload_n hx hb dX1_addBehind_66 rfl (lv_at hl 0 rfl) ?_
          refine lv_aload_n hx hb dX1_addBehind_67 rfl (lv_at hl 2 rfl) ?_
          replace h := b1_some h
          obtain ⟨q23, gq23, h⟩ := h
          replace h := b2_some h
          obtain ⟨x24, s25, gs25, h⟩ := h
          refine z_callVi (rest := [.int x20, .ref a19]) X hW hS (cX1_depthOf_met gs25) kb_X1_depthOf kv_X1_depthOf kl_X1_125 (it_v gq23).1 kX1 rfl rfl ⟨Nat.le_of_ble_eq_true rfl, Nat.le_of_ble_eq_true rfl⟩ rfl rfl (Nat.le_of_ble_eq_true rfl) hl.1 dX1_addBehind_68 ⟨(by decide), (by decide)⟩ (fun H locs hW hS => ?_)
          refine lv_iconst (v := 1) hx hb dX1_addBehind_71 (by decide) ?_
          refine lv_iadd hx hb dX1_addBehind_72 ?_
          replace h := b1_some h
          obtain ⟨s26, gs26, h⟩ := h
          refine z_astI X hW hS gs26 dX1_addBehind_73 (fun H locs hW hS => ?_)
          exact z_etv X hlk hr hW hS h (by decide) (by decide) dX1_addBehind_74
      · replace h := it_f h c11
        exact z_etv X hlk hr hW hS h (by decide) (by decide) dX1_addBehind_31

set_option maxHeartbeats 4000000 in
set_option maxRecDepth 100000 in
theorem cX1_addBehind_met {l : Launch} {A : Nat → Prop} {D : va_G} {cy : Nat → ClassId} {r0 : Unit} {h0 : Hz} {o : Nat} {v1 : Option Nat} {v2 : Option Nat} {h : Hz} (g : fX1_addBehind o v1 v2 h = some (r0, h0)) : Met l yX1_addBehind (Cond.code yX1_addBehind cX1_addBehind 3 none :: wT) ({ frames := 1, cells := 0, slots := 0, locals := 21 } : Room) (va_Pc [.ref o, va_rf v1, va_rf v2] (zS A D cy h)) (va_Qv (fun u => u = h0) (zB A D cy) A) 0 0 A := by
  refine Met.ofW (cc := cX1_addBehind) (maxL := 3) (ret := none) (by decide) rfl ?_
  intro p e s m args below meth c s₁ B hml hv
  obtain ⟨rfl, hW, hK, hN, hA⟩ := hv
  have X : zX A D cy p s m _ c cX1_addBehind RX1 3 := ⟨B.exec, B.bytes, fun w hw => atoms_spec (ws := Cond.code yX1_addBehind cX1_addBehind 3 none :: wT) B.pre w (List.mem_cons_of_mem _ hw), findClass_of_methodNamed B.named, hK, hml, hN, hA⟩
  cases v1 with
  | none =>
    cases v2 with
    | none =>
      have hl := lv_entry [.ref o, va_rf none, va_rf none] (n := 3) (Nat.le_of_ble_eq_true rfl)
      rw [lg_entry_eq]
      generalize (lg_sl [.ref o, va_rf none, va_rf none] ++ List.replicate (3 - (lg_sl [.ref o, va_rf none, va_rf none]).length) Slot.unset).toArray = ls at hl ⊢
      have hl : lv_has ls 3 [(0, .ref o), (1, va_rf none), (2, va_rf none)] := hl
      exact wX1_addBehind_0 X B.notSynchronized B.returns o none none _ _ _ _ (lv_sub hl [0, 1, 2] rfl) hW va_S.rf g
    | some v2 =>
      have hl := lv_entry [.ref o, va_rf none, va_rf (some v2)] (n := 3) (Nat.le_of_ble_eq_true rfl)
      rw [lg_entry_eq]
      generalize (lg_sl [.ref o, va_rf none, va_rf (some v2)] ++ List.replicate (3 - (lg_sl [.ref o, va_rf none, va_rf (some v2)]).length) Slot.unset).toArray = ls at hl ⊢
      have hl : lv_has ls 3 [(0, .ref o), (1, va_rf none), (2, va_rf (some v2))] := hl
      exact wX1_addBehind_0 X B.notSynchronized B.returns o none (some v2) _ _ _ _ (lv_sub hl [0, 1, 2] rfl) hW va_S.rf g
  | some v1 =>
    cases v2 with
    | none =>
      have hl := lv_entry [.ref o, va_rf (some v1), va_rf none] (n := 3) (Nat.le_of_ble_eq_true rfl)
      rw [lg_entry_eq]
      generalize (lg_sl [.ref o, va_rf (some v1), va_rf none] ++ List.replicate (3 - (lg_sl [.ref o, va_rf (some v1), va_rf none]).length) Slot.unset).toArray = ls at hl ⊢
      have hl : lv_has ls 3 [(0, .ref o), (1, va_rf (some v1)), (2, va_rf none)] := hl
      exact wX1_addBehind_0 X B.notSynchronized B.returns o (some v1) none _ _ _ _ (lv_sub hl [0, 1, 2] rfl) hW va_S.rf g
    | some v2 =>
      have hl := lv_entry [.ref o, va_rf (some v1), va_rf (some v2)] (n := 3) (Nat.le_of_ble_eq_true rfl)
      rw [lg_entry_eq]
      generalize (lg_sl [.ref o, va_rf (some v1), va_rf (some v2)] ++ List.replicate (3 - (lg_sl [.ref o, va_rf (some v1), va_rf (some v2)]).length) Slot.unset).toArray = ls at hl ⊢
      have hl : lv_has ls 3 [(0, .ref o), (1, va_rf (some v1)), (2, va_rf (some v2))] := hl
      exact wX1_addBehind_0 X B.notSynchronized B.returns o (some v1) (some v2) _ _ _ _ (lv_sub hl [0, 1, 2] rfl) hW va_S.rf g

theorem dX6_find_0 : decode cX6_find 0 = .ok (.iload_n 1, 1) := by decide +kernel
theorem dX6_find_1 : decode cX6_find 1 = .ok (.ifCond .lt 20, 3) := by decide +kernel
theorem dX6_find_4 : decode cX6_find 4 = .ok (.iload_n 1, 1) := by decide +kernel
theorem dX6_find_5 : decode cX6_find 5 = .ok (.aload_n 0, 1) := by decide +kernel
theorem dX6_find_6 : decode cX6_find 6 = .ok (.getfield 17, 3) := by decide +kernel
theorem dX6_find_9 : decode cX6_find 9 = .ok (.if_icmp .ge 12, 3) := by decide +kernel
theorem dX6_find_12 : decode cX6_find 12 = .ok (.iload_n 1, 1) := by decide +kernel
theorem dX6_find_13 : decode cX6_find 13 = .ok (.aload_n 0, 1) := by decide +kernel
theorem dX6_find_14 : decode cX6_find 14 = .ok (.getfield 11, 3) := by decide +kernel
theorem dX6_find_17 : decode cX6_find 17 = .ok (.arraylength, 1) := by decide +kernel
theorem dX6_find_18 : decode cX6_find 18 = .ok (.if_icmp .lt 5, 3) := by decide +kernel
theorem dX6_find_21 : decode cX6_find 21 = .ok (.aconst_null, 1) := by decide +kernel
theorem dX6_find_22 : decode cX6_find 22 = .ok (.areturn, 1) := by decide +kernel
theorem dX6_find_23 : decode cX6_find 23 = .ok (.aload_n 0, 1) := by decide +kernel
theorem dX6_find_24 : decode cX6_find 24 = .ok (.getfield 11, 3) := by decide +kernel
theorem dX6_find_27 : decode cX6_find 27 = .ok (.iload_n 1, 1) := by decide +kernel
theorem dX6_find_28 : decode cX6_find 28 = .ok (.aaload, 1) := by decide +kernel
theorem dX6_find_29 : decode cX6_find 29 = .ok (.astore_n 2, 1) := by decide +kernel
theorem dX6_find_30 : decode cX6_find 30 = .ok (.aload_n 2, 1) := by decide +kernel
theorem dX6_find_31 : decode cX6_find 31 = .ok (.ifnull 14, 3) := by decide +kernel
theorem dX6_find_34 : decode cX6_find 34 = .ok (.aload_n 2, 1) := by decide +kernel
theorem dX6_find_35 : decode cX6_find 35 = .ok (.getfield 28, 3) := by decide +kernel
theorem dX6_find_38 : decode cX6_find 38 = .ok (.ifCond .eq 7, 3) := by decide +kernel
theorem dX6_find_41 : decode cX6_find 41 = .ok (.aload_n 2, 1) := by decide +kernel
theorem dX6_find_42 : decode cX6_find 42 = .ok (.goto 4, 3) := by decide +kernel
theorem dX6_find_45 : decode cX6_find 45 = .ok (.aconst_null, 1) := by decide +kernel
theorem dX6_find_46 : decode cX6_find 46 = .ok (.areturn, 1) := by decide +kernel
def fX6_find (o : Nat) (v1 : Int32) (h : Hz) : Option (Option Nat × Hz) := (if v1 < 0 then some (none, h) else (b1 (gI 6 1 o h) fun x2 => (if x2 ≤ v1 then some (none, h) else (b1 (gA 6 0 o h) fun a4 => (b1 (xN 17 a4 h) fun x5 => (if v1 < x5 then (b1 (gA 6 0 o h) fun a7 => (b1 (xP 17 a7 v1 h) fun r8 => (oe r8 (some (none, h)) fun a9 => (b1 (gI 5 10 a9 h) fun x10 => (if x10 = 0 then some (none, h) else some ((some a9), h)))))) else some (none, h)))))))
set_option maxHeartbeats 4000000 in
set_option maxRecDepth 100000 in
theorem wX6_find_0 {r0 : Option Nat} {h0 : Hz} (X : zX A D cy p s m args c cX6_find RX6 3) (hlk : meth.locks = false) (hr : meth.sig.returnType = (some (.object "FarHold$Thing"))) (o : Nat) (v1 : Int32) (h : Hz) (H : Heap) (locs : List Loc) (ls : Array Slot) (hl : lv_has ls 3 [(0, .ref o), (1, .int v1)]) (hW : zW A cy D h H) (hS : va_S A s.heap H locs) (h : fX6_find o v1 h = some (r0, h0)) : W p l e ({ frames := 0, cells := 0, slots := 0, locals := 0 } : Room) s m args below meth c H locs 0 0 (MQ below (va_Qq (fun r1 u => r1 = r0 ∧ u = h0) (zB A D cy) A) args s 0 0 A) (F0 m 0 ls []) := by
  obtain ⟨hx, hb, hts, hown, hK9, hml, hN9, hA9⟩ := id X
  unfold fX6_find at h
  refine lv_iload_n hx hb dX6_find_0 rfl (lv_at hl 1 rfl) ?_
  refine lv_if_lt (tgt := 21) hx hb dX6_find_1 (by decide) (fun c1 => ?_) (fun c1 => ?_)
  · replace h := it_t h c1
    refine lv_null hx hb dX6_find_21 ?_
    exact z_eta (v := none) X hlk hr hW hS h (by decide) (by decide) dX6_find_22
  · replace h := it_f h c1
    refine lv_iload_n hx hb dX6_find_4 rfl (lv_at hl 1 rfl) ?_
    refine lv_aload_n hx hb dX6_find_5 rfl (lv_at hl 0 rfl) ?_
    replace h := b1_some h
    obtain ⟨x2, gx2, h⟩ := h
    refine z_getI X hW gx2 kX6 (by decide) (by decide) kf_X6_17 dX6_find_6 ?_
    refine lv_icmp_ge (tgt := 21) hx hb dX6_find_9 (by decide) (fun c3 => ?_) (fun c3 => ?_)
    · replace h := it_t h c3
      refine lv_null hx hb dX6_find_21 ?_
      exact z_eta (v := none) X hlk hr hW hS h (by decide) (by decide) dX6_find_22
    · replace h := it_f h c3
      refine lv_iload_n hx hb dX6_find_12 rfl (lv_at hl 1 rfl) ?_
      refine lv_aload_n hx hb dX6_find_13 rfl (lv_at hl 0 rfl) ?_
      replace h := b1_some h
      obtain ⟨a4, ga4, h⟩ := h
      refine z_getA X hW ga4 kX6 (by decide) (by decide) kf_X6_11 dX6_find_14 ?_
      replace h := b1_some h
      obtain ⟨x5, gx5, h⟩ := h
      refine z_alenP X hW gx5 (by decide) (by decide) rfl dX6_find_17 ?_
      refine lv_icmp_lt (tgt := 23) hx hb dX6_find_18 (by decide) (fun c6 => ?_) (fun c6 => ?_)
      · replace h := it_t h c6
        refine lv_aload_n hx hb dX6_find_23 rfl (lv_at hl 0 rfl) ?_
        replace h := b1_some h
        obtain ⟨a7, ga7, h⟩ := h
        refine z_getA X hW ga7 kX6 (by decide) (by decide) kf_X6_11 dX6_find_24 ?_
        refine lv_iload_n hx hb dX6_find_27 rfl (lv_at hl 1 rfl) ?_
        replace h := b1_some h
        obtain ⟨r8, gr8, h⟩ := h
        refine z_aldP X hW gr8 (by decide) (by decide) rfl dX6_find_28 ?_
        refine z_astore_n (lv' := [(2, va_rf r8), (0, .ref o), (1, .int v1)]) hx hb dX6_find_29 rfl hl (by decide) rfl (fun ls hl => ?_)
        refine z_aload_n hx hb dX6_find_30 rfl (lv_at hl 0 rfl) ?_
        cases r8 with
        | none =>
          replace h := oe_n h
          have hl : lv_has ls 3 [(2, .null), (0, .ref o), (1, .int v1)] := hl
          refine lv_ifnullN (tgt := 45) hx hb dX6_find_31 (by decide) ?_
          refine lv_null hx hb dX6_find_45 ?_
          exact z_eta (v := none) X hlk hr hW hS h (by decide) (by decide) dX6_find_46
        | some a9 =>
          replace h := oe_s h
          have hl : lv_has ls 3 [(2, .ref a9), (0, .ref o), (1, .int v1)] := hl
          refine lv_ifnull hx hb dX6_find_31 ?_
          refine lv_aload_n hx hb dX6_find_34 rfl (lv_at hl 0 rfl) ?_
          replace h := b1_some h
          obtain ⟨x10, gx10, h⟩ := h
          refine z_getI X hW gx10 kX5 (by decide) (by decide) kf_X6_28 dX6_find_35 ?_
          refine lv_if_eq (tgt := 45) hx hb dX6_find_38 (by decide) (fun c11 => ?_) (fun c11 => ?_)
          · replace h := it_t h c11
            refine lv_null hx hb dX6_find_45 ?_
            exact z_eta (v := none) X hlk hr hW hS h (by decide) (by decide) dX6_find_46
          · replace h := it_f h c11
            refine lv_aload_n hx hb dX6_find_41 rfl (lv_at hl 0 rfl) ?_
            refine lv_goto (tgt := 46) hx hb dX6_find_42 (by decide) ?_
            exact z_eta (v := (some a9)) X hlk hr hW hS h (by decide) (by decide) dX6_find_46
      · replace h := it_f h c6
        refine lv_null hx hb dX6_find_21 ?_
        exact z_eta (v := none) X hlk hr hW hS h (by decide) (by decide) dX6_find_22

set_option maxHeartbeats 4000000 in
set_option maxRecDepth 100000 in
theorem cX6_find_met {l : Launch} {A : Nat → Prop} {D : va_G} {cy : Nat → ClassId} {r0 : Option Nat} {h0 : Hz} {o : Nat} {v1 : Int32} {h : Hz} (g : fX6_find o v1 h = some (r0, h0)) : Met l yX6_find (Cond.code yX6_find cX6_find 3 (some (.object "FarHold$Thing")) :: wT) ({ frames := 0, cells := 0, slots := 0, locals := 0 } : Room) (va_Pc [.ref o, .int v1] (zS A D cy h)) (va_Qq (fun r1 u => r1 = r0 ∧ u = h0) (zB A D cy) A) 0 0 A := by
  refine Met.ofW (cc := cX6_find) (maxL := 3) (ret := (some (.object "FarHold$Thing"))) (by decide) rfl ?_
  intro p e s m args below meth c s₁ B hml hv
  obtain ⟨rfl, hW, hK, hN, hA⟩ := hv
  have X : zX A D cy p s m _ c cX6_find RX6 3 := ⟨B.exec, B.bytes, fun w hw => atoms_spec (ws := Cond.code yX6_find cX6_find 3 (some (.object "FarHold$Thing")) :: wT) B.pre w (List.mem_cons_of_mem _ hw), findClass_of_methodNamed B.named, hK, hml, hN, hA⟩
  have hl := lv_entry [.ref o, .int v1] (n := 3) (Nat.le_of_ble_eq_true rfl)
  rw [lg_entry_eq]
  generalize (lg_sl [.ref o, .int v1] ++ List.replicate (3 - (lg_sl [.ref o, .int v1]).length) Slot.unset).toArray = ls at hl ⊢
  have hl : lv_has ls 3 [(0, .ref o), (1, .int v1)] := hl
  exact wX6_find_0 X B.notSynchronized B.returns o v1 _ _ _ _ (lv_sub hl [0, 1] rfl) hW va_S.rf g

theorem dX6_size_0 : decode cX6_size 0 = .ok (.aload_n 0, 1) := by decide +kernel
theorem dX6_size_1 : decode cX6_size 1 = .ok (.getfield 17, 3) := by decide +kernel
theorem dX6_size_4 : decode cX6_size 4 = .ok (.ireturn, 1) := by decide +kernel
def fX6_size (o : Nat) (h : Hz) : Option (Int32 × Hz) := (b1 (gI 6 1 o h) fun x1 => some (x1, h))
set_option maxHeartbeats 4000000 in
set_option maxRecDepth 100000 in
theorem wX6_size_0 {r0 : Int32} {h0 : Hz} (X : zX A D cy p s m args c cX6_size RX6 1) (hlk : meth.locks = false) (hr : meth.sig.returnType = (some .int)) (o : Nat) (h : Hz) (H : Heap) (locs : List Loc) (ls : Array Slot) (hl : lv_has ls 1 [(0, .ref o)]) (hW : zW A cy D h H) (hS : va_S A s.heap H locs) (h : fX6_size o h = some (r0, h0)) : W p l e ({ frames := 0, cells := 0, slots := 0, locals := 0 } : Room) s m args below meth c H locs 0 0 (MQ below (va_Qi (fun r1 u => r1 = r0 ∧ u = h0) (zB A D cy) A) args s 0 0 A) (F0 m 0 ls []) := by
  obtain ⟨hx, hb, hts, hown, hK9, hml, hN9, hA9⟩ := id X
  unfold fX6_size at h
  refine lv_aload_n hx hb dX6_size_0 rfl (lv_at hl 0 rfl) ?_
  replace h := b1_some h
  obtain ⟨x1, gx1, h⟩ := h
  refine z_getI X hW gx1 kX6 (by decide) (by decide) kf_X6_17 dX6_size_1 ?_
  exact z_eti X hlk hr hW hS h (by decide) (by decide) dX6_size_4

set_option maxHeartbeats 4000000 in
set_option maxRecDepth 100000 in
theorem cX6_size_met {l : Launch} {A : Nat → Prop} {D : va_G} {cy : Nat → ClassId} {r0 : Int32} {h0 : Hz} {o : Nat} {h : Hz} (g : fX6_size o h = some (r0, h0)) : Met l yX6_size (Cond.code yX6_size cX6_size 1 (some .int) :: wT) ({ frames := 0, cells := 0, slots := 0, locals := 0 } : Room) (va_Pc [.ref o] (zS A D cy h)) (va_Qi (fun r1 u => r1 = r0 ∧ u = h0) (zB A D cy) A) 0 0 A := by
  refine Met.ofW (cc := cX6_size) (maxL := 1) (ret := (some .int)) (by decide) rfl ?_
  intro p e s m args below meth c s₁ B hml hv
  obtain ⟨rfl, hW, hK, hN, hA⟩ := hv
  have X : zX A D cy p s m _ c cX6_size RX6 1 := ⟨B.exec, B.bytes, fun w hw => atoms_spec (ws := Cond.code yX6_size cX6_size 1 (some .int) :: wT) B.pre w (List.mem_cons_of_mem _ hw), findClass_of_methodNamed B.named, hK, hml, hN, hA⟩
  have hl := lv_entry [.ref o] (n := 1) (Nat.le_of_ble_eq_true rfl)
  rw [lg_entry_eq]
  generalize (lg_sl [.ref o] ++ List.replicate (1 - (lg_sl [.ref o]).length) Slot.unset).toArray = ls at hl ⊢
  have hl : lv_has ls 1 [(0, .ref o)] := hl
  exact wX6_size_0 X B.notSynchronized B.returns o _ _ _ _ (lv_sub hl [0] rfl) hW va_S.rf g

theorem dX1_addNextByNumbers_0 : decode cX1_addNextByNumbers 0 = .ok (.iconst 0, 1) := by decide +kernel
theorem dX1_addNextByNumbers_1 : decode cX1_addNextByNumbers 1 = .ok (.istore_n 3, 1) := by decide +kernel
theorem dX1_addNextByNumbers_2 : decode cX1_addNextByNumbers 2 = .ok (.aload_n 0, 1) := by decide +kernel
theorem dX1_addNextByNumbers_3 : decode cX1_addNextByNumbers 3 = .ok (.getfield 32, 3) := by decide +kernel
theorem dX1_addNextByNumbers_6 : decode cX1_addNextByNumbers 6 = .ok (.ifCond .le 86, 3) := by decide +kernel
theorem dX1_addNextByNumbers_9 : decode cX1_addNextByNumbers 9 = .ok (.iload_n 3, 1) := by decide +kernel
theorem dX1_addNextByNumbers_10 : decode cX1_addNextByNumbers 10 = .ok (.aload_n 2, 1) := by decide +kernel
theorem dX1_addNextByNumbers_11 : decode cX1_addNextByNumbers 11 = .ok (.invokevirtual 43, 3) := by decide +kernel
theorem dX1_addNextByNumbers_14 : decode cX1_addNextByNumbers 14 = .ok (.if_icmp .ge 78, 3) := by decide +kernel
theorem dX1_addNextByNumbers_17 : decode cX1_addNextByNumbers 17 = .ok (.iload_n 3, 1) := by decide +kernel
theorem dX1_addNextByNumbers_18 : decode cX1_addNextByNumbers 18 = .ok (.aload_n 0, 1) := by decide +kernel
theorem dX1_addNextByNumbers_19 : decode cX1_addNextByNumbers 19 = .ok (.getfield 18, 3) := by decide +kernel
theorem dX1_addNextByNumbers_22 : decode cX1_addNextByNumbers 22 = .ok (.arraylength, 1) := by decide +kernel
theorem dX1_addNextByNumbers_23 : decode cX1_addNextByNumbers 23 = .ok (.if_icmp .ge 69, 3) := by decide +kernel
theorem dX1_addNextByNumbers_26 : decode cX1_addNextByNumbers 26 = .ok (.aload_n 0, 1) := by decide +kernel
theorem dX1_addNextByNumbers_27 : decode cX1_addNextByNumbers 27 = .ok (.getfield 18, 3) := by decide +kernel
theorem dX1_addNextByNumbers_30 : decode cX1_addNextByNumbers 30 = .ok (.iload_n 3, 1) := by decide +kernel
theorem dX1_addNextByNumbers_31 : decode cX1_addNextByNumbers 31 = .ok (.baload, 1) := by decide +kernel
theorem dX1_addNextByNumbers_32 : decode cX1_addNextByNumbers 32 = .ok (.ifCond .ne 6, 3) := by decide +kernel
theorem dX1_addNextByNumbers_35 : decode cX1_addNextByNumbers 35 = .ok (.goto 51, 3) := by decide +kernel
theorem dX1_addNextByNumbers_38 : decode cX1_addNextByNumbers 38 = .ok (.aload_n 0, 1) := by decide +kernel
theorem dX1_addNextByNumbers_39 : decode cX1_addNextByNumbers 39 = .ok (.getfield 18, 3) := by decide +kernel
theorem dX1_addNextByNumbers_42 : decode cX1_addNextByNumbers 42 = .ok (.iload_n 3, 1) := by decide +kernel
theorem dX1_addNextByNumbers_43 : decode cX1_addNextByNumbers 43 = .ok (.iconst 0, 1) := by decide +kernel
theorem dX1_addNextByNumbers_44 : decode cX1_addNextByNumbers 44 = .ok (.bastore, 1) := by decide +kernel
theorem dX1_addNextByNumbers_45 : decode cX1_addNextByNumbers 45 = .ok (.aload_n 0, 1) := by decide +kernel
theorem dX1_addNextByNumbers_46 : decode cX1_addNextByNumbers 46 = .ok (.dup, 1) := by decide +kernel
theorem dX1_addNextByNumbers_47 : decode cX1_addNextByNumbers 47 = .ok (.getfield 32, 3) := by decide +kernel
theorem dX1_addNextByNumbers_50 : decode cX1_addNextByNumbers 50 = .ok (.iconst 1, 1) := by decide +kernel
theorem dX1_addNextByNumbers_51 : decode cX1_addNextByNumbers 51 = .ok (.isub, 1) := by decide +kernel
theorem dX1_addNextByNumbers_52 : decode cX1_addNextByNumbers 52 = .ok (.putfield 32, 3) := by decide +kernel
theorem dX1_addNextByNumbers_55 : decode cX1_addNextByNumbers 55 = .ok (.aload_n 2, 1) := by decide +kernel
theorem dX1_addNextByNumbers_56 : decode cX1_addNextByNumbers 56 = .ok (.iload_n 3, 1) := by decide +kernel
theorem dX1_addNextByNumbers_57 : decode cX1_addNextByNumbers 57 = .ok (.invokevirtual 49, 3) := by decide +kernel
theorem dX1_addNextByNumbers_60 : decode cX1_addNextByNumbers 60 = .ok (.astore 4, 2) := by decide +kernel
theorem dX1_addNextByNumbers_62 : decode cX1_addNextByNumbers 62 = .ok (.aload 4, 2) := by decide +kernel
theorem dX1_addNextByNumbers_64 : decode cX1_addNextByNumbers 64 = .ok (.ifnull 22, 3) := by decide +kernel
theorem dX1_addNextByNumbers_67 : decode cX1_addNextByNumbers 67 = .ok (.aload_n 0, 1) := by decide +kernel
theorem dX1_addNextByNumbers_68 : decode cX1_addNextByNumbers 68 = .ok (.getfield 12, 3) := by decide +kernel
theorem dX1_addNextByNumbers_71 : decode cX1_addNextByNumbers 71 = .ok (.aload 4, 2) := by decide +kernel
theorem dX1_addNextByNumbers_73 : decode cX1_addNextByNumbers 73 = .ok (.invokevirtual 36, 3) := by decide +kernel
theorem dX1_addNextByNumbers_76 : decode cX1_addNextByNumbers 76 = .ok (.ifCond .ne 10, 3) := by decide +kernel
theorem dX1_addNextByNumbers_79 : decode cX1_addNextByNumbers 79 = .ok (.aload_n 0, 1) := by decide +kernel
theorem dX1_addNextByNumbers_80 : decode cX1_addNextByNumbers 80 = .ok (.aload 4, 2) := by decide +kernel
theorem dX1_addNextByNumbers_82 : decode cX1_addNextByNumbers 82 = .ok (.aload_n 1, 1) := by decide +kernel
theorem dX1_addNextByNumbers_83 : decode cX1_addNextByNumbers 83 = .ok (.invokevirtual 56, 3) := by decide +kernel
theorem dX1_addNextByNumbers_86 : decode cX1_addNextByNumbers 86 = .ok (.iinc 3 1, 3) := by decide +kernel
theorem dX1_addNextByNumbers_89 : decode cX1_addNextByNumbers 89 = .ok (.goto (-87), 3) := by decide +kernel
theorem dX1_addNextByNumbers_92 : decode cX1_addNextByNumbers 92 = .ok (.return_, 1) := by decide +kernel
def fX1_addNextByNumbers_2 : Nat → Nat → Option Nat → Option Nat → Int32 → Hz → Option (Unit × Hz)
  | 0, _, _, _, _, _ => none
  | n + 1, o, v1, v2, v3, h => (b1 (gI 1 4 o h) fun x1 => (if x1 ≤ 0 then some ((), h) else b1 v2 fun a3 => (b1 (tg 6 a3 h) fun _ => (b2 (fX6_size a3 h) fun x5 s6 => (if x5 ≤ v3 then some ((), s6) else (b1 (gA 1 1 o s6) fun a8 => (b1 (xN 14 a8 s6) fun x9 => (if x9 ≤ v3 then some ((), s6) else (b1 (gA 1 1 o s6) fun a11 => (b1 (xI 14 a11 v3 s6) fun x12 => (if x12 = 0 then fX1_addNextByNumbers_2 n o v1 (some a3) (v3 + 1) s6 else (b1 (gA 1 1 o s6) fun a14 => (b1 (yZ a14 v3 0 s6) fun s15 => (b1 (gI 1 4 o s15) fun x16 => (b1 (pI 1 4 o (x16 - 1) s15) fun s17 => (b1 (tg 6 a3 s17) fun _ => (b2 (fX6_find a3 v3 s17) fun r19 s20 => (oe r19 (fX1_addNextByNumbers_2 n o v1 (some a3) (v3 + 1) s20) fun a21 => (b1 (gA 1 0 o s20) fun a22 => (b1 (tg 3 a22 s20) fun _ => (b2 (fX3_has a22 (some a21) s20) fun x24 s25 => (if x24 = 0 then (b1 (tg 1 o s25) fun _ => (b2 (fX1_addBehind o (some a21) v1 s25) fun _ s29 => fX1_addNextByNumbers_2 n o v1 (some a3) (v3 + 1) s29)) else fX1_addNextByNumbers_2 n o v1 (some a3) (v3 + 1) s25))))))))))))))))))))))
set_option maxHeartbeats 4000000 in
set_option maxRecDepth 100000 in
theorem wX1_addNextByNumbers_2 {r0 : Unit} {h0 : Hz} (X : zX A D cy p s m args c cX1_addNextByNumbers RX1 5) (hlk : meth.locks = false) (hr : meth.sig.returnType = none) : ∀ (n : Nat) (o : Nat) (v1 : Option Nat) (v2 : Option Nat) (v3 : Int32) (h : Hz) (H : Heap) (locs : List Loc) (ls : Array Slot) (hl : lv_has ls 5 [(0, .ref o), (1, va_rf v1), (2, va_rf v2), (3, .int v3)]) (hW : zW A cy D h H) (hS : va_S A s.heap H locs) (h : fX1_addNextByNumbers_2 n o v1 v2 v3 h = some (r0, h0)), W p l e ({ frames := 2, cells := 0, slots := 0, locals := 43 } : Room) s m args below meth c H locs 0 0 (MQ below (va_Qv (fun u => u = h0) (zB A D cy) A) args s 0 0 A) (F0 m 2 ls []) := by
  obtain ⟨hx, hb, hts, hown, hK9, hml, hN9, hA9⟩ := id X
  intro n
  induction n with
  | zero =>
    intro o v1 v2 v3 h H locs ls hl hW hS h
    rw [fX1_addNextByNumbers_2] at h
    cases h
  | succ n ih =>
    intro o v1 v2 v3 h H locs ls hl hW hS h
    rw [fX1_addNextByNumbers_2] at h
    refine lv_aload_n hx hb dX1_addNextByNumbers_2 rfl (lv_at hl 0 rfl) ?_
    replace h := b1_some h
    obtain ⟨x1, gx1, h⟩ := h
    refine z_getI X hW gx1 kX1 (by decide) (by decide) kf_X1_32 dX1_addNextByNumbers_3 ?_
    refine lv_if_le (tgt := 92) hx hb dX1_addNextByNumbers_6 (by decide) (fun c2 => ?_) (fun c2 => ?_)
    · replace h := it_t h c2
      exact z_etv X hlk hr hW hS h (by decide) (by decide) dX1_addNextByNumbers_92
    · replace h := it_f h c2
      refine lv_iload_n hx hb dX1_addNextByNumbers_9 rfl (lv_at hl 3 rfl) ?_
      refine z_aload_n hx hb dX1_addNextByNumbers_10 rfl (lv_at hl 2 rfl) ?_
      replace h := b1_some h
      obtain ⟨a3, ea3, h⟩ := h
      subst ea3
      replace h := b1_some h
      obtain ⟨q4, gq4, h⟩ := h
      replace h := b2_some h
      obtain ⟨x5, s6, gs6, h⟩ := h
      refine z_callVi (rest := [.int v3]) X hW hS (cX6_size_met gs6) kb_X6_size kv_X6_size kl_X1_43 (it_v gq4).1 kX6 rfl rfl ⟨Nat.le_of_ble_eq_true rfl, Nat.le_of_ble_eq_true rfl⟩ rfl rfl (Nat.le_of_ble_eq_true rfl) hl.1 dX1_addNextByNumbers_11 ⟨(by decide), (by decide)⟩ (fun H locs hW hS => ?_)
      refine lv_icmp_ge (tgt := 92) hx hb dX1_addNextByNumbers_14 (by decide) (fun c7 => ?_) (fun c7 => ?_)
      · replace h := it_t h c7
        exact z_etv X hlk hr hW hS h (by decide) (by decide) dX1_addNextByNumbers_92
      · replace h := it_f h c7
        refine lv_iload_n hx hb dX1_addNextByNumbers_17 rfl (lv_at hl 3 rfl) ?_
        refine lv_aload_n hx hb dX1_addNextByNumbers_18 rfl (lv_at hl 0 rfl) ?_
        replace h := b1_some h
        obtain ⟨a8, ga8, h⟩ := h
        refine z_getA X hW ga8 kX1 (by decide) (by decide) kf_X1_18 dX1_addNextByNumbers_19 ?_
        replace h := b1_some h
        obtain ⟨x9, gx9, h⟩ := h
        refine z_alenZ X hW gx9 dX1_addNextByNumbers_22 ?_
        refine lv_icmp_ge (tgt := 92) hx hb dX1_addNextByNumbers_23 (by decide) (fun c10 => ?_) (fun c10 => ?_)
        · replace h := it_t h c10
          exact z_etv X hlk hr hW hS h (by decide) (by decide) dX1_addNextByNumbers_92
        · replace h := it_f h c10
          refine lv_aload_n hx hb dX1_addNextByNumbers_26 rfl (lv_at hl 0 rfl) ?_
          replace h := b1_some h
          obtain ⟨a11, ga11, h⟩ := h
          refine z_getA X hW ga11 kX1 (by decide) (by decide) kf_X1_18 dX1_addNextByNumbers_27 ?_
          refine lv_iload_n hx hb dX1_addNextByNumbers_30 rfl (lv_at hl 3 rfl) ?_
          replace h := b1_some h
          obtain ⟨x12, gx12, h⟩ := h
          refine z_aldZ X hW gx12 dX1_addNextByNumbers_31 ?_
          refine lv_if_ne (tgt := 38) hx hb dX1_addNextByNumbers_32 (by decide) (fun c13 => ?_) (fun c13 => ?_)
          · replace h := it_f h c13
            refine lv_aload_n hx hb dX1_addNextByNumbers_38 rfl (lv_at hl 0 rfl) ?_
            replace h := b1_some h
            obtain ⟨a14, ga14, h⟩ := h
            refine z_getA X hW ga14 kX1 (by decide) (by decide) kf_X1_18 dX1_addNextByNumbers_39 ?_
            refine lv_iload_n hx hb dX1_addNextByNumbers_42 rfl (lv_at hl 3 rfl) ?_
            refine lv_iconst (v := 0) hx hb dX1_addNextByNumbers_43 (by decide) ?_
            replace h := b1_some h
            obtain ⟨s15, gs15, h⟩ := h
            refine z_astZ X hW hS gs15 dX1_addNextByNumbers_44 (fun H locs hW hS => ?_)
            refine lv_aload_n hx hb dX1_addNextByNumbers_45 rfl (lv_at hl 0 rfl) ?_
            refine lv_dup hx hb dX1_addNextByNumbers_46 rfl ?_
            replace h := b1_some h
            obtain ⟨x16, gx16, h⟩ := h
            refine z_getI X hW gx16 kX1 (by decide) (by decide) kf_X1_32 dX1_addNextByNumbers_47 ?_
            refine lv_iconst (v := 1) hx hb dX1_addNextByNumbers_50 (by decide) ?_
            refine lv_isub hx hb dX1_addNextByNumbers_51 ?_
            replace h := b1_some h
            obtain ⟨s17, gs17, h⟩ := h
            refine z_putI X hW hS gs17 kX1 (by decide) (by decide) rfl (Or.inl rfl) kf_X1_32 dX1_addNextByNumbers_52 (fun H locs hW hS => ?_)
            refine lv_aload_n hx hb dX1_addNextByNumbers_55 rfl (lv_at hl 2 rfl) ?_
            refine lv_iload_n hx hb dX1_addNextByNumbers_56 rfl (lv_at hl 3 rfl) ?_
            replace h := b1_some h
            obtain ⟨q18, gq18, h⟩ := h
            replace h := b2_some h
            obtain ⟨r19, s20, gs20, h⟩ := h
            refine z_callVq (rest := []) X hW hS (cX6_find_met gs20) kb_X6_find kv_X6_find kl_X1_49 (it_v gq18).1 kX6 rfl rfl ⟨Nat.le_of_ble_eq_true rfl, Nat.le_of_ble_eq_true rfl⟩ rfl rfl (by decide) hl.1 dX1_addNextByNumbers_57 ⟨(by decide), (by decide)⟩ (fun H locs hW hS => ?_)
            refine z_astore (lv' := [(4, va_rf r19), (0, .ref o), (1, va_rf v1), (2, .ref a3), (3, .int v3)]) hx hb dX1_addNextByNumbers_60 hl (by decide) rfl (fun ls hl => ?_)
            refine z_aload hx hb dX1_addNextByNumbers_62 (lv_at hl 0 rfl) ?_
            cases r19 with
            | none =>
              replace h := oe_n h
              have hl : lv_has ls 5 [(4, .null), (0, .ref o), (1, va_rf v1), (2, .ref a3), (3, .int v3)] := hl
              refine lv_ifnullN (tgt := 86) hx hb dX1_addNextByNumbers_64 (by decide) ?_
              refine lv_iinc (v := (v3 + 1)) (lv' := [(3, .int (v3 + 1)), (4, .null), (0, .ref o), (1, va_rf v1), (2, .ref a3)]) hx hb dX1_addNextByNumbers_86 hl (k := 4) rfl rfl (by decide) rfl (fun ls hl => ?_)
              refine lv_goto (tgt := 2) hx hb dX1_addNextByNumbers_89 (by decide) ?_
              exact ih o v1 (some a3) (v3 + 1) _ _ _ _ (lv_sub hl [2, 3, 4, 0] rfl) hW hS h
            | some a21 =>
              replace h := oe_s h
              have hl : lv_has ls 5 [(4, .ref a21), (0, .ref o), (1, va_rf v1), (2, .ref a3), (3, .int v3)] := hl
              refine lv_ifnull hx hb dX1_addNextByNumbers_64 ?_
              refine lv_aload_n hx hb dX1_addNextByNumbers_67 rfl (lv_at hl 1 rfl) ?_
              replace h := b1_some h
              obtain ⟨a22, ga22, h⟩ := h
              refine z_getA X hW ga22 kX1 (by decide) (by decide) kf_X1_12 dX1_addNextByNumbers_68 ?_
              refine lv_aload hx hb dX1_addNextByNumbers_71 (lv_at hl 0 rfl) ?_
              replace h := b1_some h
              obtain ⟨q23, gq23, h⟩ := h
              replace h := b2_some h
              obtain ⟨x24, s25, gs25, h⟩ := h
              refine z_callVi (rest := []) X hW hS (cX3_has_met gs25) kb_X3_has kv_X3_has kl_X1_36 (it_v gq23).1 kX3 rfl rfl ⟨Nat.le_of_ble_eq_true rfl, Nat.le_of_ble_eq_true rfl⟩ rfl rfl (by decide) hl.1 dX1_addNextByNumbers_73 ⟨(by decide), (by decide)⟩ (fun H locs hW hS => ?_)
              refine lv_if_ne (tgt := 86) hx hb dX1_addNextByNumbers_76 (by decide) (fun c26 => ?_) (fun c26 => ?_)
              · replace h := it_f h c26
                refine lv_iinc (v := (v3 + 1)) (lv' := [(3, .int (v3 + 1)), (4, .ref a21), (0, .ref o), (1, va_rf v1), (2, .ref a3)]) hx hb dX1_addNextByNumbers_86 hl (k := 4) rfl rfl (by decide) rfl (fun ls hl => ?_)
                refine lv_goto (tgt := 2) hx hb dX1_addNextByNumbers_89 (by decide) ?_
                exact ih o v1 (some a3) (v3 + 1) _ _ _ _ (lv_sub hl [2, 3, 4, 0] rfl) hW hS h
              · replace h := it_t h c26
                refine lv_aload_n hx hb dX1_addNextByNumbers_79 rfl (lv_at hl 1 rfl) ?_
                refine lv_aload hx hb dX1_addNextByNumbers_80 (lv_at hl 0 rfl) ?_
                refine z_aload_n hx hb dX1_addNextByNumbers_82 rfl (lv_at hl 2 rfl) ?_
                replace h := b1_some h
                obtain ⟨q27, gq27, h⟩ := h
                replace h := b2_some h
                obtain ⟨_ur28, s29, gs29, h⟩ := h
                refine z_callVv (rest := []) X hW hS (cX1_addBehind_met gs29) kb_X1_addBehind kv_X1_addBehind kl_X1_56 (it_v gq27).1 kX1 rfl rfl ⟨Nat.le_of_ble_eq_true rfl, Nat.le_of_ble_eq_true rfl⟩ rfl rfl (by decide) hl.1 dX1_addNextByNumbers_83 ⟨(by decide), (by decide)⟩ (fun H locs hW hS => ?_)
                refine lv_iinc (v := (v3 + 1)) (lv' := [(3, .int (v3 + 1)), (4, .ref a21), (0, .ref o), (1, va_rf v1), (2, .ref a3)]) hx hb dX1_addNextByNumbers_86 hl (k := 4) rfl rfl (by decide) rfl (fun ls hl => ?_)
                refine lv_goto (tgt := 2) hx hb dX1_addNextByNumbers_89 (by decide) ?_
                exact ih o v1 (some a3) (v3 + 1) _ _ _ _ (lv_sub hl [2, 3, 4, 0] rfl) hW hS h
          · replace h := it_t h c13
            refine lv_goto (tgt := 86) hx hb dX1_addNextByNumbers_35 (by decide) ?_
            refine lv_iinc (v := (v3 + 1)) (lv' := [(3, .int (v3 + 1)), (0, .ref o), (1, va_rf v1), (2, .ref a3)]) hx hb dX1_addNextByNumbers_86 hl (k := 3) rfl rfl (by decide) rfl (fun ls hl => ?_)
            refine lv_goto (tgt := 2) hx hb dX1_addNextByNumbers_89 (by decide) ?_
            exact ih o v1 (some a3) (v3 + 1) _ _ _ _ (lv_sub hl [1, 2, 3, 0] rfl) hW hS h

def fX1_addNextByNumbers (o : Nat) (v1 : Option Nat) (v2 : Option Nat) (h : Hz) : Option (Unit × Hz) := fX1_addNextByNumbers_2 100000 o v1 v2 0 h
set_option maxHeartbeats 4000000 in
set_option maxRecDepth 100000 in
theorem wX1_addNextByNumbers_0 {r0 : Unit} {h0 : Hz} (X : zX A D cy p s m args c cX1_addNextByNumbers RX1 5) (hlk : meth.locks = false) (hr : meth.sig.returnType = none) (o : Nat) (v1 : Option Nat) (v2 : Option Nat) (h : Hz) (H : Heap) (locs : List Loc) (ls : Array Slot) (hl : lv_has ls 5 [(0, .ref o), (1, va_rf v1), (2, va_rf v2)]) (hW : zW A cy D h H) (hS : va_S A s.heap H locs) (h : fX1_addNextByNumbers o v1 v2 h = some (r0, h0)) : W p l e ({ frames := 2, cells := 0, slots := 0, locals := 43 } : Room) s m args below meth c H locs 0 0 (MQ below (va_Qv (fun u => u = h0) (zB A D cy) A) args s 0 0 A) (F0 m 0 ls []) := by
  obtain ⟨hx, hb, hts, hown, hK9, hml, hN9, hA9⟩ := id X
  unfold fX1_addNextByNumbers at h
  refine lv_iconst (v := 0) hx hb dX1_addNextByNumbers_0 (by decide) ?_
  refine lv_istore_n (lv' := [(3, .int 0), (0, .ref o), (1, va_rf v1), (2, va_rf v2)]) hx hb dX1_addNextByNumbers_1 rfl hl (by decide) (by cases v2 <;> rfl) (fun ls hl => ?_)
  exact wX1_addNextByNumbers_2 X hlk hr _ o v1 v2 0 _ _ _ _ (lv_sub hl [1, 2, 3, 0] rfl) hW hS h

set_option maxHeartbeats 4000000 in
set_option maxRecDepth 100000 in
theorem cX1_addNextByNumbers_met {l : Launch} {A : Nat → Prop} {D : va_G} {cy : Nat → ClassId} {r0 : Unit} {h0 : Hz} {o : Nat} {v1 : Option Nat} {v2 : Option Nat} {h : Hz} (g : fX1_addNextByNumbers o v1 v2 h = some (r0, h0)) : Met l yX1_addNextByNumbers (Cond.code yX1_addNextByNumbers cX1_addNextByNumbers 5 none :: wT) ({ frames := 2, cells := 0, slots := 0, locals := 43 } : Room) (va_Pc [.ref o, va_rf v1, va_rf v2] (zS A D cy h)) (va_Qv (fun u => u = h0) (zB A D cy) A) 0 0 A := by
  refine Met.ofW (cc := cX1_addNextByNumbers) (maxL := 5) (ret := none) (by decide) rfl ?_
  intro p e s m args below meth c s₁ B hml hv
  obtain ⟨rfl, hW, hK, hN, hA⟩ := hv
  have X : zX A D cy p s m _ c cX1_addNextByNumbers RX1 5 := ⟨B.exec, B.bytes, fun w hw => atoms_spec (ws := Cond.code yX1_addNextByNumbers cX1_addNextByNumbers 5 none :: wT) B.pre w (List.mem_cons_of_mem _ hw), findClass_of_methodNamed B.named, hK, hml, hN, hA⟩
  cases v1 with
  | none =>
    cases v2 with
    | none =>
      have hl := lv_entry [.ref o, va_rf none, va_rf none] (n := 5) (Nat.le_of_ble_eq_true rfl)
      rw [lg_entry_eq]
      generalize (lg_sl [.ref o, va_rf none, va_rf none] ++ List.replicate (5 - (lg_sl [.ref o, va_rf none, va_rf none]).length) Slot.unset).toArray = ls at hl ⊢
      have hl : lv_has ls 5 [(0, .ref o), (1, va_rf none), (2, va_rf none)] := hl
      exact wX1_addNextByNumbers_0 X B.notSynchronized B.returns o none none _ _ _ _ (lv_sub hl [0, 1, 2] rfl) hW va_S.rf g
    | some v2 =>
      have hl := lv_entry [.ref o, va_rf none, va_rf (some v2)] (n := 5) (Nat.le_of_ble_eq_true rfl)
      rw [lg_entry_eq]
      generalize (lg_sl [.ref o, va_rf none, va_rf (some v2)] ++ List.replicate (5 - (lg_sl [.ref o, va_rf none, va_rf (some v2)]).length) Slot.unset).toArray = ls at hl ⊢
      have hl : lv_has ls 5 [(0, .ref o), (1, va_rf none), (2, va_rf (some v2))] := hl
      exact wX1_addNextByNumbers_0 X B.notSynchronized B.returns o none (some v2) _ _ _ _ (lv_sub hl [0, 1, 2] rfl) hW va_S.rf g
  | some v1 =>
    cases v2 with
    | none =>
      have hl := lv_entry [.ref o, va_rf (some v1), va_rf none] (n := 5) (Nat.le_of_ble_eq_true rfl)
      rw [lg_entry_eq]
      generalize (lg_sl [.ref o, va_rf (some v1), va_rf none] ++ List.replicate (5 - (lg_sl [.ref o, va_rf (some v1), va_rf none]).length) Slot.unset).toArray = ls at hl ⊢
      have hl : lv_has ls 5 [(0, .ref o), (1, va_rf (some v1)), (2, va_rf none)] := hl
      exact wX1_addNextByNumbers_0 X B.notSynchronized B.returns o (some v1) none _ _ _ _ (lv_sub hl [0, 1, 2] rfl) hW va_S.rf g
    | some v2 =>
      have hl := lv_entry [.ref o, va_rf (some v1), va_rf (some v2)] (n := 5) (Nat.le_of_ble_eq_true rfl)
      rw [lg_entry_eq]
      generalize (lg_sl [.ref o, va_rf (some v1), va_rf (some v2)] ++ List.replicate (5 - (lg_sl [.ref o, va_rf (some v1), va_rf (some v2)]).length) Slot.unset).toArray = ls at hl ⊢
      have hl : lv_has ls 5 [(0, .ref o), (1, va_rf (some v1)), (2, va_rf (some v2))] := hl
      exact wX1_addNextByNumbers_0 X B.notSynchronized B.returns o (some v1) (some v2) _ _ _ _ (lv_sub hl [0, 1, 2] rfl) hW va_S.rf g

theorem dX1_markNextThing_0 : decode cX1_markNextThing 0 = .ok (.aload_n 1, 1) := by decide +kernel
theorem dX1_markNextThing_1 : decode cX1_markNextThing 1 = .ok (.ifnull 10, 3) := by decide +kernel
theorem dX1_markNextThing_4 : decode cX1_markNextThing 4 = .ok (.aload_n 1, 1) := by decide +kernel
theorem dX1_markNextThing_5 : decode cX1_markNextThing 5 = .ok (.getfield 116, 3) := by decide +kernel
theorem dX1_markNextThing_8 : decode cX1_markNextThing 8 = .ok (.ifCond .ne 4, 3) := by decide +kernel
theorem dX1_markNextThing_11 : decode cX1_markNextThing 11 = .ok (.return_, 1) := by decide +kernel
theorem dX1_markNextThing_12 : decode cX1_markNextThing 12 = .ok (.aload_n 1, 1) := by decide +kernel
theorem dX1_markNextThing_13 : decode cX1_markNextThing 13 = .ok (.getfield 119, 3) := by decide +kernel
theorem dX1_markNextThing_16 : decode cX1_markNextThing 16 = .ok (.ifCond .lt 27, 3) := by decide +kernel
theorem dX1_markNextThing_19 : decode cX1_markNextThing 19 = .ok (.aload_n 1, 1) := by decide +kernel
theorem dX1_markNextThing_20 : decode cX1_markNextThing 20 = .ok (.getfield 119, 3) := by decide +kernel
theorem dX1_markNextThing_23 : decode cX1_markNextThing 23 = .ok (.aload_n 0, 1) := by decide +kernel
theorem dX1_markNextThing_24 : decode cX1_markNextThing 24 = .ok (.getfield 18, 3) := by decide +kernel
theorem dX1_markNextThing_27 : decode cX1_markNextThing 27 = .ok (.arraylength, 1) := by decide +kernel
theorem dX1_markNextThing_28 : decode cX1_markNextThing 28 = .ok (.if_icmp .ge 15, 3) := by decide +kernel
theorem dX1_markNextThing_31 : decode cX1_markNextThing 31 = .ok (.aload_n 0, 1) := by decide +kernel
theorem dX1_markNextThing_32 : decode cX1_markNextThing 32 = .ok (.getfield 18, 3) := by decide +kernel
theorem dX1_markNextThing_35 : decode cX1_markNextThing 35 = .ok (.aload_n 1, 1) := by decide +kernel
theorem dX1_markNextThing_36 : decode cX1_markNextThing 36 = .ok (.getfield 119, 3) := by decide +kernel
theorem dX1_markNextThing_39 : decode cX1_markNextThing 39 = .ok (.baload, 1) := by decide +kernel
theorem dX1_markNextThing_40 : decode cX1_markNextThing 40 = .ok (.ifCond .eq 4, 3) := by decide +kernel
theorem dX1_markNextThing_43 : decode cX1_markNextThing 43 = .ok (.return_, 1) := by decide +kernel
theorem dX1_markNextThing_44 : decode cX1_markNextThing 44 = .ok (.aload_n 0, 1) := by decide +kernel
theorem dX1_markNextThing_45 : decode cX1_markNextThing 45 = .ok (.getfield 18, 3) := by decide +kernel
theorem dX1_markNextThing_48 : decode cX1_markNextThing 48 = .ok (.aload_n 1, 1) := by decide +kernel
theorem dX1_markNextThing_49 : decode cX1_markNextThing 49 = .ok (.getfield 119, 3) := by decide +kernel
theorem dX1_markNextThing_52 : decode cX1_markNextThing 52 = .ok (.iconst 1, 1) := by decide +kernel
theorem dX1_markNextThing_53 : decode cX1_markNextThing 53 = .ok (.bastore, 1) := by decide +kernel
theorem dX1_markNextThing_54 : decode cX1_markNextThing 54 = .ok (.aload_n 0, 1) := by decide +kernel
theorem dX1_markNextThing_55 : decode cX1_markNextThing 55 = .ok (.dup, 1) := by decide +kernel
theorem dX1_markNextThing_56 : decode cX1_markNextThing 56 = .ok (.getfield 32, 3) := by decide +kernel
theorem dX1_markNextThing_59 : decode cX1_markNextThing 59 = .ok (.iconst 1, 1) := by decide +kernel
theorem dX1_markNextThing_60 : decode cX1_markNextThing 60 = .ok (.iadd, 1) := by decide +kernel
theorem dX1_markNextThing_61 : decode cX1_markNextThing 61 = .ok (.putfield 32, 3) := by decide +kernel
theorem dX1_markNextThing_64 : decode cX1_markNextThing 64 = .ok (.return_, 1) := by decide +kernel
def fX1_markNextThing (o : Nat) (v1 : Option Nat) (h : Hz) : Option (Unit × Hz) := (oe v1 (some ((), h)) fun a1 => (b1 (gI 5 10 a1 h) fun x2 => (if x2 = 0 then some ((), h) else (b1 (gI 5 0 a1 h) fun x4 => (if x4 < 0 then some ((), h) else (b1 (gI 5 0 a1 h) fun x6 => (b1 (gA 1 1 o h) fun a7 => (b1 (xN 14 a7 h) fun x8 => (if x8 ≤ x6 then some ((), h) else (b1 (gA 1 1 o h) fun a10 => (b1 (gI 5 0 a1 h) fun x11 => (b1 (xI 14 a10 x11 h) fun x12 => (if x12 = 0 then (b1 (gA 1 1 o h) fun a14 => (b1 (gI 5 0 a1 h) fun x15 => (b1 (yZ a14 x15 1 h) fun s16 => (b1 (gI 1 4 o s16) fun x17 => (b1 (pI 1 4 o (x17 + 1) s16) fun s18 => some ((), s18)))))) else some ((), h))))))))))))))
set_option maxHeartbeats 4000000 in
set_option maxRecDepth 100000 in
theorem wX1_markNextThing_0 {r0 : Unit} {h0 : Hz} (X : zX A D cy p s m args c cX1_markNextThing RX1 2) (hlk : meth.locks = false) (hr : meth.sig.returnType = none) (o : Nat) (v1 : Option Nat) (h : Hz) (H : Heap) (locs : List Loc) (ls : Array Slot) (hl : lv_has ls 2 [(0, .ref o), (1, va_rf v1)]) (hW : zW A cy D h H) (hS : va_S A s.heap H locs) (h : fX1_markNextThing o v1 h = some (r0, h0)) : W p l e ({ frames := 0, cells := 0, slots := 0, locals := 0 } : Room) s m args below meth c H locs 0 0 (MQ below (va_Qv (fun u => u = h0) (zB A D cy) A) args s 0 0 A) (F0 m 0 ls []) := by
  obtain ⟨hx, hb, hts, hown, hK9, hml, hN9, hA9⟩ := id X
  unfold fX1_markNextThing at h
  refine z_aload_n hx hb dX1_markNextThing_0 rfl (lv_at hl 1 rfl) ?_
  cases v1 with
  | none =>
    replace h := oe_n h
    have hl : lv_has ls 2 [(0, .ref o), (1, .null)] := hl
    refine lv_ifnullN (tgt := 11) hx hb dX1_markNextThing_1 (by decide) ?_
    exact z_etv X hlk hr hW hS h (by decide) (by decide) dX1_markNextThing_11
  | some a1 =>
    replace h := oe_s h
    have hl : lv_has ls 2 [(0, .ref o), (1, .ref a1)] := hl
    refine lv_ifnull hx hb dX1_markNextThing_1 ?_
    refine lv_aload_n hx hb dX1_markNextThing_4 rfl (lv_at hl 1 rfl) ?_
    replace h := b1_some h
    obtain ⟨x2, gx2, h⟩ := h
    refine z_getI X hW gx2 kX5 (by decide) (by decide) kf_X1_116 dX1_markNextThing_5 ?_
    refine lv_if_ne (tgt := 12) hx hb dX1_markNextThing_8 (by decide) (fun c3 => ?_) (fun c3 => ?_)
    · replace h := it_f h c3
      refine lv_aload_n hx hb dX1_markNextThing_12 rfl (lv_at hl 1 rfl) ?_
      replace h := b1_some h
      obtain ⟨x4, gx4, h⟩ := h
      refine z_getI X hW gx4 kX5 (by decide) (by decide) kf_X1_119 dX1_markNextThing_13 ?_
      refine lv_if_lt (tgt := 43) hx hb dX1_markNextThing_16 (by decide) (fun c5 => ?_) (fun c5 => ?_)
      · replace h := it_t h c5
        exact z_etv X hlk hr hW hS h (by decide) (by decide) dX1_markNextThing_43
      · replace h := it_f h c5
        refine lv_aload_n hx hb dX1_markNextThing_19 rfl (lv_at hl 1 rfl) ?_
        replace h := b1_some h
        obtain ⟨x6, gx6, h⟩ := h
        refine z_getI X hW gx6 kX5 (by decide) (by decide) kf_X1_119 dX1_markNextThing_20 ?_
        refine lv_aload_n hx hb dX1_markNextThing_23 rfl (lv_at hl 0 rfl) ?_
        replace h := b1_some h
        obtain ⟨a7, ga7, h⟩ := h
        refine z_getA X hW ga7 kX1 (by decide) (by decide) kf_X1_18 dX1_markNextThing_24 ?_
        replace h := b1_some h
        obtain ⟨x8, gx8, h⟩ := h
        refine z_alenZ X hW gx8 dX1_markNextThing_27 ?_
        refine lv_icmp_ge (tgt := 43) hx hb dX1_markNextThing_28 (by decide) (fun c9 => ?_) (fun c9 => ?_)
        · replace h := it_t h c9
          exact z_etv X hlk hr hW hS h (by decide) (by decide) dX1_markNextThing_43
        · replace h := it_f h c9
          refine lv_aload_n hx hb dX1_markNextThing_31 rfl (lv_at hl 0 rfl) ?_
          replace h := b1_some h
          obtain ⟨a10, ga10, h⟩ := h
          refine z_getA X hW ga10 kX1 (by decide) (by decide) kf_X1_18 dX1_markNextThing_32 ?_
          refine lv_aload_n hx hb dX1_markNextThing_35 rfl (lv_at hl 1 rfl) ?_
          replace h := b1_some h
          obtain ⟨x11, gx11, h⟩ := h
          refine z_getI X hW gx11 kX5 (by decide) (by decide) kf_X1_119 dX1_markNextThing_36 ?_
          replace h := b1_some h
          obtain ⟨x12, gx12, h⟩ := h
          refine z_aldZ X hW gx12 dX1_markNextThing_39 ?_
          refine lv_if_eq (tgt := 44) hx hb dX1_markNextThing_40 (by decide) (fun c13 => ?_) (fun c13 => ?_)
          · replace h := it_t h c13
            refine lv_aload_n hx hb dX1_markNextThing_44 rfl (lv_at hl 0 rfl) ?_
            replace h := b1_some h
            obtain ⟨a14, ga14, h⟩ := h
            refine z_getA X hW ga14 kX1 (by decide) (by decide) kf_X1_18 dX1_markNextThing_45 ?_
            refine lv_aload_n hx hb dX1_markNextThing_48 rfl (lv_at hl 1 rfl) ?_
            replace h := b1_some h
            obtain ⟨x15, gx15, h⟩ := h
            refine z_getI X hW gx15 kX5 (by decide) (by decide) kf_X1_119 dX1_markNextThing_49 ?_
            refine lv_iconst (v := 1) hx hb dX1_markNextThing_52 (by decide) ?_
            replace h := b1_some h
            obtain ⟨s16, gs16, h⟩ := h
            refine z_astZ X hW hS gs16 dX1_markNextThing_53 (fun H locs hW hS => ?_)
            refine lv_aload_n hx hb dX1_markNextThing_54 rfl (lv_at hl 0 rfl) ?_
            refine lv_dup hx hb dX1_markNextThing_55 rfl ?_
            replace h := b1_some h
            obtain ⟨x17, gx17, h⟩ := h
            refine z_getI X hW gx17 kX1 (by decide) (by decide) kf_X1_32 dX1_markNextThing_56 ?_
            refine lv_iconst (v := 1) hx hb dX1_markNextThing_59 (by decide) ?_
            refine lv_iadd hx hb dX1_markNextThing_60 ?_
            replace h := b1_some h
            obtain ⟨s18, gs18, h⟩ := h
            refine z_putI X hW hS gs18 kX1 (by decide) (by decide) rfl (Or.inl rfl) kf_X1_32 dX1_markNextThing_61 (fun H locs hW hS => ?_)
            exact z_etv X hlk hr hW hS h (by decide) (by decide) dX1_markNextThing_64
          · replace h := it_f h c13
            exact z_etv X hlk hr hW hS h (by decide) (by decide) dX1_markNextThing_43
    · replace h := it_t h c3
      exact z_etv X hlk hr hW hS h (by decide) (by decide) dX1_markNextThing_11

set_option maxHeartbeats 4000000 in
set_option maxRecDepth 100000 in
theorem cX1_markNextThing_met {l : Launch} {A : Nat → Prop} {D : va_G} {cy : Nat → ClassId} {r0 : Unit} {h0 : Hz} {o : Nat} {v1 : Option Nat} {h : Hz} (g : fX1_markNextThing o v1 h = some (r0, h0)) : Met l yX1_markNextThing (Cond.code yX1_markNextThing cX1_markNextThing 2 none :: wT) ({ frames := 0, cells := 0, slots := 0, locals := 0 } : Room) (va_Pc [.ref o, va_rf v1] (zS A D cy h)) (va_Qv (fun u => u = h0) (zB A D cy) A) 0 0 A := by
  refine Met.ofW (cc := cX1_markNextThing) (maxL := 2) (ret := none) (by decide) rfl ?_
  intro p e s m args below meth c s₁ B hml hv
  obtain ⟨rfl, hW, hK, hN, hA⟩ := hv
  have X : zX A D cy p s m _ c cX1_markNextThing RX1 2 := ⟨B.exec, B.bytes, fun w hw => atoms_spec (ws := Cond.code yX1_markNextThing cX1_markNextThing 2 none :: wT) B.pre w (List.mem_cons_of_mem _ hw), findClass_of_methodNamed B.named, hK, hml, hN, hA⟩
  cases v1 with
  | none =>
    have hl := lv_entry [.ref o, va_rf none] (n := 2) (Nat.le_of_ble_eq_true rfl)
    rw [lg_entry_eq]
    generalize (lg_sl [.ref o, va_rf none] ++ List.replicate (2 - (lg_sl [.ref o, va_rf none]).length) Slot.unset).toArray = ls at hl ⊢
    have hl : lv_has ls 2 [(0, .ref o), (1, va_rf none)] := hl
    exact wX1_markNextThing_0 X B.notSynchronized B.returns o none _ _ _ _ (lv_sub hl [0, 1] rfl) hW va_S.rf g
  | some v1 =>
    have hl := lv_entry [.ref o, va_rf (some v1)] (n := 2) (Nat.le_of_ble_eq_true rfl)
    rw [lg_entry_eq]
    generalize (lg_sl [.ref o, va_rf (some v1)] ++ List.replicate (2 - (lg_sl [.ref o, va_rf (some v1)]).length) Slot.unset).toArray = ls at hl ⊢
    have hl : lv_has ls 2 [(0, .ref o), (1, va_rf (some v1))] := hl
    exact wX1_markNextThing_0 X B.notSynchronized B.returns o (some v1) _ _ _ _ (lv_sub hl [0, 1] rfl) hW va_S.rf g

theorem dX2_find_0 : decode cX2_find 0 = .ok (.iload_n 1, 1) := by decide +kernel
theorem dX2_find_1 : decode cX2_find 1 = .ok (.ifCond .lt 29, 3) := by decide +kernel
theorem dX2_find_4 : decode cX2_find 4 = .ok (.iload_n 1, 1) := by decide +kernel
theorem dX2_find_5 : decode cX2_find 5 = .ok (.aload_n 0, 1) := by decide +kernel
theorem dX2_find_6 : decode cX2_find 6 = .ok (.getfield 17, 3) := by decide +kernel
theorem dX2_find_9 : decode cX2_find 9 = .ok (.if_icmp .ge 21, 3) := by decide +kernel
theorem dX2_find_12 : decode cX2_find 12 = .ok (.iload_n 1, 1) := by decide +kernel
theorem dX2_find_13 : decode cX2_find 13 = .ok (.aload_n 0, 1) := by decide +kernel
theorem dX2_find_14 : decode cX2_find 14 = .ok (.getfield 11, 3) := by decide +kernel
theorem dX2_find_17 : decode cX2_find 17 = .ok (.arraylength, 1) := by decide +kernel
theorem dX2_find_18 : decode cX2_find 18 = .ok (.if_icmp .ge 12, 3) := by decide +kernel
theorem dX2_find_21 : decode cX2_find 21 = .ok (.aload_n 0, 1) := by decide +kernel
theorem dX2_find_22 : decode cX2_find 22 = .ok (.getfield 11, 3) := by decide +kernel
theorem dX2_find_25 : decode cX2_find 25 = .ok (.iload_n 1, 1) := by decide +kernel
theorem dX2_find_26 : decode cX2_find 26 = .ok (.aaload, 1) := by decide +kernel
theorem dX2_find_27 : decode cX2_find 27 = .ok (.goto 4, 3) := by decide +kernel
theorem dX2_find_30 : decode cX2_find 30 = .ok (.aconst_null, 1) := by decide +kernel
theorem dX2_find_31 : decode cX2_find 31 = .ok (.areturn, 1) := by decide +kernel
def fX2_find (o : Nat) (v1 : Int32) (h : Hz) : Option (Option Nat × Hz) := (if v1 < 0 then some (none, h) else (b1 (gI 2 1 o h) fun x2 => (if x2 ≤ v1 then some (none, h) else (b1 (gA 2 0 o h) fun a4 => (b1 (xN 15 a4 h) fun x5 => (if x5 ≤ v1 then some (none, h) else (b1 (gA 2 0 o h) fun a7 => (b1 (xP 15 a7 v1 h) fun r8 => some (r8, h)))))))))
set_option maxHeartbeats 4000000 in
set_option maxRecDepth 100000 in
theorem wX2_find_0 {r0 : Option Nat} {h0 : Hz} (X : zX A D cy p s m args c cX2_find RX2 2) (hlk : meth.locks = false) (hr : meth.sig.returnType = (some (.object "FarHold$Letter"))) (o : Nat) (v1 : Int32) (h : Hz) (H : Heap) (locs : List Loc) (ls : Array Slot) (hl : lv_has ls 2 [(0, .ref o), (1, .int v1)]) (hW : zW A cy D h H) (hS : va_S A s.heap H locs) (h : fX2_find o v1 h = some (r0, h0)) : W p l e ({ frames := 0, cells := 0, slots := 0, locals := 0 } : Room) s m args below meth c H locs 0 0 (MQ below (va_Qq (fun r1 u => r1 = r0 ∧ u = h0) (zB A D cy) A) args s 0 0 A) (F0 m 0 ls []) := by
  obtain ⟨hx, hb, hts, hown, hK9, hml, hN9, hA9⟩ := id X
  unfold fX2_find at h
  refine lv_iload_n hx hb dX2_find_0 rfl (lv_at hl 1 rfl) ?_
  refine lv_if_lt (tgt := 30) hx hb dX2_find_1 (by decide) (fun c1 => ?_) (fun c1 => ?_)
  · replace h := it_t h c1
    refine lv_null hx hb dX2_find_30 ?_
    exact z_eta (v := none) X hlk hr hW hS h (by decide) (by decide) dX2_find_31
  · replace h := it_f h c1
    refine lv_iload_n hx hb dX2_find_4 rfl (lv_at hl 1 rfl) ?_
    refine lv_aload_n hx hb dX2_find_5 rfl (lv_at hl 0 rfl) ?_
    replace h := b1_some h
    obtain ⟨x2, gx2, h⟩ := h
    refine z_getI X hW gx2 kX2 (by decide) (by decide) kf_X2_17 dX2_find_6 ?_
    refine lv_icmp_ge (tgt := 30) hx hb dX2_find_9 (by decide) (fun c3 => ?_) (fun c3 => ?_)
    · replace h := it_t h c3
      refine lv_null hx hb dX2_find_30 ?_
      exact z_eta (v := none) X hlk hr hW hS h (by decide) (by decide) dX2_find_31
    · replace h := it_f h c3
      refine lv_iload_n hx hb dX2_find_12 rfl (lv_at hl 1 rfl) ?_
      refine lv_aload_n hx hb dX2_find_13 rfl (lv_at hl 0 rfl) ?_
      replace h := b1_some h
      obtain ⟨a4, ga4, h⟩ := h
      refine z_getA X hW ga4 kX2 (by decide) (by decide) kf_X2_11 dX2_find_14 ?_
      replace h := b1_some h
      obtain ⟨x5, gx5, h⟩ := h
      refine z_alenP X hW gx5 (by decide) (by decide) rfl dX2_find_17 ?_
      refine lv_icmp_ge (tgt := 30) hx hb dX2_find_18 (by decide) (fun c6 => ?_) (fun c6 => ?_)
      · replace h := it_t h c6
        refine lv_null hx hb dX2_find_30 ?_
        exact z_eta (v := none) X hlk hr hW hS h (by decide) (by decide) dX2_find_31
      · replace h := it_f h c6
        refine lv_aload_n hx hb dX2_find_21 rfl (lv_at hl 0 rfl) ?_
        replace h := b1_some h
        obtain ⟨a7, ga7, h⟩ := h
        refine z_getA X hW ga7 kX2 (by decide) (by decide) kf_X2_11 dX2_find_22 ?_
        refine lv_iload_n hx hb dX2_find_25 rfl (lv_at hl 1 rfl) ?_
        replace h := b1_some h
        obtain ⟨r8, gr8, h⟩ := h
        refine z_aldP X hW gr8 (by decide) (by decide) rfl dX2_find_26 ?_
        refine lv_goto (tgt := 31) hx hb dX2_find_27 (by decide) ?_
        exact z_eta (v := r8) X hlk hr hW hS h (by decide) (by decide) dX2_find_31

set_option maxHeartbeats 4000000 in
set_option maxRecDepth 100000 in
theorem cX2_find_met {l : Launch} {A : Nat → Prop} {D : va_G} {cy : Nat → ClassId} {r0 : Option Nat} {h0 : Hz} {o : Nat} {v1 : Int32} {h : Hz} (g : fX2_find o v1 h = some (r0, h0)) : Met l yX2_find (Cond.code yX2_find cX2_find 2 (some (.object "FarHold$Letter")) :: wT) ({ frames := 0, cells := 0, slots := 0, locals := 0 } : Room) (va_Pc [.ref o, .int v1] (zS A D cy h)) (va_Qq (fun r1 u => r1 = r0 ∧ u = h0) (zB A D cy) A) 0 0 A := by
  refine Met.ofW (cc := cX2_find) (maxL := 2) (ret := (some (.object "FarHold$Letter"))) (by decide) rfl ?_
  intro p e s m args below meth c s₁ B hml hv
  obtain ⟨rfl, hW, hK, hN, hA⟩ := hv
  have X : zX A D cy p s m _ c cX2_find RX2 2 := ⟨B.exec, B.bytes, fun w hw => atoms_spec (ws := Cond.code yX2_find cX2_find 2 (some (.object "FarHold$Letter")) :: wT) B.pre w (List.mem_cons_of_mem _ hw), findClass_of_methodNamed B.named, hK, hml, hN, hA⟩
  have hl := lv_entry [.ref o, .int v1] (n := 2) (Nat.le_of_ble_eq_true rfl)
  rw [lg_entry_eq]
  generalize (lg_sl [.ref o, .int v1] ++ List.replicate (2 - (lg_sl [.ref o, .int v1]).length) Slot.unset).toArray = ls at hl ⊢
  have hl : lv_has ls 2 [(0, .ref o), (1, .int v1)] := hl
  exact wX2_find_0 X B.notSynchronized B.returns o v1 _ _ _ _ (lv_sub hl [0, 1] rfl) hW va_S.rf g

theorem dX2_size_0 : decode cX2_size 0 = .ok (.aload_n 0, 1) := by decide +kernel
theorem dX2_size_1 : decode cX2_size 1 = .ok (.getfield 17, 3) := by decide +kernel
theorem dX2_size_4 : decode cX2_size 4 = .ok (.ireturn, 1) := by decide +kernel
def fX2_size (o : Nat) (h : Hz) : Option (Int32 × Hz) := (b1 (gI 2 1 o h) fun x1 => some (x1, h))
set_option maxHeartbeats 4000000 in
set_option maxRecDepth 100000 in
theorem wX2_size_0 {r0 : Int32} {h0 : Hz} (X : zX A D cy p s m args c cX2_size RX2 1) (hlk : meth.locks = false) (hr : meth.sig.returnType = (some .int)) (o : Nat) (h : Hz) (H : Heap) (locs : List Loc) (ls : Array Slot) (hl : lv_has ls 1 [(0, .ref o)]) (hW : zW A cy D h H) (hS : va_S A s.heap H locs) (h : fX2_size o h = some (r0, h0)) : W p l e ({ frames := 0, cells := 0, slots := 0, locals := 0 } : Room) s m args below meth c H locs 0 0 (MQ below (va_Qi (fun r1 u => r1 = r0 ∧ u = h0) (zB A D cy) A) args s 0 0 A) (F0 m 0 ls []) := by
  obtain ⟨hx, hb, hts, hown, hK9, hml, hN9, hA9⟩ := id X
  unfold fX2_size at h
  refine lv_aload_n hx hb dX2_size_0 rfl (lv_at hl 0 rfl) ?_
  replace h := b1_some h
  obtain ⟨x1, gx1, h⟩ := h
  refine z_getI X hW gx1 kX2 (by decide) (by decide) kf_X2_17 dX2_size_1 ?_
  exact z_eti X hlk hr hW hS h (by decide) (by decide) dX2_size_4

set_option maxHeartbeats 4000000 in
set_option maxRecDepth 100000 in
theorem cX2_size_met {l : Launch} {A : Nat → Prop} {D : va_G} {cy : Nat → ClassId} {r0 : Int32} {h0 : Hz} {o : Nat} {h : Hz} (g : fX2_size o h = some (r0, h0)) : Met l yX2_size (Cond.code yX2_size cX2_size 1 (some .int) :: wT) ({ frames := 0, cells := 0, slots := 0, locals := 0 } : Room) (va_Pc [.ref o] (zS A D cy h)) (va_Qi (fun r1 u => r1 = r0 ∧ u = h0) (zB A D cy) A) 0 0 A := by
  refine Met.ofW (cc := cX2_size) (maxL := 1) (ret := (some .int)) (by decide) rfl ?_
  intro p e s m args below meth c s₁ B hml hv
  obtain ⟨rfl, hW, hK, hN, hA⟩ := hv
  have X : zX A D cy p s m _ c cX2_size RX2 1 := ⟨B.exec, B.bytes, fun w hw => atoms_spec (ws := Cond.code yX2_size cX2_size 1 (some .int) :: wT) B.pre w (List.mem_cons_of_mem _ hw), findClass_of_methodNamed B.named, hK, hml, hN, hA⟩
  have hl := lv_entry [.ref o] (n := 1) (Nat.le_of_ble_eq_true rfl)
  rw [lg_entry_eq]
  generalize (lg_sl [.ref o] ++ List.replicate (1 - (lg_sl [.ref o]).length) Slot.unset).toArray = ls at hl ⊢
  have hl : lv_has ls 1 [(0, .ref o)] := hl
  exact wX2_size_0 X B.notSynchronized B.returns o _ _ _ _ (lv_sub hl [0] rfl) hW va_S.rf g

theorem dX5_placesSize_0 : decode cX5_placesSize 0 = .ok (.aload_n 0, 1) := by decide +kernel
theorem dX5_placesSize_1 : decode cX5_placesSize 1 = .ok (.getfield 50, 3) := by decide +kernel
theorem dX5_placesSize_4 : decode cX5_placesSize 4 = .ok (.arraylength, 1) := by decide +kernel
theorem dX5_placesSize_5 : decode cX5_placesSize 5 = .ok (.ireturn, 1) := by decide +kernel
def fX5_placesSize (o : Nat) (h : Hz) : Option (Int32 × Hz) := (b1 (gA 5 3 o h) fun a1 => (b1 (xN 17 a1 h) fun x2 => some (x2, h)))
set_option maxHeartbeats 4000000 in
set_option maxRecDepth 100000 in
theorem wX5_placesSize_0 {r0 : Int32} {h0 : Hz} (X : zX A D cy p s m args c cX5_placesSize RX5 1) (hlk : meth.locks = false) (hr : meth.sig.returnType = (some .int)) (o : Nat) (h : Hz) (H : Heap) (locs : List Loc) (ls : Array Slot) (hl : lv_has ls 1 [(0, .ref o)]) (hW : zW A cy D h H) (hS : va_S A s.heap H locs) (h : fX5_placesSize o h = some (r0, h0)) : W p l e ({ frames := 0, cells := 0, slots := 0, locals := 0 } : Room) s m args below meth c H locs 0 0 (MQ below (va_Qi (fun r1 u => r1 = r0 ∧ u = h0) (zB A D cy) A) args s 0 0 A) (F0 m 0 ls []) := by
  obtain ⟨hx, hb, hts, hown, hK9, hml, hN9, hA9⟩ := id X
  unfold fX5_placesSize at h
  refine lv_aload_n hx hb dX5_placesSize_0 rfl (lv_at hl 0 rfl) ?_
  replace h := b1_some h
  obtain ⟨a1, ga1, h⟩ := h
  refine z_getA X hW ga1 kX5 (by decide) (by decide) kf_X5_50 dX5_placesSize_1 ?_
  replace h := b1_some h
  obtain ⟨x2, gx2, h⟩ := h
  refine z_alenP X hW gx2 (by decide) (by decide) rfl dX5_placesSize_4 ?_
  exact z_eti X hlk hr hW hS h (by decide) (by decide) dX5_placesSize_5

set_option maxHeartbeats 4000000 in
set_option maxRecDepth 100000 in
theorem cX5_placesSize_met {l : Launch} {A : Nat → Prop} {D : va_G} {cy : Nat → ClassId} {r0 : Int32} {h0 : Hz} {o : Nat} {h : Hz} (g : fX5_placesSize o h = some (r0, h0)) : Met l yX5_placesSize (Cond.code yX5_placesSize cX5_placesSize 1 (some .int) :: wT) ({ frames := 0, cells := 0, slots := 0, locals := 0 } : Room) (va_Pc [.ref o] (zS A D cy h)) (va_Qi (fun r1 u => r1 = r0 ∧ u = h0) (zB A D cy) A) 0 0 A := by
  refine Met.ofW (cc := cX5_placesSize) (maxL := 1) (ret := (some .int)) (by decide) rfl ?_
  intro p e s m args below meth c s₁ B hml hv
  obtain ⟨rfl, hW, hK, hN, hA⟩ := hv
  have X : zX A D cy p s m _ c cX5_placesSize RX5 1 := ⟨B.exec, B.bytes, fun w hw => atoms_spec (ws := Cond.code yX5_placesSize cX5_placesSize 1 (some .int) :: wT) B.pre w (List.mem_cons_of_mem _ hw), findClass_of_methodNamed B.named, hK, hml, hN, hA⟩
  have hl := lv_entry [.ref o] (n := 1) (Nat.le_of_ble_eq_true rfl)
  rw [lg_entry_eq]
  generalize (lg_sl [.ref o] ++ List.replicate (1 - (lg_sl [.ref o]).length) Slot.unset).toArray = ls at hl ⊢
  have hl : lv_has ls 1 [(0, .ref o)] := hl
  exact wX5_placesSize_0 X B.notSynchronized B.returns o _ _ _ _ (lv_sub hl [0] rfl) hW va_S.rf g

theorem dX5_hasPlace_0 : decode cX5_hasPlace 0 = .ok (.iload_n 1, 1) := by decide +kernel
theorem dX5_hasPlace_1 : decode cX5_hasPlace 1 = .ok (.ifCond .lt 25, 3) := by decide +kernel
theorem dX5_hasPlace_4 : decode cX5_hasPlace 4 = .ok (.iload_n 1, 1) := by decide +kernel
theorem dX5_hasPlace_5 : decode cX5_hasPlace 5 = .ok (.aload_n 0, 1) := by decide +kernel
theorem dX5_hasPlace_6 : decode cX5_hasPlace 6 = .ok (.getfield 50, 3) := by decide +kernel
theorem dX5_hasPlace_9 : decode cX5_hasPlace 9 = .ok (.arraylength, 1) := by decide +kernel
theorem dX5_hasPlace_10 : decode cX5_hasPlace 10 = .ok (.if_icmp .ge 16, 3) := by decide +kernel
theorem dX5_hasPlace_13 : decode cX5_hasPlace 13 = .ok (.iload_n 1, 1) := by decide +kernel
theorem dX5_hasPlace_14 : decode cX5_hasPlace 14 = .ok (.aload_n 0, 1) := by decide +kernel
theorem dX5_hasPlace_15 : decode cX5_hasPlace 15 = .ok (.getfield 56, 3) := by decide +kernel
theorem dX5_hasPlace_18 : decode cX5_hasPlace 18 = .ok (.arraylength, 1) := by decide +kernel
theorem dX5_hasPlace_19 : decode cX5_hasPlace 19 = .ok (.if_icmp .ge 7, 3) := by decide +kernel
theorem dX5_hasPlace_22 : decode cX5_hasPlace 22 = .ok (.iconst 1, 1) := by decide +kernel
theorem dX5_hasPlace_23 : decode cX5_hasPlace 23 = .ok (.goto 4, 3) := by decide +kernel
theorem dX5_hasPlace_26 : decode cX5_hasPlace 26 = .ok (.iconst 0, 1) := by decide +kernel
theorem dX5_hasPlace_27 : decode cX5_hasPlace 27 = .ok (.ireturn, 1) := by decide +kernel
def fX5_hasPlace (o : Nat) (v1 : Int32) (h : Hz) : Option (Int32 × Hz) := (if v1 < 0 then rz 0 h else (b1 (gA 5 3 o h) fun a2 => (b1 (xN 17 a2 h) fun x3 => (if x3 ≤ v1 then rz 0 h else (b1 (gA 5 4 o h) fun a5 => (b1 (xN 16 a5 h) fun x6 => (if x6 ≤ v1 then rz 0 h else rz 1 h)))))))
set_option maxHeartbeats 4000000 in
set_option maxRecDepth 100000 in
theorem wX5_hasPlace_0 {r0 : Int32} {h0 : Hz} (X : zX A D cy p s m args c cX5_hasPlace RX5 2) (hlk : meth.locks = false) (hr : meth.sig.returnType = (some .boolean)) (o : Nat) (v1 : Int32) (h : Hz) (H : Heap) (locs : List Loc) (ls : Array Slot) (hl : lv_has ls 2 [(0, .ref o), (1, .int v1)]) (hW : zW A cy D h H) (hS : va_S A s.heap H locs) (h : fX5_hasPlace o v1 h = some (r0, h0)) : W p l e ({ frames := 0, cells := 0, slots := 0, locals := 0 } : Room) s m args below meth c H locs 0 0 (MQ below (va_Qi (fun r1 u => r1 = r0 ∧ u = h0) (zB A D cy) A) args s 0 0 A) (F0 m 0 ls []) := by
  obtain ⟨hx, hb, hts, hown, hK9, hml, hN9, hA9⟩ := id X
  unfold fX5_hasPlace at h
  refine lv_iload_n hx hb dX5_hasPlace_0 rfl (lv_at hl 1 rfl) ?_
  refine lv_if_lt (tgt := 26) hx hb dX5_hasPlace_1 (by decide) (fun c1 => ?_) (fun c1 => ?_)
  · replace h := it_t h c1
    refine lv_iconst (v := 0) hx hb dX5_hasPlace_26 (by decide) ?_
    exact z_etz X hlk hr hW hS h (by decide) (by decide) dX5_hasPlace_27
  · replace h := it_f h c1
    refine lv_iload_n hx hb dX5_hasPlace_4 rfl (lv_at hl 1 rfl) ?_
    refine lv_aload_n hx hb dX5_hasPlace_5 rfl (lv_at hl 0 rfl) ?_
    replace h := b1_some h
    obtain ⟨a2, ga2, h⟩ := h
    refine z_getA X hW ga2 kX5 (by decide) (by decide) kf_X5_50 dX5_hasPlace_6 ?_
    replace h := b1_some h
    obtain ⟨x3, gx3, h⟩ := h
    refine z_alenP X hW gx3 (by decide) (by decide) rfl dX5_hasPlace_9 ?_
    refine lv_icmp_ge (tgt := 26) hx hb dX5_hasPlace_10 (by decide) (fun c4 => ?_) (fun c4 => ?_)
    · replace h := it_t h c4
      refine lv_iconst (v := 0) hx hb dX5_hasPlace_26 (by decide) ?_
      exact z_etz X hlk hr hW hS h (by decide) (by decide) dX5_hasPlace_27
    · replace h := it_f h c4
      refine lv_iload_n hx hb dX5_hasPlace_13 rfl (lv_at hl 1 rfl) ?_
      refine lv_aload_n hx hb dX5_hasPlace_14 rfl (lv_at hl 0 rfl) ?_
      replace h := b1_some h
      obtain ⟨a5, ga5, h⟩ := h
      refine z_getA X hW ga5 kX5 (by decide) (by decide) kf_X5_56 dX5_hasPlace_15 ?_
      replace h := b1_some h
      obtain ⟨x6, gx6, h⟩ := h
      refine z_alenP X hW gx6 (by decide) (by decide) rfl dX5_hasPlace_18 ?_
      refine lv_icmp_ge (tgt := 26) hx hb dX5_hasPlace_19 (by decide) (fun c7 => ?_) (fun c7 => ?_)
      · replace h := it_t h c7
        refine lv_iconst (v := 0) hx hb dX5_hasPlace_26 (by decide) ?_
        exact z_etz X hlk hr hW hS h (by decide) (by decide) dX5_hasPlace_27
      · replace h := it_f h c7
        refine lv_iconst (v := 1) hx hb dX5_hasPlace_22 (by decide) ?_
        refine lv_goto (tgt := 27) hx hb dX5_hasPlace_23 (by decide) ?_
        exact z_etz X hlk hr hW hS h (by decide) (by decide) dX5_hasPlace_27

set_option maxHeartbeats 4000000 in
set_option maxRecDepth 100000 in
theorem cX5_hasPlace_met {l : Launch} {A : Nat → Prop} {D : va_G} {cy : Nat → ClassId} {r0 : Int32} {h0 : Hz} {o : Nat} {v1 : Int32} {h : Hz} (g : fX5_hasPlace o v1 h = some (r0, h0)) : Met l yX5_hasPlace (Cond.code yX5_hasPlace cX5_hasPlace 2 (some .boolean) :: wT) ({ frames := 0, cells := 0, slots := 0, locals := 0 } : Room) (va_Pc [.ref o, .int v1] (zS A D cy h)) (va_Qi (fun r1 u => r1 = r0 ∧ u = h0) (zB A D cy) A) 0 0 A := by
  refine Met.ofW (cc := cX5_hasPlace) (maxL := 2) (ret := (some .boolean)) (by decide) rfl ?_
  intro p e s m args below meth c s₁ B hml hv
  obtain ⟨rfl, hW, hK, hN, hA⟩ := hv
  have X : zX A D cy p s m _ c cX5_hasPlace RX5 2 := ⟨B.exec, B.bytes, fun w hw => atoms_spec (ws := Cond.code yX5_hasPlace cX5_hasPlace 2 (some .boolean) :: wT) B.pre w (List.mem_cons_of_mem _ hw), findClass_of_methodNamed B.named, hK, hml, hN, hA⟩
  have hl := lv_entry [.ref o, .int v1] (n := 2) (Nat.le_of_ble_eq_true rfl)
  rw [lg_entry_eq]
  generalize (lg_sl [.ref o, .int v1] ++ List.replicate (2 - (lg_sl [.ref o, .int v1]).length) Slot.unset).toArray = ls at hl ⊢
  have hl : lv_has ls 2 [(0, .ref o), (1, .int v1)] := hl
  exact wX5_hasPlace_0 X B.notSynchronized B.returns o v1 _ _ _ _ (lv_sub hl [0, 1] rfl) hW va_S.rf g

theorem dX5_thingAt_0 : decode cX5_thingAt 0 = .ok (.aload_n 0, 1) := by decide +kernel
theorem dX5_thingAt_1 : decode cX5_thingAt 1 = .ok (.iload_n 1, 1) := by decide +kernel
theorem dX5_thingAt_2 : decode cX5_thingAt 2 = .ok (.invokevirtual 60, 3) := by decide +kernel
theorem dX5_thingAt_5 : decode cX5_thingAt 5 = .ok (.ifCond .eq 12, 3) := by decide +kernel
theorem dX5_thingAt_8 : decode cX5_thingAt 8 = .ok (.aload_n 0, 1) := by decide +kernel
theorem dX5_thingAt_9 : decode cX5_thingAt 9 = .ok (.getfield 50, 3) := by decide +kernel
theorem dX5_thingAt_12 : decode cX5_thingAt 12 = .ok (.iload_n 1, 1) := by decide +kernel
theorem dX5_thingAt_13 : decode cX5_thingAt 13 = .ok (.aaload, 1) := by decide +kernel
theorem dX5_thingAt_14 : decode cX5_thingAt 14 = .ok (.goto 4, 3) := by decide +kernel
theorem dX5_thingAt_17 : decode cX5_thingAt 17 = .ok (.aconst_null, 1) := by decide +kernel
theorem dX5_thingAt_18 : decode cX5_thingAt 18 = .ok (.areturn, 1) := by decide +kernel
def fX5_thingAt (o : Nat) (v1 : Int32) (h : Hz) : Option (Option Nat × Hz) := (b1 (tg 5 o h) fun _ => (b2 (fX5_hasPlace o v1 h) fun x2 s3 => (if x2 = 0 then some (none, s3) else (b1 (gA 5 3 o s3) fun a5 => (b1 (xP 17 a5 v1 s3) fun r6 => some (r6, s3))))))
set_option maxHeartbeats 4000000 in
set_option maxRecDepth 100000 in
theorem wX5_thingAt_0 {r0 : Option Nat} {h0 : Hz} (X : zX A D cy p s m args c cX5_thingAt RX5 2) (hlk : meth.locks = false) (hr : meth.sig.returnType = (some (.object "FarHold$Thing"))) (o : Nat) (v1 : Int32) (h : Hz) (H : Heap) (locs : List Loc) (ls : Array Slot) (hl : lv_has ls 2 [(0, .ref o), (1, .int v1)]) (hW : zW A cy D h H) (hS : va_S A s.heap H locs) (h : fX5_thingAt o v1 h = some (r0, h0)) : W p l e ({ frames := 1, cells := 0, slots := 0, locals := 21 } : Room) s m args below meth c H locs 0 0 (MQ below (va_Qq (fun r1 u => r1 = r0 ∧ u = h0) (zB A D cy) A) args s 0 0 A) (F0 m 0 ls []) := by
  obtain ⟨hx, hb, hts, hown, hK9, hml, hN9, hA9⟩ := id X
  unfold fX5_thingAt at h
  refine lv_aload_n hx hb dX5_thingAt_0 rfl (lv_at hl 0 rfl) ?_
  refine lv_iload_n hx hb dX5_thingAt_1 rfl (lv_at hl 1 rfl) ?_
  replace h := b1_some h
  obtain ⟨q1, gq1, h⟩ := h
  replace h := b2_some h
  obtain ⟨x2, s3, gs3, h⟩ := h
  refine z_callVi (rest := []) X hW hS (cX5_hasPlace_met gs3) kb_X5_hasPlace kv_X5_hasPlace kl_X5_60 (it_v gq1).1 kX5 rfl rfl ⟨Nat.le_of_ble_eq_true rfl, Nat.le_of_ble_eq_true rfl⟩ rfl rfl (by decide) hl.1 dX5_thingAt_2 ⟨(by decide), (by decide)⟩ (fun H locs hW hS => ?_)
  refine lv_if_eq (tgt := 17) hx hb dX5_thingAt_5 (by decide) (fun c4 => ?_) (fun c4 => ?_)
  · replace h := it_t h c4
    refine lv_null hx hb dX5_thingAt_17 ?_
    exact z_eta (v := none) X hlk hr hW hS h (by decide) (by decide) dX5_thingAt_18
  · replace h := it_f h c4
    refine lv_aload_n hx hb dX5_thingAt_8 rfl (lv_at hl 0 rfl) ?_
    replace h := b1_some h
    obtain ⟨a5, ga5, h⟩ := h
    refine z_getA X hW ga5 kX5 (by decide) (by decide) kf_X5_50 dX5_thingAt_9 ?_
    refine lv_iload_n hx hb dX5_thingAt_12 rfl (lv_at hl 1 rfl) ?_
    replace h := b1_some h
    obtain ⟨r6, gr6, h⟩ := h
    refine z_aldP X hW gr6 (by decide) (by decide) rfl dX5_thingAt_13 ?_
    refine lv_goto (tgt := 18) hx hb dX5_thingAt_14 (by decide) ?_
    exact z_eta (v := r6) X hlk hr hW hS h (by decide) (by decide) dX5_thingAt_18

set_option maxHeartbeats 4000000 in
set_option maxRecDepth 100000 in
theorem cX5_thingAt_met {l : Launch} {A : Nat → Prop} {D : va_G} {cy : Nat → ClassId} {r0 : Option Nat} {h0 : Hz} {o : Nat} {v1 : Int32} {h : Hz} (g : fX5_thingAt o v1 h = some (r0, h0)) : Met l yX5_thingAt (Cond.code yX5_thingAt cX5_thingAt 2 (some (.object "FarHold$Thing")) :: wT) ({ frames := 1, cells := 0, slots := 0, locals := 21 } : Room) (va_Pc [.ref o, .int v1] (zS A D cy h)) (va_Qq (fun r1 u => r1 = r0 ∧ u = h0) (zB A D cy) A) 0 0 A := by
  refine Met.ofW (cc := cX5_thingAt) (maxL := 2) (ret := (some (.object "FarHold$Thing"))) (by decide) rfl ?_
  intro p e s m args below meth c s₁ B hml hv
  obtain ⟨rfl, hW, hK, hN, hA⟩ := hv
  have X : zX A D cy p s m _ c cX5_thingAt RX5 2 := ⟨B.exec, B.bytes, fun w hw => atoms_spec (ws := Cond.code yX5_thingAt cX5_thingAt 2 (some (.object "FarHold$Thing")) :: wT) B.pre w (List.mem_cons_of_mem _ hw), findClass_of_methodNamed B.named, hK, hml, hN, hA⟩
  have hl := lv_entry [.ref o, .int v1] (n := 2) (Nat.le_of_ble_eq_true rfl)
  rw [lg_entry_eq]
  generalize (lg_sl [.ref o, .int v1] ++ List.replicate (2 - (lg_sl [.ref o, .int v1]).length) Slot.unset).toArray = ls at hl ⊢
  have hl : lv_has ls 2 [(0, .ref o), (1, .int v1)] := hl
  exact wX5_thingAt_0 X B.notSynchronized B.returns o v1 _ _ _ _ (lv_sub hl [0, 1] rfl) hW va_S.rf g

theorem dX7_at_0 : decode cX7_at 0 = .ok (.iload_n 1, 1) := by decide +kernel
theorem dX7_at_1 : decode cX7_at 1 = .ok (.ifCond .lt 29, 3) := by decide +kernel
theorem dX7_at_4 : decode cX7_at 4 = .ok (.iload_n 1, 1) := by decide +kernel
theorem dX7_at_5 : decode cX7_at 5 = .ok (.aload_n 0, 1) := by decide +kernel
theorem dX7_at_6 : decode cX7_at 6 = .ok (.getfield 17, 3) := by decide +kernel
theorem dX7_at_9 : decode cX7_at 9 = .ok (.if_icmp .ge 21, 3) := by decide +kernel
theorem dX7_at_12 : decode cX7_at 12 = .ok (.iload_n 1, 1) := by decide +kernel
theorem dX7_at_13 : decode cX7_at 13 = .ok (.aload_n 0, 1) := by decide +kernel
theorem dX7_at_14 : decode cX7_at 14 = .ok (.getfield 11, 3) := by decide +kernel
theorem dX7_at_17 : decode cX7_at 17 = .ok (.arraylength, 1) := by decide +kernel
theorem dX7_at_18 : decode cX7_at 18 = .ok (.if_icmp .ge 12, 3) := by decide +kernel
theorem dX7_at_21 : decode cX7_at 21 = .ok (.aload_n 0, 1) := by decide +kernel
theorem dX7_at_22 : decode cX7_at 22 = .ok (.getfield 11, 3) := by decide +kernel
theorem dX7_at_25 : decode cX7_at 25 = .ok (.iload_n 1, 1) := by decide +kernel
theorem dX7_at_26 : decode cX7_at 26 = .ok (.aaload, 1) := by decide +kernel
theorem dX7_at_27 : decode cX7_at 27 = .ok (.goto 4, 3) := by decide +kernel
theorem dX7_at_30 : decode cX7_at 30 = .ok (.aconst_null, 1) := by decide +kernel
theorem dX7_at_31 : decode cX7_at 31 = .ok (.areturn, 1) := by decide +kernel
def fX7_at (o : Nat) (v1 : Int32) (h : Hz) : Option (Option Nat × Hz) := (if v1 < 0 then some (none, h) else (b1 (gI 7 1 o h) fun x2 => (if x2 ≤ v1 then some (none, h) else (b1 (gA 7 0 o h) fun a4 => (b1 (xN 18 a4 h) fun x5 => (if x5 ≤ v1 then some (none, h) else (b1 (gA 7 0 o h) fun a7 => (b1 (xP 18 a7 v1 h) fun r8 => some (r8, h)))))))))
set_option maxHeartbeats 4000000 in
set_option maxRecDepth 100000 in
theorem wX7_at_0 {r0 : Option Nat} {h0 : Hz} (X : zX A D cy p s m args c cX7_at RX7 2) (hlk : meth.locks = false) (hr : meth.sig.returnType = (some (.object "FarHold$WaitingName"))) (o : Nat) (v1 : Int32) (h : Hz) (H : Heap) (locs : List Loc) (ls : Array Slot) (hl : lv_has ls 2 [(0, .ref o), (1, .int v1)]) (hW : zW A cy D h H) (hS : va_S A s.heap H locs) (h : fX7_at o v1 h = some (r0, h0)) : W p l e ({ frames := 0, cells := 0, slots := 0, locals := 0 } : Room) s m args below meth c H locs 0 0 (MQ below (va_Qq (fun r1 u => r1 = r0 ∧ u = h0) (zB A D cy) A) args s 0 0 A) (F0 m 0 ls []) := by
  obtain ⟨hx, hb, hts, hown, hK9, hml, hN9, hA9⟩ := id X
  unfold fX7_at at h
  refine lv_iload_n hx hb dX7_at_0 rfl (lv_at hl 1 rfl) ?_
  refine lv_if_lt (tgt := 30) hx hb dX7_at_1 (by decide) (fun c1 => ?_) (fun c1 => ?_)
  · replace h := it_t h c1
    refine lv_null hx hb dX7_at_30 ?_
    exact z_eta (v := none) X hlk hr hW hS h (by decide) (by decide) dX7_at_31
  · replace h := it_f h c1
    refine lv_iload_n hx hb dX7_at_4 rfl (lv_at hl 1 rfl) ?_
    refine lv_aload_n hx hb dX7_at_5 rfl (lv_at hl 0 rfl) ?_
    replace h := b1_some h
    obtain ⟨x2, gx2, h⟩ := h
    refine z_getI X hW gx2 kX7 (by decide) (by decide) kf_X7_17 dX7_at_6 ?_
    refine lv_icmp_ge (tgt := 30) hx hb dX7_at_9 (by decide) (fun c3 => ?_) (fun c3 => ?_)
    · replace h := it_t h c3
      refine lv_null hx hb dX7_at_30 ?_
      exact z_eta (v := none) X hlk hr hW hS h (by decide) (by decide) dX7_at_31
    · replace h := it_f h c3
      refine lv_iload_n hx hb dX7_at_12 rfl (lv_at hl 1 rfl) ?_
      refine lv_aload_n hx hb dX7_at_13 rfl (lv_at hl 0 rfl) ?_
      replace h := b1_some h
      obtain ⟨a4, ga4, h⟩ := h
      refine z_getA X hW ga4 kX7 (by decide) (by decide) kf_X7_11 dX7_at_14 ?_
      replace h := b1_some h
      obtain ⟨x5, gx5, h⟩ := h
      refine z_alenP X hW gx5 (by decide) (by decide) rfl dX7_at_17 ?_
      refine lv_icmp_ge (tgt := 30) hx hb dX7_at_18 (by decide) (fun c6 => ?_) (fun c6 => ?_)
      · replace h := it_t h c6
        refine lv_null hx hb dX7_at_30 ?_
        exact z_eta (v := none) X hlk hr hW hS h (by decide) (by decide) dX7_at_31
      · replace h := it_f h c6
        refine lv_aload_n hx hb dX7_at_21 rfl (lv_at hl 0 rfl) ?_
        replace h := b1_some h
        obtain ⟨a7, ga7, h⟩ := h
        refine z_getA X hW ga7 kX7 (by decide) (by decide) kf_X7_11 dX7_at_22 ?_
        refine lv_iload_n hx hb dX7_at_25 rfl (lv_at hl 1 rfl) ?_
        replace h := b1_some h
        obtain ⟨r8, gr8, h⟩ := h
        refine z_aldP X hW gr8 (by decide) (by decide) rfl dX7_at_26 ?_
        refine lv_goto (tgt := 31) hx hb dX7_at_27 (by decide) ?_
        exact z_eta (v := r8) X hlk hr hW hS h (by decide) (by decide) dX7_at_31

set_option maxHeartbeats 4000000 in
set_option maxRecDepth 100000 in
theorem cX7_at_met {l : Launch} {A : Nat → Prop} {D : va_G} {cy : Nat → ClassId} {r0 : Option Nat} {h0 : Hz} {o : Nat} {v1 : Int32} {h : Hz} (g : fX7_at o v1 h = some (r0, h0)) : Met l yX7_at (Cond.code yX7_at cX7_at 2 (some (.object "FarHold$WaitingName")) :: wT) ({ frames := 0, cells := 0, slots := 0, locals := 0 } : Room) (va_Pc [.ref o, .int v1] (zS A D cy h)) (va_Qq (fun r1 u => r1 = r0 ∧ u = h0) (zB A D cy) A) 0 0 A := by
  refine Met.ofW (cc := cX7_at) (maxL := 2) (ret := (some (.object "FarHold$WaitingName"))) (by decide) rfl ?_
  intro p e s m args below meth c s₁ B hml hv
  obtain ⟨rfl, hW, hK, hN, hA⟩ := hv
  have X : zX A D cy p s m _ c cX7_at RX7 2 := ⟨B.exec, B.bytes, fun w hw => atoms_spec (ws := Cond.code yX7_at cX7_at 2 (some (.object "FarHold$WaitingName")) :: wT) B.pre w (List.mem_cons_of_mem _ hw), findClass_of_methodNamed B.named, hK, hml, hN, hA⟩
  have hl := lv_entry [.ref o, .int v1] (n := 2) (Nat.le_of_ble_eq_true rfl)
  rw [lg_entry_eq]
  generalize (lg_sl [.ref o, .int v1] ++ List.replicate (2 - (lg_sl [.ref o, .int v1]).length) Slot.unset).toArray = ls at hl ⊢
  have hl : lv_has ls 2 [(0, .ref o), (1, .int v1)] := hl
  exact wX7_at_0 X B.notSynchronized B.returns o v1 _ _ _ _ (lv_sub hl [0, 1] rfl) hW va_S.rf g

theorem dX7_size_0 : decode cX7_size 0 = .ok (.aload_n 0, 1) := by decide +kernel
theorem dX7_size_1 : decode cX7_size 1 = .ok (.getfield 17, 3) := by decide +kernel
theorem dX7_size_4 : decode cX7_size 4 = .ok (.ireturn, 1) := by decide +kernel
def fX7_size (o : Nat) (h : Hz) : Option (Int32 × Hz) := (b1 (gI 7 1 o h) fun x1 => some (x1, h))
set_option maxHeartbeats 4000000 in
set_option maxRecDepth 100000 in
theorem wX7_size_0 {r0 : Int32} {h0 : Hz} (X : zX A D cy p s m args c cX7_size RX7 1) (hlk : meth.locks = false) (hr : meth.sig.returnType = (some .int)) (o : Nat) (h : Hz) (H : Heap) (locs : List Loc) (ls : Array Slot) (hl : lv_has ls 1 [(0, .ref o)]) (hW : zW A cy D h H) (hS : va_S A s.heap H locs) (h : fX7_size o h = some (r0, h0)) : W p l e ({ frames := 0, cells := 0, slots := 0, locals := 0 } : Room) s m args below meth c H locs 0 0 (MQ below (va_Qi (fun r1 u => r1 = r0 ∧ u = h0) (zB A D cy) A) args s 0 0 A) (F0 m 0 ls []) := by
  obtain ⟨hx, hb, hts, hown, hK9, hml, hN9, hA9⟩ := id X
  unfold fX7_size at h
  refine lv_aload_n hx hb dX7_size_0 rfl (lv_at hl 0 rfl) ?_
  replace h := b1_some h
  obtain ⟨x1, gx1, h⟩ := h
  refine z_getI X hW gx1 kX7 (by decide) (by decide) kf_X7_17 dX7_size_1 ?_
  exact z_eti X hlk hr hW hS h (by decide) (by decide) dX7_size_4

set_option maxHeartbeats 4000000 in
set_option maxRecDepth 100000 in
theorem cX7_size_met {l : Launch} {A : Nat → Prop} {D : va_G} {cy : Nat → ClassId} {r0 : Int32} {h0 : Hz} {o : Nat} {h : Hz} (g : fX7_size o h = some (r0, h0)) : Met l yX7_size (Cond.code yX7_size cX7_size 1 (some .int) :: wT) ({ frames := 0, cells := 0, slots := 0, locals := 0 } : Room) (va_Pc [.ref o] (zS A D cy h)) (va_Qi (fun r1 u => r1 = r0 ∧ u = h0) (zB A D cy) A) 0 0 A := by
  refine Met.ofW (cc := cX7_size) (maxL := 1) (ret := (some .int)) (by decide) rfl ?_
  intro p e s m args below meth c s₁ B hml hv
  obtain ⟨rfl, hW, hK, hN, hA⟩ := hv
  have X : zX A D cy p s m _ c cX7_size RX7 1 := ⟨B.exec, B.bytes, fun w hw => atoms_spec (ws := Cond.code yX7_size cX7_size 1 (some .int) :: wT) B.pre w (List.mem_cons_of_mem _ hw), findClass_of_methodNamed B.named, hK, hml, hN, hA⟩
  have hl := lv_entry [.ref o] (n := 1) (Nat.le_of_ble_eq_true rfl)
  rw [lg_entry_eq]
  generalize (lg_sl [.ref o] ++ List.replicate (1 - (lg_sl [.ref o]).length) Slot.unset).toArray = ls at hl ⊢
  have hl : lv_has ls 1 [(0, .ref o)] := hl
  exact wX7_size_0 X B.notSynchronized B.returns o _ _ _ _ (lv_sub hl [0] rfl) hW va_S.rf g

theorem dX1_markNext_0 : decode cX1_markNext 0 = .ok (.iconst 0, 1) := by decide +kernel
theorem dX1_markNext_1 : decode cX1_markNext 1 = .ok (.istore 4, 2) := by decide +kernel
theorem dX1_markNext_3 : decode cX1_markNext 3 = .ok (.iload 4, 2) := by decide +kernel
theorem dX1_markNext_5 : decode cX1_markNext 5 = .ok (.aload_n 1, 1) := by decide +kernel
theorem dX1_markNext_6 : decode cX1_markNext 6 = .ok (.invokevirtual 72, 3) := by decide +kernel
theorem dX1_markNext_9 : decode cX1_markNext 9 = .ok (.if_icmp .ge 19, 3) := by decide +kernel
theorem dX1_markNext_12 : decode cX1_markNext 12 = .ok (.aload_n 0, 1) := by decide +kernel
theorem dX1_markNext_13 : decode cX1_markNext 13 = .ok (.aload_n 1, 1) := by decide +kernel
theorem dX1_markNext_14 : decode cX1_markNext 14 = .ok (.iload 4, 2) := by decide +kernel
theorem dX1_markNext_16 : decode cX1_markNext 16 = .ok (.invokevirtual 75, 3) := by decide +kernel
theorem dX1_markNext_19 : decode cX1_markNext 19 = .ok (.invokevirtual 78, 3) := by decide +kernel
theorem dX1_markNext_22 : decode cX1_markNext 22 = .ok (.iinc 4 1, 3) := by decide +kernel
theorem dX1_markNext_25 : decode cX1_markNext 25 = .ok (.goto (-22), 3) := by decide +kernel
theorem dX1_markNext_28 : decode cX1_markNext 28 = .ok (.aload_n 0, 1) := by decide +kernel
theorem dX1_markNext_29 : decode cX1_markNext 29 = .ok (.aload_n 1, 1) := by decide +kernel
theorem dX1_markNext_30 : decode cX1_markNext 30 = .ok (.getfield 82, 3) := by decide +kernel
theorem dX1_markNext_33 : decode cX1_markNext 33 = .ok (.invokevirtual 78, 3) := by decide +kernel
theorem dX1_markNext_36 : decode cX1_markNext 36 = .ok (.aload_n 1, 1) := by decide +kernel
theorem dX1_markNext_37 : decode cX1_markNext 37 = .ok (.getfield 53, 3) := by decide +kernel
theorem dX1_markNext_40 : decode cX1_markNext 40 = .ok (.iconst 2, 1) := by decide +kernel
theorem dX1_markNext_41 : decode cX1_markNext 41 = .ok (.if_icmp .eq 4, 3) := by decide +kernel
theorem dX1_markNext_44 : decode cX1_markNext 44 = .ok (.return_, 1) := by decide +kernel
theorem dX1_markNext_45 : decode cX1_markNext 45 = .ok (.iconst 0, 1) := by decide +kernel
theorem dX1_markNext_46 : decode cX1_markNext 46 = .ok (.istore 4, 2) := by decide +kernel
theorem dX1_markNext_48 : decode cX1_markNext 48 = .ok (.iload 4, 2) := by decide +kernel
theorem dX1_markNext_50 : decode cX1_markNext 50 = .ok (.aload_n 2, 1) := by decide +kernel
theorem dX1_markNext_51 : decode cX1_markNext 51 = .ok (.invokevirtual 86, 3) := by decide +kernel
theorem dX1_markNext_54 : decode cX1_markNext 54 = .ok (.if_icmp .ge 48, 3) := by decide +kernel
theorem dX1_markNext_57 : decode cX1_markNext 57 = .ok (.aload_n 2, 1) := by decide +kernel
theorem dX1_markNext_58 : decode cX1_markNext 58 = .ok (.iload 4, 2) := by decide +kernel
theorem dX1_markNext_60 : decode cX1_markNext 60 = .ok (.invokevirtual 89, 3) := by decide +kernel
theorem dX1_markNext_63 : decode cX1_markNext 63 = .ok (.astore 5, 2) := by decide +kernel
theorem dX1_markNext_65 : decode cX1_markNext 65 = .ok (.aload 5, 2) := by decide +kernel
theorem dX1_markNext_67 : decode cX1_markNext 67 = .ok (.ifnull 29, 3) := by decide +kernel
theorem dX1_markNext_70 : decode cX1_markNext 70 = .ok (.aload 5, 2) := by decide +kernel
theorem dX1_markNext_72 : decode cX1_markNext 72 = .ok (.getfield 92, 3) := by decide +kernel
theorem dX1_markNext_75 : decode cX1_markNext 75 = .ok (.ifCond .eq 21, 3) := by decide +kernel
theorem dX1_markNext_78 : decode cX1_markNext 78 = .ok (.aload 5, 2) := by decide +kernel
theorem dX1_markNext_80 : decode cX1_markNext 80 = .ok (.getfield 98, 3) := by decide +kernel
theorem dX1_markNext_83 : decode cX1_markNext 83 = .ok (.aload_n 1, 1) := by decide +kernel
theorem dX1_markNext_84 : decode cX1_markNext 84 = .ok (.if_acmp .ne 12, 3) := by decide +kernel
theorem dX1_markNext_87 : decode cX1_markNext 87 = .ok (.aload_n 0, 1) := by decide +kernel
theorem dX1_markNext_88 : decode cX1_markNext 88 = .ok (.aload 5, 2) := by decide +kernel
theorem dX1_markNext_90 : decode cX1_markNext 90 = .ok (.getfield 101, 3) := by decide +kernel
theorem dX1_markNext_93 : decode cX1_markNext 93 = .ok (.invokevirtual 78, 3) := by decide +kernel
theorem dX1_markNext_96 : decode cX1_markNext 96 = .ok (.iinc 4 1, 3) := by decide +kernel
theorem dX1_markNext_99 : decode cX1_markNext 99 = .ok (.goto (-51), 3) := by decide +kernel
theorem dX1_markNext_102 : decode cX1_markNext 102 = .ok (.iconst 0, 1) := by decide +kernel
theorem dX1_markNext_103 : decode cX1_markNext 103 = .ok (.istore 4, 2) := by decide +kernel
theorem dX1_markNext_105 : decode cX1_markNext 105 = .ok (.iload 4, 2) := by decide +kernel
theorem dX1_markNext_107 : decode cX1_markNext 107 = .ok (.aload_n 3, 1) := by decide +kernel
theorem dX1_markNext_108 : decode cX1_markNext 108 = .ok (.invokevirtual 104, 3) := by decide +kernel
theorem dX1_markNext_111 : decode cX1_markNext 111 = .ok (.if_icmp .ge 40, 3) := by decide +kernel
theorem dX1_markNext_114 : decode cX1_markNext 114 = .ok (.aload_n 3, 1) := by decide +kernel
theorem dX1_markNext_115 : decode cX1_markNext 115 = .ok (.iload 4, 2) := by decide +kernel
theorem dX1_markNext_117 : decode cX1_markNext 117 = .ok (.invokevirtual 107, 3) := by decide +kernel
theorem dX1_markNext_120 : decode cX1_markNext 120 = .ok (.astore 5, 2) := by decide +kernel
theorem dX1_markNext_122 : decode cX1_markNext 122 = .ok (.aload 5, 2) := by decide +kernel
theorem dX1_markNext_124 : decode cX1_markNext 124 = .ok (.ifnull 21, 3) := by decide +kernel
theorem dX1_markNext_127 : decode cX1_markNext 127 = .ok (.aload 5, 2) := by decide +kernel
theorem dX1_markNext_129 : decode cX1_markNext 129 = .ok (.getfield 110, 3) := by decide +kernel
theorem dX1_markNext_132 : decode cX1_markNext 132 = .ok (.aload_n 1, 1) := by decide +kernel
theorem dX1_markNext_133 : decode cX1_markNext 133 = .ok (.if_acmp .ne 12, 3) := by decide +kernel
theorem dX1_markNext_136 : decode cX1_markNext 136 = .ok (.aload_n 0, 1) := by decide +kernel
theorem dX1_markNext_137 : decode cX1_markNext 137 = .ok (.aload 5, 2) := by decide +kernel
theorem dX1_markNext_139 : decode cX1_markNext 139 = .ok (.getfield 113, 3) := by decide +kernel
theorem dX1_markNext_142 : decode cX1_markNext 142 = .ok (.invokevirtual 78, 3) := by decide +kernel
theorem dX1_markNext_145 : decode cX1_markNext 145 = .ok (.iinc 4 1, 3) := by decide +kernel
theorem dX1_markNext_148 : decode cX1_markNext 148 = .ok (.goto (-43), 3) := by decide +kernel
theorem dX1_markNext_151 : decode cX1_markNext 151 = .ok (.return_, 1) := by decide +kernel
def fX1_markNext_105 : Nat → Nat → Nat → Option Nat → Int32 → Hz → Option (Unit × Hz)
  | 0, _, _, _, _, _ => none
  | n + 1, o, v1, v3, v4, h => b1 v3 fun a1 => (b1 (tg 7 a1 h) fun _ => (b2 (fX7_size a1 h) fun x3 s4 => (if x3 ≤ v4 then some ((), s4) else (b1 (tg 7 a1 s4) fun _ => (b2 (fX7_at a1 v4 s4) fun r7 s8 => (oe r7 (fX1_markNext_105 n o v1 (some a1) (v4 + 1) s8) fun a9 => (b1 (gA 8 1 a9 s8) fun a10 => (if (some a10) = (some v1) then (b1 (gA 8 0 a9 s8) fun a12 => (b1 (tg 1 o s8) fun _ => (b2 (fX1_markNextThing o (some a12) s8) fun _ s15 => fX1_markNext_105 n o v1 (some a1) (v4 + 1) s15))) else fX1_markNext_105 n o v1 (some a1) (v4 + 1) s8))))))))
set_option maxHeartbeats 4000000 in
set_option maxRecDepth 100000 in
theorem wX1_markNext_105 {r0 : Unit} {h0 : Hz} (X : zX A D cy p s m args c cX1_markNext RX1 6) (hlk : meth.locks = false) (hr : meth.sig.returnType = none) : ∀ (n : Nat) (o : Nat) (v1 : Nat) (v3 : Option Nat) (v4 : Int32) (h : Hz) (H : Heap) (locs : List Loc) (ls : Array Slot) (hl : lv_has ls 6 [(0, .ref o), (1, .ref v1), (3, va_rf v3), (4, .int v4)]) (hW : zW A cy D h H) (hS : va_S A s.heap H locs) (h : fX1_markNext_105 n o v1 v3 v4 h = some (r0, h0)), W p l e ({ frames := 2, cells := 0, slots := 0, locals := 42 } : Room) s m args below meth c H locs 0 0 (MQ below (va_Qv (fun u => u = h0) (zB A D cy) A) args s 0 0 A) (F0 m 105 ls []) := by
  obtain ⟨hx, hb, hts, hown, hK9, hml, hN9, hA9⟩ := id X
  intro n
  induction n with
  | zero =>
    intro o v1 v3 v4 h H locs ls hl hW hS h
    rw [fX1_markNext_105] at h
    cases h
  | succ n ih =>
    intro o v1 v3 v4 h H locs ls hl hW hS h
    rw [fX1_markNext_105] at h
    refine lv_iload hx hb dX1_markNext_105 (lv_at hl 3 rfl) ?_
    refine z_aload_n hx hb dX1_markNext_107 rfl (lv_at hl 2 rfl) ?_
    replace h := b1_some h
    obtain ⟨a1, ea1, h⟩ := h
    subst ea1
    replace h := b1_some h
    obtain ⟨q2, gq2, h⟩ := h
    replace h := b2_some h
    obtain ⟨x3, s4, gs4, h⟩ := h
    refine z_callVi (rest := [.int v4]) X hW hS (cX7_size_met gs4) kb_X7_size kv_X7_size kl_X1_104 (it_v gq2).1 kX7 rfl rfl ⟨Nat.le_of_ble_eq_true rfl, Nat.le_of_ble_eq_true rfl⟩ rfl rfl (Nat.le_of_ble_eq_true rfl) hl.1 dX1_markNext_108 ⟨(by decide), (by decide)⟩ (fun H locs hW hS => ?_)
    refine lv_icmp_ge (tgt := 151) hx hb dX1_markNext_111 (by decide) (fun c5 => ?_) (fun c5 => ?_)
    · replace h := it_t h c5
      exact z_etv X hlk hr hW hS h (by decide) (by decide) dX1_markNext_151
    · replace h := it_f h c5
      refine lv_aload_n hx hb dX1_markNext_114 rfl (lv_at hl 2 rfl) ?_
      refine lv_iload hx hb dX1_markNext_115 (lv_at hl 3 rfl) ?_
      replace h := b1_some h
      obtain ⟨q6, gq6, h⟩ := h
      replace h := b2_some h
      obtain ⟨r7, s8, gs8, h⟩ := h
      refine z_callVq (rest := []) X hW hS (cX7_at_met gs8) kb_X7_at kv_X7_at kl_X1_107 (it_v gq6).1 kX7 rfl rfl ⟨Nat.le_of_ble_eq_true rfl, Nat.le_of_ble_eq_true rfl⟩ rfl rfl (by decide) hl.1 dX1_markNext_117 ⟨(by decide), (by decide)⟩ (fun H locs hW hS => ?_)
      refine z_astore (lv' := [(5, va_rf r7), (0, .ref o), (1, .ref v1), (3, .ref a1), (4, .int v4)]) hx hb dX1_markNext_120 hl (by decide) rfl (fun ls hl => ?_)
      refine z_aload hx hb dX1_markNext_122 (lv_at hl 0 rfl) ?_
      cases r7 with
      | none =>
        replace h := oe_n h
        have hl : lv_has ls 6 [(5, .null), (0, .ref o), (1, .ref v1), (3, .ref a1), (4, .int v4)] := hl
        refine lv_ifnullN (tgt := 145) hx hb dX1_markNext_124 (by decide) ?_
        refine lv_iinc (v := (v4 + 1)) (lv' := [(4, .int (v4 + 1)), (5, .null), (0, .ref o), (1, .ref v1), (3, .ref a1)]) hx hb dX1_markNext_145 hl (k := 4) rfl rfl (by decide) rfl (fun ls hl => ?_)
        refine lv_goto (tgt := 105) hx hb dX1_markNext_148 (by decide) ?_
        exact ih o v1 (some a1) (v4 + 1) _ _ _ _ (lv_sub hl [2, 3, 4, 0] rfl) hW hS h
      | some a9 =>
        replace h := oe_s h
        have hl : lv_has ls 6 [(5, .ref a9), (0, .ref o), (1, .ref v1), (3, .ref a1), (4, .int v4)] := hl
        refine lv_ifnull hx hb dX1_markNext_124 ?_
        refine lv_aload hx hb dX1_markNext_127 (lv_at hl 0 rfl) ?_
        replace h := b1_some h
        obtain ⟨a10, ga10, h⟩ := h
        refine z_getA X hW ga10 kX8 (by decide) (by decide) kf_X1_110 dX1_markNext_129 ?_
        refine lv_aload_n hx hb dX1_markNext_132 rfl (lv_at hl 2 rfl) ?_
        refine lv_acmp_ne (rx := (some a10)) (ry := (some v1)) (tgt := 145) hx hb dX1_markNext_133 (by decide) (fun c11 => ?_) (fun c11 => ?_)
        · replace h := it_f h c11
          refine lv_iinc (v := (v4 + 1)) (lv' := [(4, .int (v4 + 1)), (5, .ref a9), (0, .ref o), (1, .ref v1), (3, .ref a1)]) hx hb dX1_markNext_145 hl (k := 4) rfl rfl (by decide) rfl (fun ls hl => ?_)
          refine lv_goto (tgt := 105) hx hb dX1_markNext_148 (by decide) ?_
          exact ih o v1 (some a1) (v4 + 1) _ _ _ _ (lv_sub hl [2, 3, 4, 0] rfl) hW hS h
        · replace h := it_t h c11
          refine lv_aload_n hx hb dX1_markNext_136 rfl (lv_at hl 1 rfl) ?_
          refine lv_aload hx hb dX1_markNext_137 (lv_at hl 0 rfl) ?_
          replace h := b1_some h
          obtain ⟨a12, ga12, h⟩ := h
          refine z_getA X hW ga12 kX8 (by decide) (by decide) kf_X1_113 dX1_markNext_139 ?_
          replace h := b1_some h
          obtain ⟨q13, gq13, h⟩ := h
          replace h := b2_some h
          obtain ⟨_ur14, s15, gs15, h⟩ := h
          refine z_callVv (rest := []) X hW hS (cX1_markNextThing_met gs15) kb_X1_markNextThing kv_X1_markNextThing kl_X1_78 (it_v gq13).1 kX1 rfl rfl ⟨Nat.le_of_ble_eq_true rfl, Nat.le_of_ble_eq_true rfl⟩ rfl rfl (by decide) hl.1 dX1_markNext_142 ⟨(by decide), (by decide)⟩ (fun H locs hW hS => ?_)
          refine lv_iinc (v := (v4 + 1)) (lv' := [(4, .int (v4 + 1)), (5, .ref a9), (0, .ref o), (1, .ref v1), (3, .ref a1)]) hx hb dX1_markNext_145 hl (k := 4) rfl rfl (by decide) rfl (fun ls hl => ?_)
          refine lv_goto (tgt := 105) hx hb dX1_markNext_148 (by decide) ?_
          exact ih o v1 (some a1) (v4 + 1) _ _ _ _ (lv_sub hl [2, 3, 4, 0] rfl) hW hS h

def fX1_markNext_48 : Nat → Nat → Nat → Option Nat → Option Nat → Int32 → Hz → Option (Unit × Hz)
  | 0, _, _, _, _, _, _ => none
  | n + 1, o, v1, v2, v3, v4, h => b1 v2 fun a1 => (b1 (tg 2 a1 h) fun _ => (b2 (fX2_size a1 h) fun x3 s4 => (if x3 ≤ v4 then fX1_markNext_105 100000 o v1 v3 0 s4 else (b1 (tg 2 a1 s4) fun _ => (b2 (fX2_find a1 v4 s4) fun r7 s8 => (oe r7 (fX1_markNext_48 n o v1 (some a1) v3 (v4 + 1) s8) fun a9 => (b1 (gI 0 9 a9 s8) fun x10 => (if x10 = 0 then fX1_markNext_48 n o v1 (some a1) v3 (v4 + 1) s8 else (b1 (gP 0 5 a9 s8) fun r12 => (if r12 = (some v1) then (b1 (gA 0 3 a9 s8) fun a14 => (b1 (tg 1 o s8) fun _ => (b2 (fX1_markNextThing o (some a14) s8) fun _ s17 => fX1_markNext_48 n o v1 (some a1) v3 (v4 + 1) s17))) else fX1_markNext_48 n o v1 (some a1) v3 (v4 + 1) s8))))))))))
set_option maxHeartbeats 4000000 in
set_option maxRecDepth 100000 in
theorem wX1_markNext_48 {r0 : Unit} {h0 : Hz} (X : zX A D cy p s m args c cX1_markNext RX1 6) (hlk : meth.locks = false) (hr : meth.sig.returnType = none) : ∀ (n : Nat) (o : Nat) (v1 : Nat) (v2 : Option Nat) (v3 : Option Nat) (v4 : Int32) (h : Hz) (H : Heap) (locs : List Loc) (ls : Array Slot) (hl : lv_has ls 6 [(0, .ref o), (1, .ref v1), (2, va_rf v2), (3, va_rf v3), (4, .int v4)]) (hW : zW A cy D h H) (hS : va_S A s.heap H locs) (h : fX1_markNext_48 n o v1 v2 v3 v4 h = some (r0, h0)), W p l e ({ frames := 2, cells := 0, slots := 0, locals := 42 } : Room) s m args below meth c H locs 0 0 (MQ below (va_Qv (fun u => u = h0) (zB A D cy) A) args s 0 0 A) (F0 m 48 ls []) := by
  obtain ⟨hx, hb, hts, hown, hK9, hml, hN9, hA9⟩ := id X
  intro n
  induction n with
  | zero =>
    intro o v1 v2 v3 v4 h H locs ls hl hW hS h
    rw [fX1_markNext_48] at h
    cases h
  | succ n ih =>
    intro o v1 v2 v3 v4 h H locs ls hl hW hS h
    rw [fX1_markNext_48] at h
    refine lv_iload hx hb dX1_markNext_48 (lv_at hl 4 rfl) ?_
    refine z_aload_n hx hb dX1_markNext_50 rfl (lv_at hl 2 rfl) ?_
    replace h := b1_some h
    obtain ⟨a1, ea1, h⟩ := h
    subst ea1
    replace h := b1_some h
    obtain ⟨q2, gq2, h⟩ := h
    replace h := b2_some h
    obtain ⟨x3, s4, gs4, h⟩ := h
    refine z_callVi (rest := [.int v4]) X hW hS (cX2_size_met gs4) kb_X2_size kv_X2_size kl_X1_86 (it_v gq2).1 kX2 rfl rfl ⟨Nat.le_of_ble_eq_true rfl, Nat.le_of_ble_eq_true rfl⟩ rfl rfl (Nat.le_of_ble_eq_true rfl) hl.1 dX1_markNext_51 ⟨(by decide), (by decide)⟩ (fun H locs hW hS => ?_)
    refine lv_icmp_ge (tgt := 102) hx hb dX1_markNext_54 (by decide) (fun c5 => ?_) (fun c5 => ?_)
    · replace h := it_t h c5
      refine lv_iconst (v := 0) hx hb dX1_markNext_102 (by decide) ?_
      refine lv_istore (lv' := [(4, .int 0), (0, .ref o), (1, .ref v1), (2, .ref a1), (3, va_rf v3)]) hx hb dX1_markNext_103 hl (by decide) (by cases v3 <;> rfl) (fun ls hl => ?_)
      exact wX1_markNext_105 X hlk hr _ o v1 v3 0 _ _ _ _ (lv_sub hl [1, 2, 4, 0] rfl) hW hS h
    · replace h := it_f h c5
      refine lv_aload_n hx hb dX1_markNext_57 rfl (lv_at hl 2 rfl) ?_
      refine lv_iload hx hb dX1_markNext_58 (lv_at hl 4 rfl) ?_
      replace h := b1_some h
      obtain ⟨q6, gq6, h⟩ := h
      replace h := b2_some h
      obtain ⟨r7, s8, gs8, h⟩ := h
      refine z_callVq (rest := []) X hW hS (cX2_find_met gs8) kb_X2_find kv_X2_find kl_X1_89 (it_v gq6).1 kX2 rfl rfl ⟨Nat.le_of_ble_eq_true rfl, Nat.le_of_ble_eq_true rfl⟩ rfl rfl (by decide) hl.1 dX1_markNext_60 ⟨(by decide), (by decide)⟩ (fun H locs hW hS => ?_)
      refine z_astore (lv' := [(5, va_rf r7), (0, .ref o), (1, .ref v1), (2, .ref a1), (3, va_rf v3), (4, .int v4)]) hx hb dX1_markNext_63 hl (by decide) rfl (fun ls hl => ?_)
      refine z_aload hx hb dX1_markNext_65 (lv_at hl 0 rfl) ?_
      cases r7 with
      | none =>
        replace h := oe_n h
        have hl : lv_has ls 6 [(5, .null), (0, .ref o), (1, .ref v1), (2, .ref a1), (3, va_rf v3), (4, .int v4)] := hl
        refine lv_ifnullN (tgt := 96) hx hb dX1_markNext_67 (by decide) ?_
        refine lv_iinc (v := (v4 + 1)) (lv' := [(4, .int (v4 + 1)), (5, .null), (0, .ref o), (1, .ref v1), (2, .ref a1), (3, va_rf v3)]) hx hb dX1_markNext_96 hl (k := 5) rfl rfl (by decide) (by cases v3 <;> rfl) (fun ls hl => ?_)
        refine lv_goto (tgt := 48) hx hb dX1_markNext_99 (by decide) ?_
        exact ih o v1 (some a1) v3 (v4 + 1) _ _ _ _ (lv_sub hl [2, 3, 4, 5, 0] rfl) hW hS h
      | some a9 =>
        replace h := oe_s h
        have hl : lv_has ls 6 [(5, .ref a9), (0, .ref o), (1, .ref v1), (2, .ref a1), (3, va_rf v3), (4, .int v4)] := hl
        refine lv_ifnull hx hb dX1_markNext_67 ?_
        refine lv_aload hx hb dX1_markNext_70 (lv_at hl 0 rfl) ?_
        replace h := b1_some h
        obtain ⟨x10, gx10, h⟩ := h
        refine z_getI X hW gx10 kX0 (by decide) (by decide) kf_X1_92 dX1_markNext_72 ?_
        refine lv_if_eq (tgt := 96) hx hb dX1_markNext_75 (by decide) (fun c11 => ?_) (fun c11 => ?_)
        · replace h := it_t h c11
          refine lv_iinc (v := (v4 + 1)) (lv' := [(4, .int (v4 + 1)), (5, .ref a9), (0, .ref o), (1, .ref v1), (2, .ref a1), (3, va_rf v3)]) hx hb dX1_markNext_96 hl (k := 5) rfl rfl (by decide) (by cases v3 <;> rfl) (fun ls hl => ?_)
          refine lv_goto (tgt := 48) hx hb dX1_markNext_99 (by decide) ?_
          exact ih o v1 (some a1) v3 (v4 + 1) _ _ _ _ (lv_sub hl [2, 3, 4, 5, 0] rfl) hW hS h
        · replace h := it_f h c11
          refine lv_aload hx hb dX1_markNext_78 (lv_at hl 0 rfl) ?_
          replace h := b1_some h
          obtain ⟨r12, gr12, h⟩ := h
          refine z_getP X hW gr12 kX0 (by decide) (by decide) kf_X1_98 dX1_markNext_80 ?_
          refine lv_aload_n hx hb dX1_markNext_83 rfl (lv_at hl 2 rfl) ?_
          refine lv_acmp_ne (rx := r12) (ry := (some v1)) (tgt := 96) hx hb dX1_markNext_84 (by decide) (fun c13 => ?_) (fun c13 => ?_)
          · replace h := it_f h c13
            refine lv_iinc (v := (v4 + 1)) (lv' := [(4, .int (v4 + 1)), (5, .ref a9), (0, .ref o), (1, .ref v1), (2, .ref a1), (3, va_rf v3)]) hx hb dX1_markNext_96 hl (k := 5) rfl rfl (by decide) (by cases v3 <;> rfl) (fun ls hl => ?_)
            refine lv_goto (tgt := 48) hx hb dX1_markNext_99 (by decide) ?_
            exact ih o v1 (some a1) v3 (v4 + 1) _ _ _ _ (lv_sub hl [2, 3, 4, 5, 0] rfl) hW hS h
          · replace h := it_t h c13
            refine lv_aload_n hx hb dX1_markNext_87 rfl (lv_at hl 1 rfl) ?_
            refine lv_aload hx hb dX1_markNext_88 (lv_at hl 0 rfl) ?_
            replace h := b1_some h
            obtain ⟨a14, ga14, h⟩ := h
            refine z_getA X hW ga14 kX0 (by decide) (by decide) kf_X1_101 dX1_markNext_90 ?_
            replace h := b1_some h
            obtain ⟨q15, gq15, h⟩ := h
            replace h := b2_some h
            obtain ⟨_ur16, s17, gs17, h⟩ := h
            refine z_callVv (rest := []) X hW hS (cX1_markNextThing_met gs17) kb_X1_markNextThing kv_X1_markNextThing kl_X1_78 (it_v gq15).1 kX1 rfl rfl ⟨Nat.le_of_ble_eq_true rfl, Nat.le_of_ble_eq_true rfl⟩ rfl rfl (by decide) hl.1 dX1_markNext_93 ⟨(by decide), (by decide)⟩ (fun H locs hW hS => ?_)
            refine lv_iinc (v := (v4 + 1)) (lv' := [(4, .int (v4 + 1)), (5, .ref a9), (0, .ref o), (1, .ref v1), (2, .ref a1), (3, va_rf v3)]) hx hb dX1_markNext_96 hl (k := 5) rfl rfl (by decide) (by cases v3 <;> rfl) (fun ls hl => ?_)
            refine lv_goto (tgt := 48) hx hb dX1_markNext_99 (by decide) ?_
            exact ih o v1 (some a1) v3 (v4 + 1) _ _ _ _ (lv_sub hl [2, 3, 4, 5, 0] rfl) hW hS h

def fX1_markNext_3 : Nat → Nat → Option Nat → Option Nat → Option Nat → Int32 → Hz → Option (Unit × Hz)
  | 0, _, _, _, _, _, _ => none
  | n + 1, o, v1, v2, v3, v4, h => b1 v1 fun a1 => (b1 (tg 5 a1 h) fun _ => (b2 (fX5_placesSize a1 h) fun x3 s4 => (if x3 ≤ v4 then (b1 (gP 5 6 a1 s4) fun r6 => (b1 (tg 1 o s4) fun _ => (b2 (fX1_markNextThing o r6 s4) fun _ s9 => (b1 (gI 5 1 a1 s9) fun x10 => (if x10 = 2 then fX1_markNext_48 100000 o a1 v2 v3 0 s9 else some ((), s9)))))) else (b1 (tg 5 a1 s4) fun _ => (b2 (fX5_thingAt a1 v4 s4) fun r13 s14 => (b1 (tg 1 o s14) fun _ => (b2 (fX1_markNextThing o r13 s14) fun _ s17 => fX1_markNext_3 n o (some a1) v2 v3 (v4 + 1) s17)))))))
set_option maxHeartbeats 4000000 in
set_option maxRecDepth 100000 in
theorem wX1_markNext_3 {r0 : Unit} {h0 : Hz} (X : zX A D cy p s m args c cX1_markNext RX1 6) (hlk : meth.locks = false) (hr : meth.sig.returnType = none) : ∀ (n : Nat) (o : Nat) (v1 : Option Nat) (v2 : Option Nat) (v3 : Option Nat) (v4 : Int32) (h : Hz) (H : Heap) (locs : List Loc) (ls : Array Slot) (hl : lv_has ls 6 [(0, .ref o), (1, va_rf v1), (2, va_rf v2), (3, va_rf v3), (4, .int v4)]) (hW : zW A cy D h H) (hS : va_S A s.heap H locs) (h : fX1_markNext_3 n o v1 v2 v3 v4 h = some (r0, h0)), W p l e ({ frames := 2, cells := 0, slots := 0, locals := 42 } : Room) s m args below meth c H locs 0 0 (MQ below (va_Qv (fun u => u = h0) (zB A D cy) A) args s 0 0 A) (F0 m 3 ls []) := by
  obtain ⟨hx, hb, hts, hown, hK9, hml, hN9, hA9⟩ := id X
  intro n
  induction n with
  | zero =>
    intro o v1 v2 v3 v4 h H locs ls hl hW hS h
    rw [fX1_markNext_3] at h
    cases h
  | succ n ih =>
    intro o v1 v2 v3 v4 h H locs ls hl hW hS h
    rw [fX1_markNext_3] at h
    refine lv_iload hx hb dX1_markNext_3 (lv_at hl 4 rfl) ?_
    refine z_aload_n hx hb dX1_markNext_5 rfl (lv_at hl 1 rfl) ?_
    replace h := b1_some h
    obtain ⟨a1, ea1, h⟩ := h
    subst ea1
    replace h := b1_some h
    obtain ⟨q2, gq2, h⟩ := h
    replace h := b2_some h
    obtain ⟨x3, s4, gs4, h⟩ := h
    refine z_callVi (rest := [.int v4]) X hW hS (cX5_placesSize_met gs4) kb_X5_placesSize kv_X5_placesSize kl_X1_72 (it_v gq2).1 kX5 rfl rfl ⟨Nat.le_of_ble_eq_true rfl, Nat.le_of_ble_eq_true rfl⟩ rfl rfl (Nat.le_of_ble_eq_true rfl) hl.1 dX1_markNext_6 ⟨(by decide), (by decide)⟩ (fun H locs hW hS => ?_)
    refine lv_icmp_ge (tgt := 28) hx hb dX1_markNext_9 (by decide) (fun c5 => ?_) (fun c5 => ?_)
    · replace h := it_t h c5
      refine lv_aload_n hx hb dX1_markNext_28 rfl (lv_at hl 0 rfl) ?_
      refine lv_aload_n hx hb dX1_markNext_29 rfl (lv_at hl 1 rfl) ?_
      replace h := b1_some h
      obtain ⟨r6, gr6, h⟩ := h
      refine z_getP X hW gr6 kX5 (by decide) (by decide) kf_X1_82 dX1_markNext_30 ?_
      replace h := b1_some h
      obtain ⟨q7, gq7, h⟩ := h
      replace h := b2_some h
      obtain ⟨_ur8, s9, gs9, h⟩ := h
      refine z_callVv (rest := []) X hW hS (cX1_markNextThing_met gs9) kb_X1_markNextThing kv_X1_markNextThing kl_X1_78 (it_v gq7).1 kX1 rfl rfl ⟨Nat.le_of_ble_eq_true rfl, Nat.le_of_ble_eq_true rfl⟩ rfl rfl (by decide) hl.1 dX1_markNext_33 ⟨(by decide), (by decide)⟩ (fun H locs hW hS => ?_)
      refine lv_aload_n hx hb dX1_markNext_36 rfl (lv_at hl 1 rfl) ?_
      replace h := b1_some h
      obtain ⟨x10, gx10, h⟩ := h
      refine z_getI X hW gx10 kX5 (by decide) (by decide) kf_X1_53 dX1_markNext_37 ?_
      refine lv_iconst (v := 2) hx hb dX1_markNext_40 (by decide) ?_
      refine lv_icmp_eq (tgt := 45) hx hb dX1_markNext_41 (by decide) (fun c11 => ?_) (fun c11 => ?_)
      · replace h := it_t h c11
        refine lv_iconst (v := 0) hx hb dX1_markNext_45 (by decide) ?_
        refine lv_istore (lv' := [(4, .int 0), (0, .ref o), (1, .ref a1), (2, va_rf v2), (3, va_rf v3)]) hx hb dX1_markNext_46 hl (by decide) (by cases v3 <;> rfl) (fun ls hl => ?_)
        exact wX1_markNext_48 X hlk hr _ o a1 v2 v3 0 _ _ _ _ (lv_sub hl [1, 2, 3, 4, 0] rfl) hW hS h
      · replace h := it_f h c11
        exact z_etv X hlk hr hW hS h (by decide) (by decide) dX1_markNext_44
    · replace h := it_f h c5
      refine lv_aload_n hx hb dX1_markNext_12 rfl (lv_at hl 0 rfl) ?_
      refine lv_aload_n hx hb dX1_markNext_13 rfl (lv_at hl 1 rfl) ?_
      refine lv_iload hx hb dX1_markNext_14 (lv_at hl 4 rfl) ?_
      replace h := b1_some h
      obtain ⟨q12, gq12, h⟩ := h
      replace h := b2_some h
      obtain ⟨r13, s14, gs14, h⟩ := h
      refine z_callVq (rest := [.ref o]) X hW hS (cX5_thingAt_met gs14) kb_X5_thingAt kv_X5_thingAt kl_X1_75 (it_v gq12).1 kX5 rfl rfl ⟨Nat.le_of_ble_eq_true rfl, Nat.le_of_ble_eq_true rfl⟩ rfl rfl (Nat.le_of_ble_eq_true rfl) hl.1 dX1_markNext_16 ⟨(by decide), (by decide)⟩ (fun H locs hW hS => ?_)
      replace h := b1_some h
      obtain ⟨q15, gq15, h⟩ := h
      replace h := b2_some h
      obtain ⟨_ur16, s17, gs17, h⟩ := h
      refine z_callVv (rest := []) X hW hS (cX1_markNextThing_met gs17) kb_X1_markNextThing kv_X1_markNextThing kl_X1_78 (it_v gq15).1 kX1 rfl rfl ⟨Nat.le_of_ble_eq_true rfl, Nat.le_of_ble_eq_true rfl⟩ rfl rfl (by decide) hl.1 dX1_markNext_19 ⟨(by decide), (by decide)⟩ (fun H locs hW hS => ?_)
      refine lv_iinc (v := (v4 + 1)) (lv' := [(4, .int (v4 + 1)), (0, .ref o), (1, .ref a1), (2, va_rf v2), (3, va_rf v3)]) hx hb dX1_markNext_22 hl (k := 4) rfl rfl (by decide) (by cases v3 <;> rfl) (fun ls hl => ?_)
      refine lv_goto (tgt := 3) hx hb dX1_markNext_25 (by decide) ?_
      exact ih o (some a1) v2 v3 (v4 + 1) _ _ _ _ (lv_sub hl [1, 2, 3, 4, 0] rfl) hW hS h

def fX1_markNext (o : Nat) (v1 : Option Nat) (v2 : Option Nat) (v3 : Option Nat) (h : Hz) : Option (Unit × Hz) := fX1_markNext_3 100000 o v1 v2 v3 0 h
set_option maxHeartbeats 4000000 in
set_option maxRecDepth 100000 in
theorem wX1_markNext_0 {r0 : Unit} {h0 : Hz} (X : zX A D cy p s m args c cX1_markNext RX1 6) (hlk : meth.locks = false) (hr : meth.sig.returnType = none) (o : Nat) (v1 : Option Nat) (v2 : Option Nat) (v3 : Option Nat) (h : Hz) (H : Heap) (locs : List Loc) (ls : Array Slot) (hl : lv_has ls 6 [(0, .ref o), (1, va_rf v1), (2, va_rf v2), (3, va_rf v3)]) (hW : zW A cy D h H) (hS : va_S A s.heap H locs) (h : fX1_markNext o v1 v2 v3 h = some (r0, h0)) : W p l e ({ frames := 2, cells := 0, slots := 0, locals := 42 } : Room) s m args below meth c H locs 0 0 (MQ below (va_Qv (fun u => u = h0) (zB A D cy) A) args s 0 0 A) (F0 m 0 ls []) := by
  obtain ⟨hx, hb, hts, hown, hK9, hml, hN9, hA9⟩ := id X
  unfold fX1_markNext at h
  refine lv_iconst (v := 0) hx hb dX1_markNext_0 (by decide) ?_
  refine lv_istore (lv' := [(4, .int 0), (0, .ref o), (1, va_rf v1), (2, va_rf v2), (3, va_rf v3)]) hx hb dX1_markNext_1 hl (by decide) (by cases v3 <;> rfl) (fun ls hl => ?_)
  exact wX1_markNext_3 X hlk hr _ o v1 v2 v3 0 _ _ _ _ (lv_sub hl [1, 2, 3, 4, 0] rfl) hW hS h

set_option maxHeartbeats 4000000 in
set_option maxRecDepth 100000 in
theorem cX1_markNext_met {l : Launch} {A : Nat → Prop} {D : va_G} {cy : Nat → ClassId} {r0 : Unit} {h0 : Hz} {o : Nat} {v1 : Option Nat} {v2 : Option Nat} {v3 : Option Nat} {h : Hz} (g : fX1_markNext o v1 v2 v3 h = some (r0, h0)) : Met l yX1_markNext (Cond.code yX1_markNext cX1_markNext 6 none :: wT) ({ frames := 2, cells := 0, slots := 0, locals := 42 } : Room) (va_Pc [.ref o, va_rf v1, va_rf v2, va_rf v3] (zS A D cy h)) (va_Qv (fun u => u = h0) (zB A D cy) A) 0 0 A := by
  refine Met.ofW (cc := cX1_markNext) (maxL := 6) (ret := none) (by decide) rfl ?_
  intro p e s m args below meth c s₁ B hml hv
  obtain ⟨rfl, hW, hK, hN, hA⟩ := hv
  have X : zX A D cy p s m _ c cX1_markNext RX1 6 := ⟨B.exec, B.bytes, fun w hw => atoms_spec (ws := Cond.code yX1_markNext cX1_markNext 6 none :: wT) B.pre w (List.mem_cons_of_mem _ hw), findClass_of_methodNamed B.named, hK, hml, hN, hA⟩
  cases v1 with
  | none =>
    cases v2 with
    | none =>
      cases v3 with
      | none =>
        have hl := lv_entry [.ref o, va_rf none, va_rf none, va_rf none] (n := 6) (Nat.le_of_ble_eq_true rfl)
        rw [lg_entry_eq]
        generalize (lg_sl [.ref o, va_rf none, va_rf none, va_rf none] ++ List.replicate (6 - (lg_sl [.ref o, va_rf none, va_rf none, va_rf none]).length) Slot.unset).toArray = ls at hl ⊢
        have hl : lv_has ls 6 [(0, .ref o), (1, va_rf none), (2, va_rf none), (3, va_rf none)] := hl
        exact wX1_markNext_0 X B.notSynchronized B.returns o none none none _ _ _ _ (lv_sub hl [0, 1, 2, 3] rfl) hW va_S.rf g
      | some v3 =>
        have hl := lv_entry [.ref o, va_rf none, va_rf none, va_rf (some v3)] (n := 6) (Nat.le_of_ble_eq_true rfl)
        rw [lg_entry_eq]
        generalize (lg_sl [.ref o, va_rf none, va_rf none, va_rf (some v3)] ++ List.replicate (6 - (lg_sl [.ref o, va_rf none, va_rf none, va_rf (some v3)]).length) Slot.unset).toArray = ls at hl ⊢
        have hl : lv_has ls 6 [(0, .ref o), (1, va_rf none), (2, va_rf none), (3, va_rf (some v3))] := hl
        exact wX1_markNext_0 X B.notSynchronized B.returns o none none (some v3) _ _ _ _ (lv_sub hl [0, 1, 2, 3] rfl) hW va_S.rf g
    | some v2 =>
      cases v3 with
      | none =>
        have hl := lv_entry [.ref o, va_rf none, va_rf (some v2), va_rf none] (n := 6) (Nat.le_of_ble_eq_true rfl)
        rw [lg_entry_eq]
        generalize (lg_sl [.ref o, va_rf none, va_rf (some v2), va_rf none] ++ List.replicate (6 - (lg_sl [.ref o, va_rf none, va_rf (some v2), va_rf none]).length) Slot.unset).toArray = ls at hl ⊢
        have hl : lv_has ls 6 [(0, .ref o), (1, va_rf none), (2, va_rf (some v2)), (3, va_rf none)] := hl
        exact wX1_markNext_0 X B.notSynchronized B.returns o none (some v2) none _ _ _ _ (lv_sub hl [0, 1, 2, 3] rfl) hW va_S.rf g
      | some v3 =>
        have hl := lv_entry [.ref o, va_rf none, va_rf (some v2), va_rf (some v3)] (n := 6) (Nat.le_of_ble_eq_true rfl)
        rw [lg_entry_eq]
        generalize (lg_sl [.ref o, va_rf none, va_rf (some v2), va_rf (some v3)] ++ List.replicate (6 - (lg_sl [.ref o, va_rf none, va_rf (some v2), va_rf (some v3)]).length) Slot.unset).toArray = ls at hl ⊢
        have hl : lv_has ls 6 [(0, .ref o), (1, va_rf none), (2, va_rf (some v2)), (3, va_rf (some v3))] := hl
        exact wX1_markNext_0 X B.notSynchronized B.returns o none (some v2) (some v3) _ _ _ _ (lv_sub hl [0, 1, 2, 3] rfl) hW va_S.rf g
  | some v1 =>
    cases v2 with
    | none =>
      cases v3 with
      | none =>
        have hl := lv_entry [.ref o, va_rf (some v1), va_rf none, va_rf none] (n := 6) (Nat.le_of_ble_eq_true rfl)
        rw [lg_entry_eq]
        generalize (lg_sl [.ref o, va_rf (some v1), va_rf none, va_rf none] ++ List.replicate (6 - (lg_sl [.ref o, va_rf (some v1), va_rf none, va_rf none]).length) Slot.unset).toArray = ls at hl ⊢
        have hl : lv_has ls 6 [(0, .ref o), (1, va_rf (some v1)), (2, va_rf none), (3, va_rf none)] := hl
        exact wX1_markNext_0 X B.notSynchronized B.returns o (some v1) none none _ _ _ _ (lv_sub hl [0, 1, 2, 3] rfl) hW va_S.rf g
      | some v3 =>
        have hl := lv_entry [.ref o, va_rf (some v1), va_rf none, va_rf (some v3)] (n := 6) (Nat.le_of_ble_eq_true rfl)
        rw [lg_entry_eq]
        generalize (lg_sl [.ref o, va_rf (some v1), va_rf none, va_rf (some v3)] ++ List.replicate (6 - (lg_sl [.ref o, va_rf (some v1), va_rf none, va_rf (some v3)]).length) Slot.unset).toArray = ls at hl ⊢
        have hl : lv_has ls 6 [(0, .ref o), (1, va_rf (some v1)), (2, va_rf none), (3, va_rf (some v3))] := hl
        exact wX1_markNext_0 X B.notSynchronized B.returns o (some v1) none (some v3) _ _ _ _ (lv_sub hl [0, 1, 2, 3] rfl) hW va_S.rf g
    | some v2 =>
      cases v3 with
      | none =>
        have hl := lv_entry [.ref o, va_rf (some v1), va_rf (some v2), va_rf none] (n := 6) (Nat.le_of_ble_eq_true rfl)
        rw [lg_entry_eq]
        generalize (lg_sl [.ref o, va_rf (some v1), va_rf (some v2), va_rf none] ++ List.replicate (6 - (lg_sl [.ref o, va_rf (some v1), va_rf (some v2), va_rf none]).length) Slot.unset).toArray = ls at hl ⊢
        have hl : lv_has ls 6 [(0, .ref o), (1, va_rf (some v1)), (2, va_rf (some v2)), (3, va_rf none)] := hl
        exact wX1_markNext_0 X B.notSynchronized B.returns o (some v1) (some v2) none _ _ _ _ (lv_sub hl [0, 1, 2, 3] rfl) hW va_S.rf g
      | some v3 =>
        have hl := lv_entry [.ref o, va_rf (some v1), va_rf (some v2), va_rf (some v3)] (n := 6) (Nat.le_of_ble_eq_true rfl)
        rw [lg_entry_eq]
        generalize (lg_sl [.ref o, va_rf (some v1), va_rf (some v2), va_rf (some v3)] ++ List.replicate (6 - (lg_sl [.ref o, va_rf (some v1), va_rf (some v2), va_rf (some v3)]).length) Slot.unset).toArray = ls at hl ⊢
        have hl : lv_has ls 6 [(0, .ref o), (1, va_rf (some v1)), (2, va_rf (some v2)), (3, va_rf (some v3))] := hl
        exact wX1_markNext_0 X B.notSynchronized B.returns o (some v1) (some v2) (some v3) _ _ _ _ (lv_sub hl [0, 1, 2, 3] rfl) hW va_S.rf g

theorem dX3_at_0 : decode cX3_at 0 = .ok (.iload_n 1, 1) := by decide +kernel
theorem dX3_at_1 : decode cX3_at 1 = .ok (.ifCond .lt 29, 3) := by decide +kernel
theorem dX3_at_4 : decode cX3_at 4 = .ok (.iload_n 1, 1) := by decide +kernel
theorem dX3_at_5 : decode cX3_at 5 = .ok (.aload_n 0, 1) := by decide +kernel
theorem dX3_at_6 : decode cX3_at 6 = .ok (.getfield 21, 3) := by decide +kernel
theorem dX3_at_9 : decode cX3_at 9 = .ok (.if_icmp .ge 21, 3) := by decide +kernel
theorem dX3_at_12 : decode cX3_at 12 = .ok (.iload_n 1, 1) := by decide +kernel
theorem dX3_at_13 : decode cX3_at 13 = .ok (.aload_n 0, 1) := by decide +kernel
theorem dX3_at_14 : decode cX3_at 14 = .ok (.getfield 17, 3) := by decide +kernel
theorem dX3_at_17 : decode cX3_at 17 = .ok (.arraylength, 1) := by decide +kernel
theorem dX3_at_18 : decode cX3_at 18 = .ok (.if_icmp .ge 12, 3) := by decide +kernel
theorem dX3_at_21 : decode cX3_at 21 = .ok (.aload_n 0, 1) := by decide +kernel
theorem dX3_at_22 : decode cX3_at 22 = .ok (.getfield 17, 3) := by decide +kernel
theorem dX3_at_25 : decode cX3_at 25 = .ok (.iload_n 1, 1) := by decide +kernel
theorem dX3_at_26 : decode cX3_at 26 = .ok (.aaload, 1) := by decide +kernel
theorem dX3_at_27 : decode cX3_at 27 = .ok (.goto 4, 3) := by decide +kernel
theorem dX3_at_30 : decode cX3_at 30 = .ok (.aconst_null, 1) := by decide +kernel
theorem dX3_at_31 : decode cX3_at 31 = .ok (.areturn, 1) := by decide +kernel
def fX3_at (o : Nat) (v1 : Int32) (h : Hz) : Option (Option Nat × Hz) := (if v1 < 0 then some (none, h) else (b1 (gI 3 2 o h) fun x2 => (if x2 ≤ v1 then some (none, h) else (b1 (gA 3 1 o h) fun a4 => (b1 (xN 17 a4 h) fun x5 => (if x5 ≤ v1 then some (none, h) else (b1 (gA 3 1 o h) fun a7 => (b1 (xP 17 a7 v1 h) fun r8 => some (r8, h)))))))))
set_option maxHeartbeats 4000000 in
set_option maxRecDepth 100000 in
theorem wX3_at_0 {r0 : Option Nat} {h0 : Hz} (X : zX A D cy p s m args c cX3_at RX3 2) (hlk : meth.locks = false) (hr : meth.sig.returnType = (some (.object "FarHold$Thing"))) (o : Nat) (v1 : Int32) (h : Hz) (H : Heap) (locs : List Loc) (ls : Array Slot) (hl : lv_has ls 2 [(0, .ref o), (1, .int v1)]) (hW : zW A cy D h H) (hS : va_S A s.heap H locs) (h : fX3_at o v1 h = some (r0, h0)) : W p l e ({ frames := 0, cells := 0, slots := 0, locals := 0 } : Room) s m args below meth c H locs 0 0 (MQ below (va_Qq (fun r1 u => r1 = r0 ∧ u = h0) (zB A D cy) A) args s 0 0 A) (F0 m 0 ls []) := by
  obtain ⟨hx, hb, hts, hown, hK9, hml, hN9, hA9⟩ := id X
  unfold fX3_at at h
  refine lv_iload_n hx hb dX3_at_0 rfl (lv_at hl 1 rfl) ?_
  refine lv_if_lt (tgt := 30) hx hb dX3_at_1 (by decide) (fun c1 => ?_) (fun c1 => ?_)
  · replace h := it_t h c1
    refine lv_null hx hb dX3_at_30 ?_
    exact z_eta (v := none) X hlk hr hW hS h (by decide) (by decide) dX3_at_31
  · replace h := it_f h c1
    refine lv_iload_n hx hb dX3_at_4 rfl (lv_at hl 1 rfl) ?_
    refine lv_aload_n hx hb dX3_at_5 rfl (lv_at hl 0 rfl) ?_
    replace h := b1_some h
    obtain ⟨x2, gx2, h⟩ := h
    refine z_getI X hW gx2 kX3 (by decide) (by decide) kf_X3_21 dX3_at_6 ?_
    refine lv_icmp_ge (tgt := 30) hx hb dX3_at_9 (by decide) (fun c3 => ?_) (fun c3 => ?_)
    · replace h := it_t h c3
      refine lv_null hx hb dX3_at_30 ?_
      exact z_eta (v := none) X hlk hr hW hS h (by decide) (by decide) dX3_at_31
    · replace h := it_f h c3
      refine lv_iload_n hx hb dX3_at_12 rfl (lv_at hl 1 rfl) ?_
      refine lv_aload_n hx hb dX3_at_13 rfl (lv_at hl 0 rfl) ?_
      replace h := b1_some h
      obtain ⟨a4, ga4, h⟩ := h
      refine z_getA X hW ga4 kX3 (by decide) (by decide) kf_X3_17 dX3_at_14 ?_
      replace h := b1_some h
      obtain ⟨x5, gx5, h⟩ := h
      refine z_alenP X hW gx5 (by decide) (by decide) rfl dX3_at_17 ?_
      refine lv_icmp_ge (tgt := 30) hx hb dX3_at_18 (by decide) (fun c6 => ?_) (fun c6 => ?_)
      · replace h := it_t h c6
        refine lv_null hx hb dX3_at_30 ?_
        exact z_eta (v := none) X hlk hr hW hS h (by decide) (by decide) dX3_at_31
      · replace h := it_f h c6
        refine lv_aload_n hx hb dX3_at_21 rfl (lv_at hl 0 rfl) ?_
        replace h := b1_some h
        obtain ⟨a7, ga7, h⟩ := h
        refine z_getA X hW ga7 kX3 (by decide) (by decide) kf_X3_17 dX3_at_22 ?_
        refine lv_iload_n hx hb dX3_at_25 rfl (lv_at hl 1 rfl) ?_
        replace h := b1_some h
        obtain ⟨r8, gr8, h⟩ := h
        refine z_aldP X hW gr8 (by decide) (by decide) rfl dX3_at_26 ?_
        refine lv_goto (tgt := 31) hx hb dX3_at_27 (by decide) ?_
        exact z_eta (v := r8) X hlk hr hW hS h (by decide) (by decide) dX3_at_31

set_option maxHeartbeats 4000000 in
set_option maxRecDepth 100000 in
theorem cX3_at_met {l : Launch} {A : Nat → Prop} {D : va_G} {cy : Nat → ClassId} {r0 : Option Nat} {h0 : Hz} {o : Nat} {v1 : Int32} {h : Hz} (g : fX3_at o v1 h = some (r0, h0)) : Met l yX3_at (Cond.code yX3_at cX3_at 2 (some (.object "FarHold$Thing")) :: wT) ({ frames := 0, cells := 0, slots := 0, locals := 0 } : Room) (va_Pc [.ref o, .int v1] (zS A D cy h)) (va_Qq (fun r1 u => r1 = r0 ∧ u = h0) (zB A D cy) A) 0 0 A := by
  refine Met.ofW (cc := cX3_at) (maxL := 2) (ret := (some (.object "FarHold$Thing"))) (by decide) rfl ?_
  intro p e s m args below meth c s₁ B hml hv
  obtain ⟨rfl, hW, hK, hN, hA⟩ := hv
  have X : zX A D cy p s m _ c cX3_at RX3 2 := ⟨B.exec, B.bytes, fun w hw => atoms_spec (ws := Cond.code yX3_at cX3_at 2 (some (.object "FarHold$Thing")) :: wT) B.pre w (List.mem_cons_of_mem _ hw), findClass_of_methodNamed B.named, hK, hml, hN, hA⟩
  have hl := lv_entry [.ref o, .int v1] (n := 2) (Nat.le_of_ble_eq_true rfl)
  rw [lg_entry_eq]
  generalize (lg_sl [.ref o, .int v1] ++ List.replicate (2 - (lg_sl [.ref o, .int v1]).length) Slot.unset).toArray = ls at hl ⊢
  have hl : lv_has ls 2 [(0, .ref o), (1, .int v1)] := hl
  exact wX3_at_0 X B.notSynchronized B.returns o v1 _ _ _ _ (lv_sub hl [0, 1] rfl) hW va_S.rf g

theorem dX3_restart_0 : decode cX3_restart 0 = .ok (.iconst 0, 1) := by decide +kernel
theorem dX3_restart_1 : decode cX3_restart 1 = .ok (.istore_n 1, 1) := by decide +kernel
theorem dX3_restart_2 : decode cX3_restart 2 = .ok (.iload_n 1, 1) := by decide +kernel
theorem dX3_restart_3 : decode cX3_restart 3 = .ok (.aload_n 0, 1) := by decide +kernel
theorem dX3_restart_4 : decode cX3_restart 4 = .ok (.getfield 21, 3) := by decide +kernel
theorem dX3_restart_7 : decode cX3_restart 7 = .ok (.if_icmp .ge 48, 3) := by decide +kernel
theorem dX3_restart_10 : decode cX3_restart 10 = .ok (.aload_n 0, 1) := by decide +kernel
theorem dX3_restart_11 : decode cX3_restart 11 = .ok (.iload_n 1, 1) := by decide +kernel
theorem dX3_restart_12 : decode cX3_restart 12 = .ok (.invokevirtual 25, 3) := by decide +kernel
theorem dX3_restart_15 : decode cX3_restart 15 = .ok (.astore_n 2, 1) := by decide +kernel
theorem dX3_restart_16 : decode cX3_restart 16 = .ok (.aload_n 2, 1) := by decide +kernel
theorem dX3_restart_17 : decode cX3_restart 17 = .ok (.ifnull 32, 3) := by decide +kernel
theorem dX3_restart_20 : decode cX3_restart 20 = .ok (.aload_n 2, 1) := by decide +kernel
theorem dX3_restart_21 : decode cX3_restart 21 = .ok (.getfield 29, 3) := by decide +kernel
theorem dX3_restart_24 : decode cX3_restart 24 = .ok (.ifCond .lt 25, 3) := by decide +kernel
theorem dX3_restart_27 : decode cX3_restart 27 = .ok (.aload_n 2, 1) := by decide +kernel
theorem dX3_restart_28 : decode cX3_restart 28 = .ok (.getfield 29, 3) := by decide +kernel
theorem dX3_restart_31 : decode cX3_restart 31 = .ok (.aload_n 0, 1) := by decide +kernel
theorem dX3_restart_32 : decode cX3_restart 32 = .ok (.getfield 9, 3) := by decide +kernel
theorem dX3_restart_35 : decode cX3_restart 35 = .ok (.arraylength, 1) := by decide +kernel
theorem dX3_restart_36 : decode cX3_restart 36 = .ok (.if_icmp .ge 13, 3) := by decide +kernel
theorem dX3_restart_39 : decode cX3_restart 39 = .ok (.aload_n 0, 1) := by decide +kernel
theorem dX3_restart_40 : decode cX3_restart 40 = .ok (.getfield 9, 3) := by decide +kernel
theorem dX3_restart_43 : decode cX3_restart 43 = .ok (.aload_n 2, 1) := by decide +kernel
theorem dX3_restart_44 : decode cX3_restart 44 = .ok (.getfield 29, 3) := by decide +kernel
theorem dX3_restart_47 : decode cX3_restart 47 = .ok (.iconst 0, 1) := by decide +kernel
theorem dX3_restart_48 : decode cX3_restart 48 = .ok (.bastore, 1) := by decide +kernel
theorem dX3_restart_49 : decode cX3_restart 49 = .ok (.iinc 1 1, 3) := by decide +kernel
theorem dX3_restart_52 : decode cX3_restart 52 = .ok (.goto (-50), 3) := by decide +kernel
theorem dX3_restart_55 : decode cX3_restart 55 = .ok (.aload_n 0, 1) := by decide +kernel
theorem dX3_restart_56 : decode cX3_restart 56 = .ok (.iconst 0, 1) := by decide +kernel
theorem dX3_restart_57 : decode cX3_restart 57 = .ok (.putfield 21, 3) := by decide +kernel
theorem dX3_restart_60 : decode cX3_restart 60 = .ok (.return_, 1) := by decide +kernel
def fX3_restart_2 : Nat → Nat → Int32 → Hz → Option (Unit × Hz)
  | 0, _, _, _ => none
  | n + 1, o, v1, h => (b1 (gI 3 2 o h) fun x1 => (if x1 ≤ v1 then (b1 (pI 3 2 o 0 h) fun s3 => some ((), s3)) else (b1 (tg 3 o h) fun _ => (b2 (fX3_at o v1 h) fun r5 s6 => (oe r5 (fX3_restart_2 n o (v1 + 1) s6) fun a7 => (b1 (gI 5 0 a7 s6) fun x8 => (if x8 < 0 then fX3_restart_2 n o (v1 + 1) s6 else (b1 (gI 5 0 a7 s6) fun x10 => (b1 (gA 3 0 o s6) fun a11 => (b1 (xN 14 a11 s6) fun x12 => (if x12 ≤ x10 then fX3_restart_2 n o (v1 + 1) s6 else (b1 (gA 3 0 o s6) fun a14 => (b1 (gI 5 0 a7 s6) fun x15 => (b1 (yZ a14 x15 0 s6) fun s16 => fX3_restart_2 n o (v1 + 1) s16))))))))))))))
set_option maxHeartbeats 4000000 in
set_option maxRecDepth 100000 in
theorem wX3_restart_2 {r0 : Unit} {h0 : Hz} (X : zX A D cy p s m args c cX3_restart RX3 3) (hlk : meth.locks = false) (hr : meth.sig.returnType = none) : ∀ (n : Nat) (o : Nat) (v1 : Int32) (h : Hz) (H : Heap) (locs : List Loc) (ls : Array Slot) (hl : lv_has ls 3 [(0, .ref o), (1, .int v1)]) (hW : zW A cy D h H) (hS : va_S A s.heap H locs) (h : fX3_restart_2 n o v1 h = some (r0, h0)), W p l e ({ frames := 1, cells := 0, slots := 0, locals := 21 } : Room) s m args below meth c H locs 0 0 (MQ below (va_Qv (fun u => u = h0) (zB A D cy) A) args s 0 0 A) (F0 m 2 ls []) := by
  obtain ⟨hx, hb, hts, hown, hK9, hml, hN9, hA9⟩ := id X
  intro n
  induction n with
  | zero =>
    intro o v1 h H locs ls hl hW hS h
    rw [fX3_restart_2] at h
    cases h
  | succ n ih =>
    intro o v1 h H locs ls hl hW hS h
    rw [fX3_restart_2] at h
    refine lv_iload_n hx hb dX3_restart_2 rfl (lv_at hl 1 rfl) ?_
    refine lv_aload_n hx hb dX3_restart_3 rfl (lv_at hl 0 rfl) ?_
    replace h := b1_some h
    obtain ⟨x1, gx1, h⟩ := h
    refine z_getI X hW gx1 kX3 (by decide) (by decide) kf_X3_21 dX3_restart_4 ?_
    refine lv_icmp_ge (tgt := 55) hx hb dX3_restart_7 (by decide) (fun c2 => ?_) (fun c2 => ?_)
    · replace h := it_t h c2
      refine lv_aload_n hx hb dX3_restart_55 rfl (lv_at hl 0 rfl) ?_
      refine lv_iconst (v := 0) hx hb dX3_restart_56 (by decide) ?_
      replace h := b1_some h
      obtain ⟨s3, gs3, h⟩ := h
      refine z_putI X hW hS gs3 kX3 (by decide) (by decide) rfl (Or.inl rfl) kf_X3_21 dX3_restart_57 (fun H locs hW hS => ?_)
      exact z_etv X hlk hr hW hS h (by decide) (by decide) dX3_restart_60
    · replace h := it_f h c2
      refine lv_aload_n hx hb dX3_restart_10 rfl (lv_at hl 0 rfl) ?_
      refine lv_iload_n hx hb dX3_restart_11 rfl (lv_at hl 1 rfl) ?_
      replace h := b1_some h
      obtain ⟨q4, gq4, h⟩ := h
      replace h := b2_some h
      obtain ⟨r5, s6, gs6, h⟩ := h
      refine z_callVq (rest := []) X hW hS (cX3_at_met gs6) kb_X3_at kv_X3_at kl_X3_25 (it_v gq4).1 kX3 rfl rfl ⟨Nat.le_of_ble_eq_true rfl, Nat.le_of_ble_eq_true rfl⟩ rfl rfl (by decide) hl.1 dX3_restart_12 ⟨(by decide), (by decide)⟩ (fun H locs hW hS => ?_)
      refine z_astore_n (lv' := [(2, va_rf r5), (0, .ref o), (1, .int v1)]) hx hb dX3_restart_15 rfl hl (by decide) rfl (fun ls hl => ?_)
      refine z_aload_n hx hb dX3_restart_16 rfl (lv_at hl 0 rfl) ?_
      cases r5 with
      | none =>
        replace h := oe_n h
        have hl : lv_has ls 3 [(2, .null), (0, .ref o), (1, .int v1)] := hl
        refine lv_ifnullN (tgt := 49) hx hb dX3_restart_17 (by decide) ?_
        refine lv_iinc (v := (v1 + 1)) (lv' := [(1, .int (v1 + 1)), (2, .null), (0, .ref o)]) hx hb dX3_restart_49 hl (k := 2) rfl rfl (by decide) rfl (fun ls hl => ?_)
        refine lv_goto (tgt := 2) hx hb dX3_restart_52 (by decide) ?_
        exact ih o (v1 + 1) _ _ _ _ (lv_sub hl [2, 0] rfl) hW hS h
      | some a7 =>
        replace h := oe_s h
        have hl : lv_has ls 3 [(2, .ref a7), (0, .ref o), (1, .int v1)] := hl
        refine lv_ifnull hx hb dX3_restart_17 ?_
        refine lv_aload_n hx hb dX3_restart_20 rfl (lv_at hl 0 rfl) ?_
        replace h := b1_some h
        obtain ⟨x8, gx8, h⟩ := h
        refine z_getI X hW gx8 kX5 (by decide) (by decide) kf_X3_29 dX3_restart_21 ?_
        refine lv_if_lt (tgt := 49) hx hb dX3_restart_24 (by decide) (fun c9 => ?_) (fun c9 => ?_)
        · replace h := it_t h c9
          refine lv_iinc (v := (v1 + 1)) (lv' := [(1, .int (v1 + 1)), (2, .ref a7), (0, .ref o)]) hx hb dX3_restart_49 hl (k := 2) rfl rfl (by decide) rfl (fun ls hl => ?_)
          refine lv_goto (tgt := 2) hx hb dX3_restart_52 (by decide) ?_
          exact ih o (v1 + 1) _ _ _ _ (lv_sub hl [2, 0] rfl) hW hS h
        · replace h := it_f h c9
          refine lv_aload_n hx hb dX3_restart_27 rfl (lv_at hl 0 rfl) ?_
          replace h := b1_some h
          obtain ⟨x10, gx10, h⟩ := h
          refine z_getI X hW gx10 kX5 (by decide) (by decide) kf_X3_29 dX3_restart_28 ?_
          refine lv_aload_n hx hb dX3_restart_31 rfl (lv_at hl 1 rfl) ?_
          replace h := b1_some h
          obtain ⟨a11, ga11, h⟩ := h
          refine z_getA X hW ga11 kX3 (by decide) (by decide) kf_X3_9 dX3_restart_32 ?_
          replace h := b1_some h
          obtain ⟨x12, gx12, h⟩ := h
          refine z_alenZ X hW gx12 dX3_restart_35 ?_
          refine lv_icmp_ge (tgt := 49) hx hb dX3_restart_36 (by decide) (fun c13 => ?_) (fun c13 => ?_)
          · replace h := it_t h c13
            refine lv_iinc (v := (v1 + 1)) (lv' := [(1, .int (v1 + 1)), (2, .ref a7), (0, .ref o)]) hx hb dX3_restart_49 hl (k := 2) rfl rfl (by decide) rfl (fun ls hl => ?_)
            refine lv_goto (tgt := 2) hx hb dX3_restart_52 (by decide) ?_
            exact ih o (v1 + 1) _ _ _ _ (lv_sub hl [2, 0] rfl) hW hS h
          · replace h := it_f h c13
            refine lv_aload_n hx hb dX3_restart_39 rfl (lv_at hl 1 rfl) ?_
            replace h := b1_some h
            obtain ⟨a14, ga14, h⟩ := h
            refine z_getA X hW ga14 kX3 (by decide) (by decide) kf_X3_9 dX3_restart_40 ?_
            refine lv_aload_n hx hb dX3_restart_43 rfl (lv_at hl 0 rfl) ?_
            replace h := b1_some h
            obtain ⟨x15, gx15, h⟩ := h
            refine z_getI X hW gx15 kX5 (by decide) (by decide) kf_X3_29 dX3_restart_44 ?_
            refine lv_iconst (v := 0) hx hb dX3_restart_47 (by decide) ?_
            replace h := b1_some h
            obtain ⟨s16, gs16, h⟩ := h
            refine z_astZ X hW hS gs16 dX3_restart_48 (fun H locs hW hS => ?_)
            refine lv_iinc (v := (v1 + 1)) (lv' := [(1, .int (v1 + 1)), (2, .ref a7), (0, .ref o)]) hx hb dX3_restart_49 hl (k := 2) rfl rfl (by decide) rfl (fun ls hl => ?_)
            refine lv_goto (tgt := 2) hx hb dX3_restart_52 (by decide) ?_
            exact ih o (v1 + 1) _ _ _ _ (lv_sub hl [2, 0] rfl) hW hS h

def fX3_restart (o : Nat) (h : Hz) : Option (Unit × Hz) := fX3_restart_2 100000 o 0 h
set_option maxHeartbeats 4000000 in
set_option maxRecDepth 100000 in
theorem wX3_restart_0 {r0 : Unit} {h0 : Hz} (X : zX A D cy p s m args c cX3_restart RX3 3) (hlk : meth.locks = false) (hr : meth.sig.returnType = none) (o : Nat) (h : Hz) (H : Heap) (locs : List Loc) (ls : Array Slot) (hl : lv_has ls 3 [(0, .ref o)]) (hW : zW A cy D h H) (hS : va_S A s.heap H locs) (h : fX3_restart o h = some (r0, h0)) : W p l e ({ frames := 1, cells := 0, slots := 0, locals := 21 } : Room) s m args below meth c H locs 0 0 (MQ below (va_Qv (fun u => u = h0) (zB A D cy) A) args s 0 0 A) (F0 m 0 ls []) := by
  obtain ⟨hx, hb, hts, hown, hK9, hml, hN9, hA9⟩ := id X
  unfold fX3_restart at h
  refine lv_iconst (v := 0) hx hb dX3_restart_0 (by decide) ?_
  refine lv_istore_n (lv' := [(1, .int 0), (0, .ref o)]) hx hb dX3_restart_1 rfl hl (by decide) rfl (fun ls hl => ?_)
  exact wX3_restart_2 X hlk hr _ o 0 _ _ _ _ (lv_sub hl [1, 0] rfl) hW hS h

set_option maxHeartbeats 4000000 in
set_option maxRecDepth 100000 in
theorem cX3_restart_met {l : Launch} {A : Nat → Prop} {D : va_G} {cy : Nat → ClassId} {r0 : Unit} {h0 : Hz} {o : Nat} {h : Hz} (g : fX3_restart o h = some (r0, h0)) : Met l yX3_restart (Cond.code yX3_restart cX3_restart 3 none :: wT) ({ frames := 1, cells := 0, slots := 0, locals := 21 } : Room) (va_Pc [.ref o] (zS A D cy h)) (va_Qv (fun u => u = h0) (zB A D cy) A) 0 0 A := by
  refine Met.ofW (cc := cX3_restart) (maxL := 3) (ret := none) (by decide) rfl ?_
  intro p e s m args below meth c s₁ B hml hv
  obtain ⟨rfl, hW, hK, hN, hA⟩ := hv
  have X : zX A D cy p s m _ c cX3_restart RX3 3 := ⟨B.exec, B.bytes, fun w hw => atoms_spec (ws := Cond.code yX3_restart cX3_restart 3 none :: wT) B.pre w (List.mem_cons_of_mem _ hw), findClass_of_methodNamed B.named, hK, hml, hN, hA⟩
  have hl := lv_entry [.ref o] (n := 3) (Nat.le_of_ble_eq_true rfl)
  rw [lg_entry_eq]
  generalize (lg_sl [.ref o] ++ List.replicate (3 - (lg_sl [.ref o]).length) Slot.unset).toArray = ls at hl ⊢
  have hl : lv_has ls 3 [(0, .ref o)] := hl
  exact wX3_restart_0 X B.notSynchronized B.returns o _ _ _ _ (lv_sub hl [0] rfl) hW va_S.rf g

theorem dX3_size_0 : decode cX3_size 0 = .ok (.aload_n 0, 1) := by decide +kernel
theorem dX3_size_1 : decode cX3_size 1 = .ok (.getfield 21, 3) := by decide +kernel
theorem dX3_size_4 : decode cX3_size 4 = .ok (.ireturn, 1) := by decide +kernel
def fX3_size (o : Nat) (h : Hz) : Option (Int32 × Hz) := (b1 (gI 3 2 o h) fun x1 => some (x1, h))
set_option maxHeartbeats 4000000 in
set_option maxRecDepth 100000 in
theorem wX3_size_0 {r0 : Int32} {h0 : Hz} (X : zX A D cy p s m args c cX3_size RX3 1) (hlk : meth.locks = false) (hr : meth.sig.returnType = (some .int)) (o : Nat) (h : Hz) (H : Heap) (locs : List Loc) (ls : Array Slot) (hl : lv_has ls 1 [(0, .ref o)]) (hW : zW A cy D h H) (hS : va_S A s.heap H locs) (h : fX3_size o h = some (r0, h0)) : W p l e ({ frames := 0, cells := 0, slots := 0, locals := 0 } : Room) s m args below meth c H locs 0 0 (MQ below (va_Qi (fun r1 u => r1 = r0 ∧ u = h0) (zB A D cy) A) args s 0 0 A) (F0 m 0 ls []) := by
  obtain ⟨hx, hb, hts, hown, hK9, hml, hN9, hA9⟩ := id X
  unfold fX3_size at h
  refine lv_aload_n hx hb dX3_size_0 rfl (lv_at hl 0 rfl) ?_
  replace h := b1_some h
  obtain ⟨x1, gx1, h⟩ := h
  refine z_getI X hW gx1 kX3 (by decide) (by decide) kf_X3_21 dX3_size_1 ?_
  exact z_eti X hlk hr hW hS h (by decide) (by decide) dX3_size_4

set_option maxHeartbeats 4000000 in
set_option maxRecDepth 100000 in
theorem cX3_size_met {l : Launch} {A : Nat → Prop} {D : va_G} {cy : Nat → ClassId} {r0 : Int32} {h0 : Hz} {o : Nat} {h : Hz} (g : fX3_size o h = some (r0, h0)) : Met l yX3_size (Cond.code yX3_size cX3_size 1 (some .int) :: wT) ({ frames := 0, cells := 0, slots := 0, locals := 0 } : Room) (va_Pc [.ref o] (zS A D cy h)) (va_Qi (fun r1 u => r1 = r0 ∧ u = h0) (zB A D cy) A) 0 0 A := by
  refine Met.ofW (cc := cX3_size) (maxL := 1) (ret := (some .int)) (by decide) rfl ?_
  intro p e s m args below meth c s₁ B hml hv
  obtain ⟨rfl, hW, hK, hN, hA⟩ := hv
  have X : zX A D cy p s m _ c cX3_size RX3 1 := ⟨B.exec, B.bytes, fun w hw => atoms_spec (ws := Cond.code yX3_size cX3_size 1 (some .int) :: wT) B.pre w (List.mem_cons_of_mem _ hw), findClass_of_methodNamed B.named, hK, hml, hN, hA⟩
  have hl := lv_entry [.ref o] (n := 1) (Nat.le_of_ble_eq_true rfl)
  rw [lg_entry_eq]
  generalize (lg_sl [.ref o] ++ List.replicate (1 - (lg_sl [.ref o]).length) Slot.unset).toArray = ls at hl ⊢
  have hl : lv_has ls 1 [(0, .ref o)] := hl
  exact wX3_size_0 X B.notSynchronized B.returns o _ _ _ _ (lv_sub hl [0] rfl) hW va_S.rf g

theorem dX1_trace_0 : decode cX1_trace 0 = .ok (.aload_n 0, 1) := by decide +kernel
theorem dX1_trace_1 : decode cX1_trace 1 = .ok (.getfield 12, 3) := by decide +kernel
theorem dX1_trace_4 : decode cX1_trace 4 = .ok (.invokevirtual 40, 3) := by decide +kernel
theorem dX1_trace_7 : decode cX1_trace 7 = .ok (.iconst 0, 1) := by decide +kernel
theorem dX1_trace_8 : decode cX1_trace 8 = .ok (.istore 4, 2) := by decide +kernel
theorem dX1_trace_10 : decode cX1_trace 10 = .ok (.iload 4, 2) := by decide +kernel
theorem dX1_trace_12 : decode cX1_trace 12 = .ok (.aload_n 1, 1) := by decide +kernel
theorem dX1_trace_13 : decode cX1_trace 13 = .ok (.invokevirtual 43, 3) := by decide +kernel
theorem dX1_trace_16 : decode cX1_trace 16 = .ok (.if_icmp .ge 38, 3) := by decide +kernel
theorem dX1_trace_19 : decode cX1_trace 19 = .ok (.aload_n 1, 1) := by decide +kernel
theorem dX1_trace_20 : decode cX1_trace 20 = .ok (.iload 4, 2) := by decide +kernel
theorem dX1_trace_22 : decode cX1_trace 22 = .ok (.invokevirtual 49, 3) := by decide +kernel
theorem dX1_trace_25 : decode cX1_trace 25 = .ok (.astore 5, 2) := by decide +kernel
theorem dX1_trace_27 : decode cX1_trace 27 = .ok (.aload 5, 2) := by decide +kernel
theorem dX1_trace_29 : decode cX1_trace 29 = .ok (.ifnull 19, 3) := by decide +kernel
theorem dX1_trace_32 : decode cX1_trace 32 = .ok (.aload 5, 2) := by decide +kernel
theorem dX1_trace_34 : decode cX1_trace 34 = .ok (.getfield 53, 3) := by decide +kernel
theorem dX1_trace_37 : decode cX1_trace 37 = .ok (.iconst 2, 1) := by decide +kernel
theorem dX1_trace_38 : decode cX1_trace 38 = .ok (.if_icmp .ne 10, 3) := by decide +kernel
theorem dX1_trace_41 : decode cX1_trace 41 = .ok (.aload_n 0, 1) := by decide +kernel
theorem dX1_trace_42 : decode cX1_trace 42 = .ok (.aload 5, 2) := by decide +kernel
theorem dX1_trace_44 : decode cX1_trace 44 = .ok (.aconst_null, 1) := by decide +kernel
theorem dX1_trace_45 : decode cX1_trace 45 = .ok (.invokevirtual 56, 3) := by decide +kernel
theorem dX1_trace_48 : decode cX1_trace 48 = .ok (.iinc 4 1, 3) := by decide +kernel
theorem dX1_trace_51 : decode cX1_trace 51 = .ok (.goto (-41), 3) := by decide +kernel
theorem dX1_trace_54 : decode cX1_trace 54 = .ok (.iconst 0, 1) := by decide +kernel
theorem dX1_trace_55 : decode cX1_trace 55 = .ok (.istore 4, 2) := by decide +kernel
theorem dX1_trace_57 : decode cX1_trace 57 = .ok (.iload 4, 2) := by decide +kernel
theorem dX1_trace_59 : decode cX1_trace 59 = .ok (.aload_n 0, 1) := by decide +kernel
theorem dX1_trace_60 : decode cX1_trace 60 = .ok (.getfield 12, 3) := by decide +kernel
theorem dX1_trace_63 : decode cX1_trace 63 = .ok (.invokevirtual 60, 3) := by decide +kernel
theorem dX1_trace_66 : decode cX1_trace 66 = .ok (.if_icmp .ge 51, 3) := by decide +kernel
theorem dX1_trace_69 : decode cX1_trace 69 = .ok (.iload 4, 2) := by decide +kernel
theorem dX1_trace_71 : decode cX1_trace 71 = .ok (.sipush 300, 3) := by decide +kernel
theorem dX1_trace_74 : decode cX1_trace 74 = .ok (.if_icmp .ge 43, 3) := by decide +kernel
theorem dX1_trace_77 : decode cX1_trace 77 = .ok (.aload_n 0, 1) := by decide +kernel
theorem dX1_trace_78 : decode cX1_trace 78 = .ok (.getfield 12, 3) := by decide +kernel
theorem dX1_trace_81 : decode cX1_trace 81 = .ok (.iload 4, 2) := by decide +kernel
theorem dX1_trace_83 : decode cX1_trace 83 = .ok (.invokevirtual 61, 3) := by decide +kernel
theorem dX1_trace_86 : decode cX1_trace 86 = .ok (.astore 5, 2) := by decide +kernel
theorem dX1_trace_88 : decode cX1_trace 88 = .ok (.aload 5, 2) := by decide +kernel
theorem dX1_trace_90 : decode cX1_trace 90 = .ok (.ifnonnull 6, 3) := by decide +kernel
theorem dX1_trace_93 : decode cX1_trace 93 = .ok (.goto 18, 3) := by decide +kernel
theorem dX1_trace_96 : decode cX1_trace 96 = .ok (.aload_n 0, 1) := by decide +kernel
theorem dX1_trace_97 : decode cX1_trace 97 = .ok (.aload 5, 2) := by decide +kernel
theorem dX1_trace_99 : decode cX1_trace 99 = .ok (.aload_n 2, 1) := by decide +kernel
theorem dX1_trace_100 : decode cX1_trace 100 = .ok (.aload_n 3, 1) := by decide +kernel
theorem dX1_trace_101 : decode cX1_trace 101 = .ok (.invokevirtual 64, 3) := by decide +kernel
theorem dX1_trace_104 : decode cX1_trace 104 = .ok (.aload_n 0, 1) := by decide +kernel
theorem dX1_trace_105 : decode cX1_trace 105 = .ok (.aload 5, 2) := by decide +kernel
theorem dX1_trace_107 : decode cX1_trace 107 = .ok (.aload_n 1, 1) := by decide +kernel
theorem dX1_trace_108 : decode cX1_trace 108 = .ok (.invokevirtual 68, 3) := by decide +kernel
theorem dX1_trace_111 : decode cX1_trace 111 = .ok (.iinc 4 1, 3) := by decide +kernel
theorem dX1_trace_114 : decode cX1_trace 114 = .ok (.goto (-57), 3) := by decide +kernel
theorem dX1_trace_117 : decode cX1_trace 117 = .ok (.return_, 1) := by decide +kernel
def fX1_trace_57 : Nat → Nat → Nat → Option Nat → Option Nat → Int32 → Hz → Option (Unit × Hz)
  | 0, _, _, _, _, _, _ => none
  | n + 1, o, v1, v2, v3, v4, h => (b1 (gA 1 0 o h) fun a1 => (b1 (tg 3 a1 h) fun _ => (b2 (fX3_size a1 h) fun x3 s4 => (if x3 ≤ v4 then some ((), s4) else (if 300 ≤ v4 then some ((), s4) else (b1 (gA 1 0 o s4) fun a7 => (b1 (tg 3 a7 s4) fun _ => (b2 (fX3_at a7 v4 s4) fun r9 s10 => (oe r9 (fX1_trace_57 n o v1 v2 v3 (v4 + 1) s10) fun a11 => (b1 (tg 1 o s10) fun _ => (b2 (fX1_markNext o (some a11) v2 v3 s10) fun _ s14 => (b1 (tg 1 o s14) fun _ => (b2 (fX1_addNextByNumbers o (some a11) (some v1) s14) fun _ s17 => fX1_trace_57 n o v1 v2 v3 (v4 + 1) s17)))))))))))))
set_option maxHeartbeats 4000000 in
set_option maxRecDepth 100000 in
theorem wX1_trace_57 {r0 : Unit} {h0 : Hz} (X : zX A D cy p s m args c cX1_trace RX1 6) (hlk : meth.locks = false) (hr : meth.sig.returnType = none) : ∀ (n : Nat) (o : Nat) (v1 : Nat) (v2 : Option Nat) (v3 : Option Nat) (v4 : Int32) (h : Hz) (H : Heap) (locs : List Loc) (ls : Array Slot) (hl : lv_has ls 6 [(0, .ref o), (1, .ref v1), (2, va_rf v2), (3, va_rf v3), (4, .int v4)]) (hW : zW A cy D h H) (hS : va_S A s.heap H locs) (h : fX1_trace_57 n o v1 v2 v3 v4 h = some (r0, h0)), W p l e ({ frames := 3, cells := 0, slots := 0, locals := 67 } : Room) s m args below meth c H locs 0 0 (MQ below (va_Qv (fun u => u = h0) (zB A D cy) A) args s 0 0 A) (F0 m 57 ls []) := by
  obtain ⟨hx, hb, hts, hown, hK9, hml, hN9, hA9⟩ := id X
  intro n
  induction n with
  | zero =>
    intro o v1 v2 v3 v4 h H locs ls hl hW hS h
    rw [fX1_trace_57] at h
    cases h
  | succ n ih =>
    intro o v1 v2 v3 v4 h H locs ls hl hW hS h
    rw [fX1_trace_57] at h
    refine lv_iload hx hb dX1_trace_57 (lv_at hl 4 rfl) ?_
    refine lv_aload_n hx hb dX1_trace_59 rfl (lv_at hl 0 rfl) ?_
    replace h := b1_some h
    obtain ⟨a1, ga1, h⟩ := h
    refine z_getA X hW ga1 kX1 (by decide) (by decide) kf_X1_12 dX1_trace_60 ?_
    replace h := b1_some h
    obtain ⟨q2, gq2, h⟩ := h
    replace h := b2_some h
    obtain ⟨x3, s4, gs4, h⟩ := h
    refine z_callVi (rest := [.int v4]) X hW hS (cX3_size_met gs4) kb_X3_size kv_X3_size kl_X1_60 (it_v gq2).1 kX3 rfl rfl ⟨Nat.le_of_ble_eq_true rfl, Nat.le_of_ble_eq_true rfl⟩ rfl rfl (Nat.le_of_ble_eq_true rfl) hl.1 dX1_trace_63 ⟨(by decide), (by decide)⟩ (fun H locs hW hS => ?_)
    refine lv_icmp_ge (tgt := 117) hx hb dX1_trace_66 (by decide) (fun c5 => ?_) (fun c5 => ?_)
    · replace h := it_t h c5
      exact z_etv X hlk hr hW hS h (by decide) (by decide) dX1_trace_117
    · replace h := it_f h c5
      refine lv_iload hx hb dX1_trace_69 (lv_at hl 4 rfl) ?_
      refine lv_sipush (v := 300) hx hb dX1_trace_71 (by decide) ?_
      refine lv_icmp_ge (tgt := 117) hx hb dX1_trace_74 (by decide) (fun c6 => ?_) (fun c6 => ?_)
      · replace h := it_t h c6
        exact z_etv X hlk hr hW hS h (by decide) (by decide) dX1_trace_117
      · replace h := it_f h c6
        refine lv_aload_n hx hb dX1_trace_77 rfl (lv_at hl 0 rfl) ?_
        replace h := b1_some h
        obtain ⟨a7, ga7, h⟩ := h
        refine z_getA X hW ga7 kX1 (by decide) (by decide) kf_X1_12 dX1_trace_78 ?_
        refine lv_iload hx hb dX1_trace_81 (lv_at hl 4 rfl) ?_
        replace h := b1_some h
        obtain ⟨q8, gq8, h⟩ := h
        replace h := b2_some h
        obtain ⟨r9, s10, gs10, h⟩ := h
        refine z_callVq (rest := []) X hW hS (cX3_at_met gs10) kb_X3_at kv_X3_at kl_X1_61 (it_v gq8).1 kX3 rfl rfl ⟨Nat.le_of_ble_eq_true rfl, Nat.le_of_ble_eq_true rfl⟩ rfl rfl (by decide) hl.1 dX1_trace_83 ⟨(by decide), (by decide)⟩ (fun H locs hW hS => ?_)
        refine z_astore (lv' := [(5, va_rf r9), (0, .ref o), (1, .ref v1), (2, va_rf v2), (3, va_rf v3), (4, .int v4)]) hx hb dX1_trace_86 hl (by decide) rfl (fun ls hl => ?_)
        refine z_aload hx hb dX1_trace_88 (lv_at hl 0 rfl) ?_
        cases r9 with
        | none =>
          replace h := oe_n h
          have hl : lv_has ls 6 [(5, .null), (0, .ref o), (1, .ref v1), (2, va_rf v2), (3, va_rf v3), (4, .int v4)] := hl
          refine lv_ifnonnullN hx hb dX1_trace_90 ?_
          refine lv_goto (tgt := 111) hx hb dX1_trace_93 (by decide) ?_
          refine lv_iinc (v := (v4 + 1)) (lv' := [(4, .int (v4 + 1)), (5, .null), (0, .ref o), (1, .ref v1), (2, va_rf v2), (3, va_rf v3)]) hx hb dX1_trace_111 hl (k := 5) rfl rfl (by decide) (by cases v3 <;> rfl) (fun ls hl => ?_)
          refine lv_goto (tgt := 57) hx hb dX1_trace_114 (by decide) ?_
          exact ih o v1 v2 v3 (v4 + 1) _ _ _ _ (lv_sub hl [2, 3, 4, 5, 0] rfl) hW hS h
        | some a11 =>
          replace h := oe_s h
          have hl : lv_has ls 6 [(5, .ref a11), (0, .ref o), (1, .ref v1), (2, va_rf v2), (3, va_rf v3), (4, .int v4)] := hl
          refine lv_ifnonnull (tgt := 96) hx hb dX1_trace_90 (by decide) ?_
          refine lv_aload_n hx hb dX1_trace_96 rfl (lv_at hl 1 rfl) ?_
          refine lv_aload hx hb dX1_trace_97 (lv_at hl 0 rfl) ?_
          refine z_aload_n hx hb dX1_trace_99 rfl (lv_at hl 3 rfl) ?_
          refine z_aload_n hx hb dX1_trace_100 rfl (lv_at hl 4 rfl) ?_
          replace h := b1_some h
          obtain ⟨q12, gq12, h⟩ := h
          replace h := b2_some h
          obtain ⟨_ur13, s14, gs14, h⟩ := h
          refine z_callVv (rest := []) X hW hS (cX1_markNext_met gs14) kb_X1_markNext kv_X1_markNext kl_X1_64 (it_v gq12).1 kX1 rfl rfl ⟨Nat.le_of_ble_eq_true rfl, Nat.le_of_ble_eq_true rfl⟩ rfl rfl (by decide) hl.1 dX1_trace_101 ⟨(by decide), (by decide)⟩ (fun H locs hW hS => ?_)
          refine lv_aload_n hx hb dX1_trace_104 rfl (lv_at hl 1 rfl) ?_
          refine lv_aload hx hb dX1_trace_105 (lv_at hl 0 rfl) ?_
          refine lv_aload_n hx hb dX1_trace_107 rfl (lv_at hl 2 rfl) ?_
          replace h := b1_some h
          obtain ⟨q15, gq15, h⟩ := h
          replace h := b2_some h
          obtain ⟨_ur16, s17, gs17, h⟩ := h
          refine z_callVv (rest := []) X hW hS (cX1_addNextByNumbers_met gs17) kb_X1_addNextByNumbers kv_X1_addNextByNumbers kl_X1_68 (it_v gq15).1 kX1 rfl rfl ⟨Nat.le_of_ble_eq_true rfl, Nat.le_of_ble_eq_true rfl⟩ rfl rfl (by decide) hl.1 dX1_trace_108 ⟨(by decide), (by decide)⟩ (fun H locs hW hS => ?_)
          refine lv_iinc (v := (v4 + 1)) (lv' := [(4, .int (v4 + 1)), (5, .ref a11), (0, .ref o), (1, .ref v1), (2, va_rf v2), (3, va_rf v3)]) hx hb dX1_trace_111 hl (k := 5) rfl rfl (by decide) (by cases v3 <;> rfl) (fun ls hl => ?_)
          refine lv_goto (tgt := 57) hx hb dX1_trace_114 (by decide) ?_
          exact ih o v1 v2 v3 (v4 + 1) _ _ _ _ (lv_sub hl [2, 3, 4, 5, 0] rfl) hW hS h

def fX1_trace_10 : Nat → Nat → Option Nat → Option Nat → Option Nat → Int32 → Hz → Option (Unit × Hz)
  | 0, _, _, _, _, _, _ => none
  | n + 1, o, v1, v2, v3, v4, h => b1 v1 fun a1 => (b1 (tg 6 a1 h) fun _ => (b2 (fX6_size a1 h) fun x3 s4 => (if x3 ≤ v4 then fX1_trace_57 100000 o a1 v2 v3 0 s4 else (b1 (tg 6 a1 s4) fun _ => (b2 (fX6_find a1 v4 s4) fun r7 s8 => (oe r7 (fX1_trace_10 n o (some a1) v2 v3 (v4 + 1) s8) fun a9 => (b1 (gI 5 1 a9 s8) fun x10 => (if x10 = 2 then (b1 (tg 1 o s8) fun _ => (b2 (fX1_addBehind o (some a9) none s8) fun _ s14 => fX1_trace_10 n o (some a1) v2 v3 (v4 + 1) s14)) else fX1_trace_10 n o (some a1) v2 v3 (v4 + 1) s8))))))))
set_option maxHeartbeats 4000000 in
set_option maxRecDepth 100000 in
theorem wX1_trace_10 {r0 : Unit} {h0 : Hz} (X : zX A D cy p s m args c cX1_trace RX1 6) (hlk : meth.locks = false) (hr : meth.sig.returnType = none) : ∀ (n : Nat) (o : Nat) (v1 : Option Nat) (v2 : Option Nat) (v3 : Option Nat) (v4 : Int32) (h : Hz) (H : Heap) (locs : List Loc) (ls : Array Slot) (hl : lv_has ls 6 [(0, .ref o), (1, va_rf v1), (2, va_rf v2), (3, va_rf v3), (4, .int v4)]) (hW : zW A cy D h H) (hS : va_S A s.heap H locs) (h : fX1_trace_10 n o v1 v2 v3 v4 h = some (r0, h0)), W p l e ({ frames := 3, cells := 0, slots := 0, locals := 67 } : Room) s m args below meth c H locs 0 0 (MQ below (va_Qv (fun u => u = h0) (zB A D cy) A) args s 0 0 A) (F0 m 10 ls []) := by
  obtain ⟨hx, hb, hts, hown, hK9, hml, hN9, hA9⟩ := id X
  intro n
  induction n with
  | zero =>
    intro o v1 v2 v3 v4 h H locs ls hl hW hS h
    rw [fX1_trace_10] at h
    cases h
  | succ n ih =>
    intro o v1 v2 v3 v4 h H locs ls hl hW hS h
    rw [fX1_trace_10] at h
    refine lv_iload hx hb dX1_trace_10 (lv_at hl 4 rfl) ?_
    refine z_aload_n hx hb dX1_trace_12 rfl (lv_at hl 1 rfl) ?_
    replace h := b1_some h
    obtain ⟨a1, ea1, h⟩ := h
    subst ea1
    replace h := b1_some h
    obtain ⟨q2, gq2, h⟩ := h
    replace h := b2_some h
    obtain ⟨x3, s4, gs4, h⟩ := h
    refine z_callVi (rest := [.int v4]) X hW hS (cX6_size_met gs4) kb_X6_size kv_X6_size kl_X1_43 (it_v gq2).1 kX6 rfl rfl ⟨Nat.le_of_ble_eq_true rfl, Nat.le_of_ble_eq_true rfl⟩ rfl rfl (Nat.le_of_ble_eq_true rfl) hl.1 dX1_trace_13 ⟨(by decide), (by decide)⟩ (fun H locs hW hS => ?_)
    refine lv_icmp_ge (tgt := 54) hx hb dX1_trace_16 (by decide) (fun c5 => ?_) (fun c5 => ?_)
    · replace h := it_t h c5
      refine lv_iconst (v := 0) hx hb dX1_trace_54 (by decide) ?_
      refine lv_istore (lv' := [(4, .int 0), (0, .ref o), (1, .ref a1), (2, va_rf v2), (3, va_rf v3)]) hx hb dX1_trace_55 hl (by decide) (by cases v3 <;> rfl) (fun ls hl => ?_)
      exact wX1_trace_57 X hlk hr _ o a1 v2 v3 0 _ _ _ _ (lv_sub hl [1, 2, 3, 4, 0] rfl) hW hS h
    · replace h := it_f h c5
      refine lv_aload_n hx hb dX1_trace_19 rfl (lv_at hl 1 rfl) ?_
      refine lv_iload hx hb dX1_trace_20 (lv_at hl 4 rfl) ?_
      replace h := b1_some h
      obtain ⟨q6, gq6, h⟩ := h
      replace h := b2_some h
      obtain ⟨r7, s8, gs8, h⟩ := h
      refine z_callVq (rest := []) X hW hS (cX6_find_met gs8) kb_X6_find kv_X6_find kl_X1_49 (it_v gq6).1 kX6 rfl rfl ⟨Nat.le_of_ble_eq_true rfl, Nat.le_of_ble_eq_true rfl⟩ rfl rfl (by decide) hl.1 dX1_trace_22 ⟨(by decide), (by decide)⟩ (fun H locs hW hS => ?_)
      refine z_astore (lv' := [(5, va_rf r7), (0, .ref o), (1, .ref a1), (2, va_rf v2), (3, va_rf v3), (4, .int v4)]) hx hb dX1_trace_25 hl (by decide) rfl (fun ls hl => ?_)
      refine z_aload hx hb dX1_trace_27 (lv_at hl 0 rfl) ?_
      cases r7 with
      | none =>
        replace h := oe_n h
        have hl : lv_has ls 6 [(5, .null), (0, .ref o), (1, .ref a1), (2, va_rf v2), (3, va_rf v3), (4, .int v4)] := hl
        refine lv_ifnullN (tgt := 48) hx hb dX1_trace_29 (by decide) ?_
        refine lv_iinc (v := (v4 + 1)) (lv' := [(4, .int (v4 + 1)), (5, .null), (0, .ref o), (1, .ref a1), (2, va_rf v2), (3, va_rf v3)]) hx hb dX1_trace_48 hl (k := 5) rfl rfl (by decide) (by cases v3 <;> rfl) (fun ls hl => ?_)
        refine lv_goto (tgt := 10) hx hb dX1_trace_51 (by decide) ?_
        exact ih o (some a1) v2 v3 (v4 + 1) _ _ _ _ (lv_sub hl [2, 3, 4, 5, 0] rfl) hW hS h
      | some a9 =>
        replace h := oe_s h
        have hl : lv_has ls 6 [(5, .ref a9), (0, .ref o), (1, .ref a1), (2, va_rf v2), (3, va_rf v3), (4, .int v4)] := hl
        refine lv_ifnull hx hb dX1_trace_29 ?_
        refine lv_aload hx hb dX1_trace_32 (lv_at hl 0 rfl) ?_
        replace h := b1_some h
        obtain ⟨x10, gx10, h⟩ := h
        refine z_getI X hW gx10 kX5 (by decide) (by decide) kf_X1_53 dX1_trace_34 ?_
        refine lv_iconst (v := 2) hx hb dX1_trace_37 (by decide) ?_
        refine lv_icmp_ne (tgt := 48) hx hb dX1_trace_38 (by decide) (fun c11 => ?_) (fun c11 => ?_)
        · replace h := it_f h c11
          refine lv_iinc (v := (v4 + 1)) (lv' := [(4, .int (v4 + 1)), (5, .ref a9), (0, .ref o), (1, .ref a1), (2, va_rf v2), (3, va_rf v3)]) hx hb dX1_trace_48 hl (k := 5) rfl rfl (by decide) (by cases v3 <;> rfl) (fun ls hl => ?_)
          refine lv_goto (tgt := 10) hx hb dX1_trace_51 (by decide) ?_
          exact ih o (some a1) v2 v3 (v4 + 1) _ _ _ _ (lv_sub hl [2, 3, 4, 5, 0] rfl) hW hS h
        · replace h := it_t h c11
          refine lv_aload_n hx hb dX1_trace_41 rfl (lv_at hl 1 rfl) ?_
          refine lv_aload hx hb dX1_trace_42 (lv_at hl 0 rfl) ?_
          refine lv_null hx hb dX1_trace_44 ?_
          replace h := b1_some h
          obtain ⟨q12, gq12, h⟩ := h
          replace h := b2_some h
          obtain ⟨_ur13, s14, gs14, h⟩ := h
          refine z_callVv (rest := []) X hW hS (cX1_addBehind_met gs14) kb_X1_addBehind kv_X1_addBehind kl_X1_56 (it_v gq12).1 kX1 rfl rfl ⟨Nat.le_of_ble_eq_true rfl, Nat.le_of_ble_eq_true rfl⟩ rfl rfl (by decide) hl.1 dX1_trace_45 ⟨(by decide), (by decide)⟩ (fun H locs hW hS => ?_)
          refine lv_iinc (v := (v4 + 1)) (lv' := [(4, .int (v4 + 1)), (5, .ref a9), (0, .ref o), (1, .ref a1), (2, va_rf v2), (3, va_rf v3)]) hx hb dX1_trace_48 hl (k := 5) rfl rfl (by decide) (by cases v3 <;> rfl) (fun ls hl => ?_)
          refine lv_goto (tgt := 10) hx hb dX1_trace_51 (by decide) ?_
          exact ih o (some a1) v2 v3 (v4 + 1) _ _ _ _ (lv_sub hl [2, 3, 4, 5, 0] rfl) hW hS h

def fX1_trace (o : Nat) (v1 : Option Nat) (v2 : Option Nat) (v3 : Option Nat) (h : Hz) : Option (Unit × Hz) := (b1 (gA 1 0 o h) fun a1 => (b1 (tg 3 a1 h) fun _ => (b2 (fX3_restart a1 h) fun _ s4 => fX1_trace_10 100000 o v1 v2 v3 0 s4)))
set_option maxHeartbeats 4000000 in
set_option maxRecDepth 100000 in
theorem wX1_trace_0 {r0 : Unit} {h0 : Hz} (X : zX A D cy p s m args c cX1_trace RX1 6) (hlk : meth.locks = false) (hr : meth.sig.returnType = none) (o : Nat) (v1 : Option Nat) (v2 : Option Nat) (v3 : Option Nat) (h : Hz) (H : Heap) (locs : List Loc) (ls : Array Slot) (hl : lv_has ls 6 [(0, .ref o), (1, va_rf v1), (2, va_rf v2), (3, va_rf v3)]) (hW : zW A cy D h H) (hS : va_S A s.heap H locs) (h : fX1_trace o v1 v2 v3 h = some (r0, h0)) : W p l e ({ frames := 3, cells := 0, slots := 0, locals := 67 } : Room) s m args below meth c H locs 0 0 (MQ below (va_Qv (fun u => u = h0) (zB A D cy) A) args s 0 0 A) (F0 m 0 ls []) := by
  obtain ⟨hx, hb, hts, hown, hK9, hml, hN9, hA9⟩ := id X
  unfold fX1_trace at h
  refine lv_aload_n hx hb dX1_trace_0 rfl (lv_at hl 0 rfl) ?_
  replace h := b1_some h
  obtain ⟨a1, ga1, h⟩ := h
  refine z_getA X hW ga1 kX1 (by decide) (by decide) kf_X1_12 dX1_trace_1 ?_
  replace h := b1_some h
  obtain ⟨q2, gq2, h⟩ := h
  replace h := b2_some h
  obtain ⟨_ur3, s4, gs4, h⟩ := h
  refine z_callVv (rest := []) X hW hS (cX3_restart_met gs4) kb_X3_restart kv_X3_restart kl_X1_40 (it_v gq2).1 kX3 rfl rfl ⟨Nat.le_of_ble_eq_true rfl, Nat.le_of_ble_eq_true rfl⟩ rfl rfl (by decide) hl.1 dX1_trace_4 ⟨(by decide), (by decide)⟩ (fun H locs hW hS => ?_)
  refine lv_iconst (v := 0) hx hb dX1_trace_7 (by decide) ?_
  refine lv_istore (lv' := [(4, .int 0), (0, .ref o), (1, va_rf v1), (2, va_rf v2), (3, va_rf v3)]) hx hb dX1_trace_8 hl (by decide) (by cases v3 <;> rfl) (fun ls hl => ?_)
  exact wX1_trace_10 X hlk hr _ o v1 v2 v3 0 _ _ _ _ (lv_sub hl [1, 2, 3, 4, 0] rfl) hW hS h

set_option maxHeartbeats 4000000 in
set_option maxRecDepth 100000 in
theorem cX1_trace_met {l : Launch} {A : Nat → Prop} {D : va_G} {cy : Nat → ClassId} {r0 : Unit} {h0 : Hz} {o : Nat} {v1 : Option Nat} {v2 : Option Nat} {v3 : Option Nat} {h : Hz} (g : fX1_trace o v1 v2 v3 h = some (r0, h0)) : Met l yX1_trace (Cond.code yX1_trace cX1_trace 6 none :: wT) ({ frames := 3, cells := 0, slots := 0, locals := 67 } : Room) (va_Pc [.ref o, va_rf v1, va_rf v2, va_rf v3] (zS A D cy h)) (va_Qv (fun u => u = h0) (zB A D cy) A) 0 0 A := by
  refine Met.ofW (cc := cX1_trace) (maxL := 6) (ret := none) (by decide) rfl ?_
  intro p e s m args below meth c s₁ B hml hv
  obtain ⟨rfl, hW, hK, hN, hA⟩ := hv
  have X : zX A D cy p s m _ c cX1_trace RX1 6 := ⟨B.exec, B.bytes, fun w hw => atoms_spec (ws := Cond.code yX1_trace cX1_trace 6 none :: wT) B.pre w (List.mem_cons_of_mem _ hw), findClass_of_methodNamed B.named, hK, hml, hN, hA⟩
  cases v1 with
  | none =>
    cases v2 with
    | none =>
      cases v3 with
      | none =>
        have hl := lv_entry [.ref o, va_rf none, va_rf none, va_rf none] (n := 6) (Nat.le_of_ble_eq_true rfl)
        rw [lg_entry_eq]
        generalize (lg_sl [.ref o, va_rf none, va_rf none, va_rf none] ++ List.replicate (6 - (lg_sl [.ref o, va_rf none, va_rf none, va_rf none]).length) Slot.unset).toArray = ls at hl ⊢
        have hl : lv_has ls 6 [(0, .ref o), (1, va_rf none), (2, va_rf none), (3, va_rf none)] := hl
        exact wX1_trace_0 X B.notSynchronized B.returns o none none none _ _ _ _ (lv_sub hl [0, 1, 2, 3] rfl) hW va_S.rf g
      | some v3 =>
        have hl := lv_entry [.ref o, va_rf none, va_rf none, va_rf (some v3)] (n := 6) (Nat.le_of_ble_eq_true rfl)
        rw [lg_entry_eq]
        generalize (lg_sl [.ref o, va_rf none, va_rf none, va_rf (some v3)] ++ List.replicate (6 - (lg_sl [.ref o, va_rf none, va_rf none, va_rf (some v3)]).length) Slot.unset).toArray = ls at hl ⊢
        have hl : lv_has ls 6 [(0, .ref o), (1, va_rf none), (2, va_rf none), (3, va_rf (some v3))] := hl
        exact wX1_trace_0 X B.notSynchronized B.returns o none none (some v3) _ _ _ _ (lv_sub hl [0, 1, 2, 3] rfl) hW va_S.rf g
    | some v2 =>
      cases v3 with
      | none =>
        have hl := lv_entry [.ref o, va_rf none, va_rf (some v2), va_rf none] (n := 6) (Nat.le_of_ble_eq_true rfl)
        rw [lg_entry_eq]
        generalize (lg_sl [.ref o, va_rf none, va_rf (some v2), va_rf none] ++ List.replicate (6 - (lg_sl [.ref o, va_rf none, va_rf (some v2), va_rf none]).length) Slot.unset).toArray = ls at hl ⊢
        have hl : lv_has ls 6 [(0, .ref o), (1, va_rf none), (2, va_rf (some v2)), (3, va_rf none)] := hl
        exact wX1_trace_0 X B.notSynchronized B.returns o none (some v2) none _ _ _ _ (lv_sub hl [0, 1, 2, 3] rfl) hW va_S.rf g
      | some v3 =>
        have hl := lv_entry [.ref o, va_rf none, va_rf (some v2), va_rf (some v3)] (n := 6) (Nat.le_of_ble_eq_true rfl)
        rw [lg_entry_eq]
        generalize (lg_sl [.ref o, va_rf none, va_rf (some v2), va_rf (some v3)] ++ List.replicate (6 - (lg_sl [.ref o, va_rf none, va_rf (some v2), va_rf (some v3)]).length) Slot.unset).toArray = ls at hl ⊢
        have hl : lv_has ls 6 [(0, .ref o), (1, va_rf none), (2, va_rf (some v2)), (3, va_rf (some v3))] := hl
        exact wX1_trace_0 X B.notSynchronized B.returns o none (some v2) (some v3) _ _ _ _ (lv_sub hl [0, 1, 2, 3] rfl) hW va_S.rf g
  | some v1 =>
    cases v2 with
    | none =>
      cases v3 with
      | none =>
        have hl := lv_entry [.ref o, va_rf (some v1), va_rf none, va_rf none] (n := 6) (Nat.le_of_ble_eq_true rfl)
        rw [lg_entry_eq]
        generalize (lg_sl [.ref o, va_rf (some v1), va_rf none, va_rf none] ++ List.replicate (6 - (lg_sl [.ref o, va_rf (some v1), va_rf none, va_rf none]).length) Slot.unset).toArray = ls at hl ⊢
        have hl : lv_has ls 6 [(0, .ref o), (1, va_rf (some v1)), (2, va_rf none), (3, va_rf none)] := hl
        exact wX1_trace_0 X B.notSynchronized B.returns o (some v1) none none _ _ _ _ (lv_sub hl [0, 1, 2, 3] rfl) hW va_S.rf g
      | some v3 =>
        have hl := lv_entry [.ref o, va_rf (some v1), va_rf none, va_rf (some v3)] (n := 6) (Nat.le_of_ble_eq_true rfl)
        rw [lg_entry_eq]
        generalize (lg_sl [.ref o, va_rf (some v1), va_rf none, va_rf (some v3)] ++ List.replicate (6 - (lg_sl [.ref o, va_rf (some v1), va_rf none, va_rf (some v3)]).length) Slot.unset).toArray = ls at hl ⊢
        have hl : lv_has ls 6 [(0, .ref o), (1, va_rf (some v1)), (2, va_rf none), (3, va_rf (some v3))] := hl
        exact wX1_trace_0 X B.notSynchronized B.returns o (some v1) none (some v3) _ _ _ _ (lv_sub hl [0, 1, 2, 3] rfl) hW va_S.rf g
    | some v2 =>
      cases v3 with
      | none =>
        have hl := lv_entry [.ref o, va_rf (some v1), va_rf (some v2), va_rf none] (n := 6) (Nat.le_of_ble_eq_true rfl)
        rw [lg_entry_eq]
        generalize (lg_sl [.ref o, va_rf (some v1), va_rf (some v2), va_rf none] ++ List.replicate (6 - (lg_sl [.ref o, va_rf (some v1), va_rf (some v2), va_rf none]).length) Slot.unset).toArray = ls at hl ⊢
        have hl : lv_has ls 6 [(0, .ref o), (1, va_rf (some v1)), (2, va_rf (some v2)), (3, va_rf none)] := hl
        exact wX1_trace_0 X B.notSynchronized B.returns o (some v1) (some v2) none _ _ _ _ (lv_sub hl [0, 1, 2, 3] rfl) hW va_S.rf g
      | some v3 =>
        have hl := lv_entry [.ref o, va_rf (some v1), va_rf (some v2), va_rf (some v3)] (n := 6) (Nat.le_of_ble_eq_true rfl)
        rw [lg_entry_eq]
        generalize (lg_sl [.ref o, va_rf (some v1), va_rf (some v2), va_rf (some v3)] ++ List.replicate (6 - (lg_sl [.ref o, va_rf (some v1), va_rf (some v2), va_rf (some v3)]).length) Slot.unset).toArray = ls at hl ⊢
        have hl : lv_has ls 6 [(0, .ref o), (1, va_rf (some v1)), (2, va_rf (some v2)), (3, va_rf (some v3))] := hl
        exact wX1_trace_0 X B.notSynchronized B.returns o (some v1) (some v2) (some v3) _ _ _ _ (lv_sub hl [0, 1, 2, 3] rfl) hW va_S.rf g

theorem dX1_beforeOf_0 : decode cX1_beforeOf 0 = .ok (.aload_n 1, 1) := by decide +kernel
theorem dX1_beforeOf_1 : decode cX1_beforeOf 1 = .ok (.getfield 119, 3) := by decide +kernel
theorem dX1_beforeOf_4 : decode cX1_beforeOf 4 = .ok (.ifCond .lt 27, 3) := by decide +kernel
theorem dX1_beforeOf_7 : decode cX1_beforeOf 7 = .ok (.aload_n 1, 1) := by decide +kernel
theorem dX1_beforeOf_8 : decode cX1_beforeOf 8 = .ok (.getfield 119, 3) := by decide +kernel
theorem dX1_beforeOf_11 : decode cX1_beforeOf 11 = .ok (.aload_n 0, 1) := by decide +kernel
theorem dX1_beforeOf_12 : decode cX1_beforeOf 12 = .ok (.getfield 24, 3) := by decide +kernel
theorem dX1_beforeOf_15 : decode cX1_beforeOf 15 = .ok (.arraylength, 1) := by decide +kernel
theorem dX1_beforeOf_16 : decode cX1_beforeOf 16 = .ok (.if_icmp .ge 15, 3) := by decide +kernel
theorem dX1_beforeOf_19 : decode cX1_beforeOf 19 = .ok (.aload_n 0, 1) := by decide +kernel
theorem dX1_beforeOf_20 : decode cX1_beforeOf 20 = .ok (.getfield 24, 3) := by decide +kernel
theorem dX1_beforeOf_23 : decode cX1_beforeOf 23 = .ok (.aload_n 1, 1) := by decide +kernel
theorem dX1_beforeOf_24 : decode cX1_beforeOf 24 = .ok (.getfield 119, 3) := by decide +kernel
theorem dX1_beforeOf_27 : decode cX1_beforeOf 27 = .ok (.aaload, 1) := by decide +kernel
theorem dX1_beforeOf_28 : decode cX1_beforeOf 28 = .ok (.goto 4, 3) := by decide +kernel
theorem dX1_beforeOf_31 : decode cX1_beforeOf 31 = .ok (.aconst_null, 1) := by decide +kernel
theorem dX1_beforeOf_32 : decode cX1_beforeOf 32 = .ok (.areturn, 1) := by decide +kernel
def fX1_beforeOf (o : Nat) (v1 : Option Nat) (h : Hz) : Option (Option Nat × Hz) := b1 v1 fun a1 => (b1 (gI 5 0 a1 h) fun x2 => (if x2 < 0 then some (none, h) else (b1 (gI 5 0 a1 h) fun x4 => (b1 (gA 1 2 o h) fun a5 => (b1 (xN 17 a5 h) fun x6 => (if x6 ≤ x4 then some (none, h) else (b1 (gA 1 2 o h) fun a8 => (b1 (gI 5 0 a1 h) fun x9 => (b1 (xP 17 a8 x9 h) fun r10 => some (r10, h))))))))))
set_option maxHeartbeats 4000000 in
set_option maxRecDepth 100000 in
theorem wX1_beforeOf_0 {r0 : Option Nat} {h0 : Hz} (X : zX A D cy p s m args c cX1_beforeOf RX1 2) (hlk : meth.locks = false) (hr : meth.sig.returnType = (some (.object "FarHold$Thing"))) (o : Nat) (v1 : Option Nat) (h : Hz) (H : Heap) (locs : List Loc) (ls : Array Slot) (hl : lv_has ls 2 [(0, .ref o), (1, va_rf v1)]) (hW : zW A cy D h H) (hS : va_S A s.heap H locs) (h : fX1_beforeOf o v1 h = some (r0, h0)) : W p l e ({ frames := 0, cells := 0, slots := 0, locals := 0 } : Room) s m args below meth c H locs 0 0 (MQ below (va_Qq (fun r1 u => r1 = r0 ∧ u = h0) (zB A D cy) A) args s 0 0 A) (F0 m 0 ls []) := by
  obtain ⟨hx, hb, hts, hown, hK9, hml, hN9, hA9⟩ := id X
  unfold fX1_beforeOf at h
  refine z_aload_n hx hb dX1_beforeOf_0 rfl (lv_at hl 1 rfl) ?_
  replace h := b1_some h
  obtain ⟨a1, ea1, h⟩ := h
  subst ea1
  replace h := b1_some h
  obtain ⟨x2, gx2, h⟩ := h
  refine z_getI X hW gx2 kX5 (by decide) (by decide) kf_X1_119 dX1_beforeOf_1 ?_
  refine lv_if_lt (tgt := 31) hx hb dX1_beforeOf_4 (by decide) (fun c3 => ?_) (fun c3 => ?_)
  · replace h := it_t h c3
    refine lv_null hx hb dX1_beforeOf_31 ?_
    exact z_eta (v := none) X hlk hr hW hS h (by decide) (by decide) dX1_beforeOf_32
  · replace h := it_f h c3
    refine lv_aload_n hx hb dX1_beforeOf_7 rfl (lv_at hl 1 rfl) ?_
    replace h := b1_some h
    obtain ⟨x4, gx4, h⟩ := h
    refine z_getI X hW gx4 kX5 (by decide) (by decide) kf_X1_119 dX1_beforeOf_8 ?_
    refine lv_aload_n hx hb dX1_beforeOf_11 rfl (lv_at hl 0 rfl) ?_
    replace h := b1_some h
    obtain ⟨a5, ga5, h⟩ := h
    refine z_getA X hW ga5 kX1 (by decide) (by decide) kf_X1_24 dX1_beforeOf_12 ?_
    replace h := b1_some h
    obtain ⟨x6, gx6, h⟩ := h
    refine z_alenP X hW gx6 (by decide) (by decide) rfl dX1_beforeOf_15 ?_
    refine lv_icmp_ge (tgt := 31) hx hb dX1_beforeOf_16 (by decide) (fun c7 => ?_) (fun c7 => ?_)
    · replace h := it_t h c7
      refine lv_null hx hb dX1_beforeOf_31 ?_
      exact z_eta (v := none) X hlk hr hW hS h (by decide) (by decide) dX1_beforeOf_32
    · replace h := it_f h c7
      refine lv_aload_n hx hb dX1_beforeOf_19 rfl (lv_at hl 0 rfl) ?_
      replace h := b1_some h
      obtain ⟨a8, ga8, h⟩ := h
      refine z_getA X hW ga8 kX1 (by decide) (by decide) kf_X1_24 dX1_beforeOf_20 ?_
      refine lv_aload_n hx hb dX1_beforeOf_23 rfl (lv_at hl 1 rfl) ?_
      replace h := b1_some h
      obtain ⟨x9, gx9, h⟩ := h
      refine z_getI X hW gx9 kX5 (by decide) (by decide) kf_X1_119 dX1_beforeOf_24 ?_
      replace h := b1_some h
      obtain ⟨r10, gr10, h⟩ := h
      refine z_aldP X hW gr10 (by decide) (by decide) rfl dX1_beforeOf_27 ?_
      refine lv_goto (tgt := 32) hx hb dX1_beforeOf_28 (by decide) ?_
      exact z_eta (v := r10) X hlk hr hW hS h (by decide) (by decide) dX1_beforeOf_32

set_option maxHeartbeats 4000000 in
set_option maxRecDepth 100000 in
theorem cX1_beforeOf_met {l : Launch} {A : Nat → Prop} {D : va_G} {cy : Nat → ClassId} {r0 : Option Nat} {h0 : Hz} {o : Nat} {v1 : Option Nat} {h : Hz} (g : fX1_beforeOf o v1 h = some (r0, h0)) : Met l yX1_beforeOf (Cond.code yX1_beforeOf cX1_beforeOf 2 (some (.object "FarHold$Thing")) :: wT) ({ frames := 0, cells := 0, slots := 0, locals := 0 } : Room) (va_Pc [.ref o, va_rf v1] (zS A D cy h)) (va_Qq (fun r1 u => r1 = r0 ∧ u = h0) (zB A D cy) A) 0 0 A := by
  refine Met.ofW (cc := cX1_beforeOf) (maxL := 2) (ret := (some (.object "FarHold$Thing"))) (by decide) rfl ?_
  intro p e s m args below meth c s₁ B hml hv
  obtain ⟨rfl, hW, hK, hN, hA⟩ := hv
  have X : zX A D cy p s m _ c cX1_beforeOf RX1 2 := ⟨B.exec, B.bytes, fun w hw => atoms_spec (ws := Cond.code yX1_beforeOf cX1_beforeOf 2 (some (.object "FarHold$Thing")) :: wT) B.pre w (List.mem_cons_of_mem _ hw), findClass_of_methodNamed B.named, hK, hml, hN, hA⟩
  cases v1 with
  | none =>
    have hl := lv_entry [.ref o, va_rf none] (n := 2) (Nat.le_of_ble_eq_true rfl)
    rw [lg_entry_eq]
    generalize (lg_sl [.ref o, va_rf none] ++ List.replicate (2 - (lg_sl [.ref o, va_rf none]).length) Slot.unset).toArray = ls at hl ⊢
    have hl : lv_has ls 2 [(0, .ref o), (1, va_rf none)] := hl
    exact wX1_beforeOf_0 X B.notSynchronized B.returns o none _ _ _ _ (lv_sub hl [0, 1] rfl) hW va_S.rf g
  | some v1 =>
    have hl := lv_entry [.ref o, va_rf (some v1)] (n := 2) (Nat.le_of_ble_eq_true rfl)
    rw [lg_entry_eq]
    generalize (lg_sl [.ref o, va_rf (some v1)] ++ List.replicate (2 - (lg_sl [.ref o, va_rf (some v1)]).length) Slot.unset).toArray = ls at hl ⊢
    have hl : lv_has ls 2 [(0, .ref o), (1, va_rf (some v1))] := hl
    exact wX1_beforeOf_0 X B.notSynchronized B.returns o (some v1) _ _ _ _ (lv_sub hl [0, 1] rfl) hW va_S.rf g

theorem dX1_onTheWay_0 : decode cX1_onTheWay 0 = .ok (.aload_n 0, 1) := by decide +kernel
theorem dX1_onTheWay_1 : decode cX1_onTheWay 1 = .ok (.getfield 12, 3) := by decide +kernel
theorem dX1_onTheWay_4 : decode cX1_onTheWay 4 = .ok (.aload_n 1, 1) := by decide +kernel
theorem dX1_onTheWay_5 : decode cX1_onTheWay 5 = .ok (.invokevirtual 36, 3) := by decide +kernel
theorem dX1_onTheWay_8 : decode cX1_onTheWay 8 = .ok (.ifCond .eq 16, 3) := by decide +kernel
theorem dX1_onTheWay_11 : decode cX1_onTheWay 11 = .ok (.iload_n 2, 1) := by decide +kernel
theorem dX1_onTheWay_12 : decode cX1_onTheWay 12 = .ok (.ifCond .lt 12, 3) := by decide +kernel
theorem dX1_onTheWay_15 : decode cX1_onTheWay 15 = .ok (.iload_n 2, 1) := by decide +kernel
theorem dX1_onTheWay_16 : decode cX1_onTheWay 16 = .ok (.aload_n 0, 1) := by decide +kernel
theorem dX1_onTheWay_17 : decode cX1_onTheWay 17 = .ok (.aload_n 1, 1) := by decide +kernel
theorem dX1_onTheWay_18 : decode cX1_onTheWay 18 = .ok (.invokevirtual 125, 3) := by decide +kernel
theorem dX1_onTheWay_21 : decode cX1_onTheWay 21 = .ok (.if_icmp .le 5, 3) := by decide +kernel
theorem dX1_onTheWay_24 : decode cX1_onTheWay 24 = .ok (.iconst (-1), 1) := by decide +kernel
theorem dX1_onTheWay_25 : decode cX1_onTheWay 25 = .ok (.ireturn, 1) := by decide +kernel
theorem dX1_onTheWay_26 : decode cX1_onTheWay 26 = .ok (.aload_n 1, 1) := by decide +kernel
theorem dX1_onTheWay_27 : decode cX1_onTheWay 27 = .ok (.astore_n 3, 1) := by decide +kernel
theorem dX1_onTheWay_28 : decode cX1_onTheWay 28 = .ok (.aload_n 0, 1) := by decide +kernel
theorem dX1_onTheWay_29 : decode cX1_onTheWay 29 = .ok (.aload_n 1, 1) := by decide +kernel
theorem dX1_onTheWay_30 : decode cX1_onTheWay 30 = .ok (.invokevirtual 125, 3) := by decide +kernel
theorem dX1_onTheWay_33 : decode cX1_onTheWay 33 = .ok (.istore 4, 2) := by decide +kernel
theorem dX1_onTheWay_35 : decode cX1_onTheWay 35 = .ok (.iload 4, 2) := by decide +kernel
theorem dX1_onTheWay_37 : decode cX1_onTheWay 37 = .ok (.iload_n 2, 1) := by decide +kernel
theorem dX1_onTheWay_38 : decode cX1_onTheWay 38 = .ok (.if_icmp .le 19, 3) := by decide +kernel
theorem dX1_onTheWay_41 : decode cX1_onTheWay 41 = .ok (.aload_n 3, 1) := by decide +kernel
theorem dX1_onTheWay_42 : decode cX1_onTheWay 42 = .ok (.ifnull 15, 3) := by decide +kernel
theorem dX1_onTheWay_45 : decode cX1_onTheWay 45 = .ok (.aload_n 0, 1) := by decide +kernel
theorem dX1_onTheWay_46 : decode cX1_onTheWay 46 = .ok (.aload_n 3, 1) := by decide +kernel
theorem dX1_onTheWay_47 : decode cX1_onTheWay 47 = .ok (.invokevirtual 129, 3) := by decide +kernel
theorem dX1_onTheWay_50 : decode cX1_onTheWay 50 = .ok (.astore_n 3, 1) := by decide +kernel
theorem dX1_onTheWay_51 : decode cX1_onTheWay 51 = .ok (.iinc 4 (-1), 3) := by decide +kernel
theorem dX1_onTheWay_54 : decode cX1_onTheWay 54 = .ok (.goto (-19), 3) := by decide +kernel
theorem dX1_onTheWay_57 : decode cX1_onTheWay 57 = .ok (.aload_n 3, 1) := by decide +kernel
theorem dX1_onTheWay_58 : decode cX1_onTheWay 58 = .ok (.ifnonnull 7, 3) := by decide +kernel
theorem dX1_onTheWay_61 : decode cX1_onTheWay 61 = .ok (.iconst (-1), 1) := by decide +kernel
theorem dX1_onTheWay_62 : decode cX1_onTheWay 62 = .ok (.goto 7, 3) := by decide +kernel
theorem dX1_onTheWay_65 : decode cX1_onTheWay 65 = .ok (.aload_n 3, 1) := by decide +kernel
theorem dX1_onTheWay_66 : decode cX1_onTheWay 66 = .ok (.getfield 119, 3) := by decide +kernel
theorem dX1_onTheWay_69 : decode cX1_onTheWay 69 = .ok (.ireturn, 1) := by decide +kernel
def fX1_onTheWay_57 (v3 : Option Nat) (h : Hz) : Option (Int32 × Hz) := (oe v3 (some ((-1), h)) fun a1 => (b1 (gI 5 0 a1 h) fun x2 => some (x2, h)))
set_option maxHeartbeats 4000000 in
set_option maxRecDepth 100000 in
theorem wX1_onTheWay_57 {r0 : Int32} {h0 : Hz} (X : zX A D cy p s m args c cX1_onTheWay RX1 5) (hlk : meth.locks = false) (hr : meth.sig.returnType = (some .int)) (v3 : Option Nat) (h : Hz) (H : Heap) (locs : List Loc) (ls : Array Slot) (hl : lv_has ls 5 [(3, va_rf v3)]) (hW : zW A cy D h H) (hS : va_S A s.heap H locs) (h : fX1_onTheWay_57 v3 h = some (r0, h0)) : W p l e ({ frames := 1, cells := 0, slots := 0, locals := 21 } : Room) s m args below meth c H locs 0 0 (MQ below (va_Qi (fun r1 u => r1 = r0 ∧ u = h0) (zB A D cy) A) args s 0 0 A) (F0 m 57 ls []) := by
  obtain ⟨hx, hb, hts, hown, hK9, hml, hN9, hA9⟩ := id X
  unfold fX1_onTheWay_57 at h
  refine z_aload_n hx hb dX1_onTheWay_57 rfl (lv_at hl 0 rfl) ?_
  cases v3 with
  | none =>
    replace h := oe_n h
    have hl : lv_has ls 5 [(3, .null)] := hl
    refine lv_ifnonnullN hx hb dX1_onTheWay_58 ?_
    refine lv_iconst (v := (-1)) hx hb dX1_onTheWay_61 (by decide) ?_
    refine lv_goto (tgt := 69) hx hb dX1_onTheWay_62 (by decide) ?_
    exact z_eti X hlk hr hW hS h (by decide) (by decide) dX1_onTheWay_69
  | some a1 =>
    replace h := oe_s h
    have hl : lv_has ls 5 [(3, .ref a1)] := hl
    refine lv_ifnonnull (tgt := 65) hx hb dX1_onTheWay_58 (by decide) ?_
    refine lv_aload_n hx hb dX1_onTheWay_65 rfl (lv_at hl 0 rfl) ?_
    replace h := b1_some h
    obtain ⟨x2, gx2, h⟩ := h
    refine z_getI X hW gx2 kX5 (by decide) (by decide) kf_X1_119 dX1_onTheWay_66 ?_
    exact z_eti X hlk hr hW hS h (by decide) (by decide) dX1_onTheWay_69

def fX1_onTheWay_35 : Nat → Nat → Int32 → Option Nat → Int32 → Hz → Option (Int32 × Hz)
  | 0, _, _, _, _, _ => none
  | n + 1, o, v2, v3, v4, h => (if v4 ≤ v2 then fX1_onTheWay_57 v3 h else (oe v3 (fX1_onTheWay_57 none h) fun a2 => (b1 (tg 1 o h) fun _ => (b2 (fX1_beforeOf o (some a2) h) fun r4 s5 => fX1_onTheWay_35 n o v2 r4 (v4 + (-1)) s5))))
set_option maxHeartbeats 4000000 in
set_option maxRecDepth 100000 in
theorem wX1_onTheWay_35 {r0 : Int32} {h0 : Hz} (X : zX A D cy p s m args c cX1_onTheWay RX1 5) (hlk : meth.locks = false) (hr : meth.sig.returnType = (some .int)) : ∀ (n : Nat) (o : Nat) (v2 : Int32) (v3 : Option Nat) (v4 : Int32) (h : Hz) (H : Heap) (locs : List Loc) (ls : Array Slot) (hl : lv_has ls 5 [(0, .ref o), (2, .int v2), (3, va_rf v3), (4, .int v4)]) (hW : zW A cy D h H) (hS : va_S A s.heap H locs) (h : fX1_onTheWay_35 n o v2 v3 v4 h = some (r0, h0)), W p l e ({ frames := 1, cells := 0, slots := 0, locals := 21 } : Room) s m args below meth c H locs 0 0 (MQ below (va_Qi (fun r1 u => r1 = r0 ∧ u = h0) (zB A D cy) A) args s 0 0 A) (F0 m 35 ls []) := by
  obtain ⟨hx, hb, hts, hown, hK9, hml, hN9, hA9⟩ := id X
  intro n
  induction n with
  | zero =>
    intro o v2 v3 v4 h H locs ls hl hW hS h
    rw [fX1_onTheWay_35] at h
    cases h
  | succ n ih =>
    intro o v2 v3 v4 h H locs ls hl hW hS h
    rw [fX1_onTheWay_35] at h
    refine lv_iload hx hb dX1_onTheWay_35 (lv_at hl 3 rfl) ?_
    refine lv_iload_n hx hb dX1_onTheWay_37 rfl (lv_at hl 1 rfl) ?_
    refine lv_icmp_le (tgt := 57) hx hb dX1_onTheWay_38 (by decide) (fun c1 => ?_) (fun c1 => ?_)
    · replace h := it_t h c1
      exact wX1_onTheWay_57 X hlk hr v3 _ _ _ _ (lv_sub hl [2] rfl) hW hS h
    · replace h := it_f h c1
      refine z_aload_n hx hb dX1_onTheWay_41 rfl (lv_at hl 2 rfl) ?_
      cases v3 with
      | none =>
        replace h := oe_n h
        have hl : lv_has ls 5 [(0, .ref o), (2, .int v2), (3, .null), (4, .int v4)] := hl
        refine lv_ifnullN (tgt := 57) hx hb dX1_onTheWay_42 (by decide) ?_
        exact wX1_onTheWay_57 X hlk hr none _ _ _ _ (lv_sub hl [2] rfl) hW hS h
      | some a2 =>
        replace h := oe_s h
        have hl : lv_has ls 5 [(0, .ref o), (2, .int v2), (3, .ref a2), (4, .int v4)] := hl
        refine lv_ifnull hx hb dX1_onTheWay_42 ?_
        refine lv_aload_n hx hb dX1_onTheWay_45 rfl (lv_at hl 0 rfl) ?_
        refine lv_aload_n hx hb dX1_onTheWay_46 rfl (lv_at hl 2 rfl) ?_
        replace h := b1_some h
        obtain ⟨q3, gq3, h⟩ := h
        replace h := b2_some h
        obtain ⟨r4, s5, gs5, h⟩ := h
        refine z_callVq (rest := []) X hW hS (cX1_beforeOf_met gs5) kb_X1_beforeOf kv_X1_beforeOf kl_X1_129 (it_v gq3).1 kX1 rfl rfl ⟨Nat.le_of_ble_eq_true rfl, Nat.le_of_ble_eq_true rfl⟩ rfl rfl (by decide) hl.1 dX1_onTheWay_47 ⟨(by decide), (by decide)⟩ (fun H locs hW hS => ?_)
        refine z_astore_n (lv' := [(3, va_rf r4), (0, .ref o), (2, .int v2), (4, .int v4)]) hx hb dX1_onTheWay_50 rfl hl (by decide) rfl (fun ls hl => ?_)
        refine lv_iinc (v := (v4 + (-1))) (lv' := [(4, .int (v4 + (-1))), (3, va_rf r4), (0, .ref o), (2, .int v2)]) hx hb dX1_onTheWay_51 hl (k := 3) rfl rfl (by decide) (by cases r4 <;> rfl) (fun ls hl => ?_)
        refine lv_goto (tgt := 35) hx hb dX1_onTheWay_54 (by decide) ?_
        exact ih o v2 r4 (v4 + (-1)) _ _ _ _ (lv_sub hl [2, 3, 1, 0] rfl) hW hS h

def fX1_onTheWay (o : Nat) (v1 : Option Nat) (v2 : Int32) (h : Hz) : Option (Int32 × Hz) := (b1 (gA 1 0 o h) fun a1 => (b1 (tg 3 a1 h) fun _ => (b2 (fX3_has a1 v1 h) fun x3 s4 => (if x3 = 0 then some ((-1), s4) else (if v2 < 0 then some ((-1), s4) else (b1 (tg 1 o s4) fun _ => (b2 (fX1_depthOf o v1 s4) fun x8 s9 => (if v2 ≤ x8 then (b1 (tg 1 o s9) fun _ => (b2 (fX1_depthOf o v1 s9) fun x12 s13 => fX1_onTheWay_35 100000 o v2 v1 x12 s13)) else some ((-1), s9)))))))))
set_option maxHeartbeats 4000000 in
set_option maxRecDepth 100000 in
theorem wX1_onTheWay_0 {r0 : Int32} {h0 : Hz} (X : zX A D cy p s m args c cX1_onTheWay RX1 5) (hlk : meth.locks = false) (hr : meth.sig.returnType = (some .int)) (o : Nat) (v1 : Option Nat) (v2 : Int32) (h : Hz) (H : Heap) (locs : List Loc) (ls : Array Slot) (hl : lv_has ls 5 [(0, .ref o), (1, va_rf v1), (2, .int v2)]) (hW : zW A cy D h H) (hS : va_S A s.heap H locs) (h : fX1_onTheWay o v1 v2 h = some (r0, h0)) : W p l e ({ frames := 1, cells := 0, slots := 0, locals := 21 } : Room) s m args below meth c H locs 0 0 (MQ below (va_Qi (fun r1 u => r1 = r0 ∧ u = h0) (zB A D cy) A) args s 0 0 A) (F0 m 0 ls []) := by
  obtain ⟨hx, hb, hts, hown, hK9, hml, hN9, hA9⟩ := id X
  unfold fX1_onTheWay at h
  refine lv_aload_n hx hb dX1_onTheWay_0 rfl (lv_at hl 0 rfl) ?_
  replace h := b1_some h
  obtain ⟨a1, ga1, h⟩ := h
  refine z_getA X hW ga1 kX1 (by decide) (by decide) kf_X1_12 dX1_onTheWay_1 ?_
  refine z_aload_n hx hb dX1_onTheWay_4 rfl (lv_at hl 1 rfl) ?_
  replace h := b1_some h
  obtain ⟨q2, gq2, h⟩ := h
  replace h := b2_some h
  obtain ⟨x3, s4, gs4, h⟩ := h
  refine z_callVi (rest := []) X hW hS (cX3_has_met gs4) kb_X3_has kv_X3_has kl_X1_36 (it_v gq2).1 kX3 rfl rfl ⟨Nat.le_of_ble_eq_true rfl, Nat.le_of_ble_eq_true rfl⟩ rfl rfl (by decide) hl.1 dX1_onTheWay_5 ⟨(by decide), (by decide)⟩ (fun H locs hW hS => ?_)
  refine lv_if_eq (tgt := 24) hx hb dX1_onTheWay_8 (by decide) (fun c5 => ?_) (fun c5 => ?_)
  · replace h := it_t h c5
    refine lv_iconst (v := (-1)) hx hb dX1_onTheWay_24 (by decide) ?_
    exact z_eti X hlk hr hW hS h (by decide) (by decide) dX1_onTheWay_25
  · replace h := it_f h c5
    refine lv_iload_n hx hb dX1_onTheWay_11 rfl (lv_at hl 2 rfl) ?_
    refine lv_if_lt (tgt := 24) hx hb dX1_onTheWay_12 (by decide) (fun c6 => ?_) (fun c6 => ?_)
    · replace h := it_t h c6
      refine lv_iconst (v := (-1)) hx hb dX1_onTheWay_24 (by decide) ?_
      exact z_eti X hlk hr hW hS h (by decide) (by decide) dX1_onTheWay_25
    · replace h := it_f h c6
      refine lv_iload_n hx hb dX1_onTheWay_15 rfl (lv_at hl 2 rfl) ?_
      refine lv_aload_n hx hb dX1_onTheWay_16 rfl (lv_at hl 0 rfl) ?_
      refine z_aload_n hx hb dX1_onTheWay_17 rfl (lv_at hl 1 rfl) ?_
      replace h := b1_some h
      obtain ⟨q7, gq7, h⟩ := h
      replace h := b2_some h
      obtain ⟨x8, s9, gs9, h⟩ := h
      refine z_callVi (rest := [.int v2]) X hW hS (cX1_depthOf_met gs9) kb_X1_depthOf kv_X1_depthOf kl_X1_125 (it_v gq7).1 kX1 rfl rfl ⟨Nat.le_of_ble_eq_true rfl, Nat.le_of_ble_eq_true rfl⟩ rfl rfl (Nat.le_of_ble_eq_true rfl) hl.1 dX1_onTheWay_18 ⟨(by decide), (by decide)⟩ (fun H locs hW hS => ?_)
      refine lv_icmp_le (tgt := 26) hx hb dX1_onTheWay_21 (by decide) (fun c10 => ?_) (fun c10 => ?_)
      · replace h := it_t h c10
        refine z_aload_n hx hb dX1_onTheWay_26 rfl (lv_at hl 1 rfl) ?_
        refine z_astore_n (lv' := [(3, va_rf v1), (0, .ref o), (1, va_rf v1), (2, .int v2)]) hx hb dX1_onTheWay_27 rfl hl (by decide) rfl (fun ls hl => ?_)
        refine lv_aload_n hx hb dX1_onTheWay_28 rfl (lv_at hl 1 rfl) ?_
        refine z_aload_n hx hb dX1_onTheWay_29 rfl (lv_at hl 2 rfl) ?_
        replace h := b1_some h
        obtain ⟨q11, gq11, h⟩ := h
        replace h := b2_some h
        obtain ⟨x12, s13, gs13, h⟩ := h
        refine z_callVi (rest := []) X hW hS (cX1_depthOf_met gs13) kb_X1_depthOf kv_X1_depthOf kl_X1_125 (it_v gq11).1 kX1 rfl rfl ⟨Nat.le_of_ble_eq_true rfl, Nat.le_of_ble_eq_true rfl⟩ rfl rfl (by decide) hl.1 dX1_onTheWay_30 ⟨(by decide), (by decide)⟩ (fun H locs hW hS => ?_)
        refine lv_istore (lv' := [(4, .int x12), (3, va_rf v1), (0, .ref o), (1, va_rf v1), (2, .int v2)]) hx hb dX1_onTheWay_33 hl (by decide) (by cases v1 <;> rfl) (fun ls hl => ?_)
        exact wX1_onTheWay_35 X hlk hr _ o v2 v1 x12 _ _ _ _ (lv_sub hl [2, 4, 1, 0] rfl) hW hS h
      · replace h := it_f h c10
        refine lv_iconst (v := (-1)) hx hb dX1_onTheWay_24 (by decide) ?_
        exact z_eti X hlk hr hW hS h (by decide) (by decide) dX1_onTheWay_25

set_option maxHeartbeats 4000000 in
set_option maxRecDepth 100000 in
theorem cX1_onTheWay_met {l : Launch} {A : Nat → Prop} {D : va_G} {cy : Nat → ClassId} {r0 : Int32} {h0 : Hz} {o : Nat} {v1 : Option Nat} {v2 : Int32} {h : Hz} (g : fX1_onTheWay o v1 v2 h = some (r0, h0)) : Met l yX1_onTheWay (Cond.code yX1_onTheWay cX1_onTheWay 5 (some .int) :: wT) ({ frames := 1, cells := 0, slots := 0, locals := 21 } : Room) (va_Pc [.ref o, va_rf v1, .int v2] (zS A D cy h)) (va_Qi (fun r1 u => r1 = r0 ∧ u = h0) (zB A D cy) A) 0 0 A := by
  refine Met.ofW (cc := cX1_onTheWay) (maxL := 5) (ret := (some .int)) (by decide) rfl ?_
  intro p e s m args below meth c s₁ B hml hv
  obtain ⟨rfl, hW, hK, hN, hA⟩ := hv
  have X : zX A D cy p s m _ c cX1_onTheWay RX1 5 := ⟨B.exec, B.bytes, fun w hw => atoms_spec (ws := Cond.code yX1_onTheWay cX1_onTheWay 5 (some .int) :: wT) B.pre w (List.mem_cons_of_mem _ hw), findClass_of_methodNamed B.named, hK, hml, hN, hA⟩
  cases v1 with
  | none =>
    have hl := lv_entry [.ref o, va_rf none, .int v2] (n := 5) (Nat.le_of_ble_eq_true rfl)
    rw [lg_entry_eq]
    generalize (lg_sl [.ref o, va_rf none, .int v2] ++ List.replicate (5 - (lg_sl [.ref o, va_rf none, .int v2]).length) Slot.unset).toArray = ls at hl ⊢
    have hl : lv_has ls 5 [(0, .ref o), (1, va_rf none), (2, .int v2)] := hl
    exact wX1_onTheWay_0 X B.notSynchronized B.returns o none v2 _ _ _ _ (lv_sub hl [0, 1, 2] rfl) hW va_S.rf g
  | some v1 =>
    have hl := lv_entry [.ref o, va_rf (some v1), .int v2] (n := 5) (Nat.le_of_ble_eq_true rfl)
    rw [lg_entry_eq]
    generalize (lg_sl [.ref o, va_rf (some v1), .int v2] ++ List.replicate (5 - (lg_sl [.ref o, va_rf (some v1), .int v2]).length) Slot.unset).toArray = ls at hl ⊢
    have hl : lv_has ls 5 [(0, .ref o), (1, va_rf (some v1)), (2, .int v2)] := hl
    exact wX1_onTheWay_0 X B.notSynchronized B.returns o (some v1) v2 _ _ _ _ (lv_sub hl [0, 1, 2] rfl) hW va_S.rf g

theorem dX2_init_0 : decode cX2_init 0 = .ok (.aload_n 0, 1) := by decide +kernel
theorem dX2_init_1 : decode cX2_init 1 = .ok (.invokespecial 3, 3) := by decide +kernel
theorem dX2_init_4 : decode cX2_init 4 = .ok (.aload_n 0, 1) := by decide +kernel
theorem dX2_init_5 : decode cX2_init 5 = .ok (.sipush 600, 3) := by decide +kernel
theorem dX2_init_8 : decode cX2_init 8 = .ok (.anewarray 9, 3) := by decide +kernel
theorem dX2_init_11 : decode cX2_init 11 = .ok (.putfield 11, 3) := by decide +kernel
theorem dX2_init_14 : decode cX2_init 14 = .ok (.aload_n 0, 1) := by decide +kernel
theorem dX2_init_15 : decode cX2_init 15 = .ok (.iconst 0, 1) := by decide +kernel
theorem dX2_init_16 : decode cX2_init 16 = .ok (.putfield 17, 3) := by decide +kernel
theorem dX2_init_19 : decode cX2_init 19 = .ok (.return_, 1) := by decide +kernel
def fX2_init (o : Nat) (h : Hz) : Option (Unit × Hz) := (b2 (nA 15 600 600 h) fun a1 s2 => (b1 (pP 2 0 o (some a1) s2) fun s3 => (b1 (pI 2 1 o 0 s3) fun s4 => some ((), s4))))
set_option maxHeartbeats 4000000 in
set_option maxRecDepth 100000 in
theorem wX2_init_0 {r0 : Unit} {h0 : Hz} (X : zX A D cy p s m args c cX2_init RX2 1) (hlk : meth.locks = false) (hr : meth.sig.returnType = none) (hin : meth.name = "<init>") (o : Nat) (h : Hz) (H : Heap) (locs : List Loc) (ls : Array Slot) (hl : lv_has ls 1 [(0, .ref o)]) (hW : zW A cy D h H) (hS : va_S A s.heap H locs) (h : fX2_init o h = some (r0, h0)) : W p l e ({ frames := 1, cells := 1, slots := 600, locals := 12 } : Room) s m args below meth c H locs 0 0 (MQ below (va_Qv (fun u => u = h0) (zB A D cy) A) args s 1 600 A) (F0 m 0 ls []) := by
  obtain ⟨hx, hb, hts, hown, hK9, hml, hN9, hA9⟩ := id X
  unfold fX2_init at h
  refine lv_aload_n hx hb dX2_init_0 rfl (lv_at hl 0 rfl) ?_
  refine W.objInit hx hb hown (hts _ kl_X2_3) (hts _ km_objectInit) (hts _ kco) rfl (by rw [hml]; exact hl.1) rfl dX2_init_1 (Nat.le_of_ble_eq_true rfl) (Nat.le_of_ble_eq_true rfl) ?_
  refine W.eq (g2 := F0 m 4 ls []) rfl ?_
  refine lv_aload_n hx hb dX2_init_4 rfl (lv_at hl 0 rfl) ?_
  refine lv_sipush (v := 600) hx hb dX2_init_5 (by decide) ?_
  replace h := b2_some h
  obtain ⟨a1, s2, ga1, h⟩ := h
  refine z_newP X hW hS ga1 (by decide) (by decide) rfl kc_X2_9 hN9.2.1 (by decide) dX2_init_8 (by decide) (by decide) (fun H hW hS => ?_)
  replace h := b1_some h
  obtain ⟨s3, gs3, h⟩ := h
  refine z_putP X hW hS gs3 kX2 (by decide) (by decide) (Or.inr ⟨_, rfl⟩) (Or.inr ⟨rfl, hin, rfl⟩) kf_X2_11 dX2_init_11 (fun H locs hW hS => ?_)
  refine lv_aload_n hx hb dX2_init_14 rfl (lv_at hl 0 rfl) ?_
  refine lv_iconst (v := 0) hx hb dX2_init_15 (by decide) ?_
  replace h := b1_some h
  obtain ⟨s4, gs4, h⟩ := h
  refine z_putI X hW hS gs4 kX2 (by decide) (by decide) rfl (Or.inl rfl) kf_X2_17 dX2_init_16 (fun H locs hW hS => ?_)
  exact z_etv X hlk hr hW hS h (by decide) (by decide) dX2_init_19

set_option maxHeartbeats 4000000 in
set_option maxRecDepth 100000 in
theorem cX2_init_met {l : Launch} {A : Nat → Prop} {D : va_G} {cy : Nat → ClassId} {r0 : Unit} {h0 : Hz} {o : Nat} {h : Hz} (g : fX2_init o h = some (r0, h0)) : Met l yX2_init (Cond.code yX2_init cX2_init 1 none :: wT) ({ frames := 1, cells := 1, slots := 600, locals := 12 } : Room) (va_Pc [.ref o] (zS A D cy h)) (va_Qv (fun u => u = h0) (zB A D cy) A) 1 600 A := by
  refine Met.ofW (cc := cX2_init) (maxL := 1) (ret := none) (by decide) rfl ?_
  intro p e s m args below meth c s₁ B hml hv
  obtain ⟨rfl, hW, hK, hN, hA⟩ := hv
  have X : zX A D cy p s m _ c cX2_init RX2 1 := ⟨B.exec, B.bytes, fun w hw => atoms_spec (ws := Cond.code yX2_init cX2_init 1 none :: wT) B.pre w (List.mem_cons_of_mem _ hw), findClass_of_methodNamed B.named, hK, hml, hN, hA⟩
  have hin : meth.name = "<init>" := (name_of_methodNamed B.named B.method).1
  have hl := lv_entry [.ref o] (n := 1) (Nat.le_of_ble_eq_true rfl)
  rw [lg_entry_eq]
  generalize (lg_sl [.ref o] ++ List.replicate (1 - (lg_sl [.ref o]).length) Slot.unset).toArray = ls at hl ⊢
  have hl : lv_has ls 1 [(0, .ref o)] := hl
  exact wX2_init_0 X B.notSynchronized B.returns hin o _ _ _ _ (lv_sub hl [0] rfl) hW va_S.rf g

theorem dX2_hasRoom_0 : decode cX2_hasRoom 0 = .ok (.aload_n 0, 1) := by decide +kernel
theorem dX2_hasRoom_1 : decode cX2_hasRoom 1 = .ok (.getfield 17, 3) := by decide +kernel
theorem dX2_hasRoom_4 : decode cX2_hasRoom 4 = .ok (.iload_n 1, 1) := by decide +kernel
theorem dX2_hasRoom_5 : decode cX2_hasRoom 5 = .ok (.iadd, 1) := by decide +kernel
theorem dX2_hasRoom_6 : decode cX2_hasRoom 6 = .ok (.aload_n 0, 1) := by decide +kernel
theorem dX2_hasRoom_7 : decode cX2_hasRoom 7 = .ok (.getfield 11, 3) := by decide +kernel
theorem dX2_hasRoom_10 : decode cX2_hasRoom 10 = .ok (.arraylength, 1) := by decide +kernel
theorem dX2_hasRoom_11 : decode cX2_hasRoom 11 = .ok (.if_icmp .gt 7, 3) := by decide +kernel
theorem dX2_hasRoom_14 : decode cX2_hasRoom 14 = .ok (.iconst 1, 1) := by decide +kernel
theorem dX2_hasRoom_15 : decode cX2_hasRoom 15 = .ok (.goto 4, 3) := by decide +kernel
theorem dX2_hasRoom_18 : decode cX2_hasRoom 18 = .ok (.iconst 0, 1) := by decide +kernel
theorem dX2_hasRoom_19 : decode cX2_hasRoom 19 = .ok (.ireturn, 1) := by decide +kernel
def fX2_hasRoom (o : Nat) (v1 : Int32) (h : Hz) : Option (Int32 × Hz) := (b1 (gI 2 1 o h) fun x1 => (b1 (gA 2 0 o h) fun a2 => (b1 (xN 15 a2 h) fun x3 => (if x3 < (x1 + v1) then rz 0 h else rz 1 h))))
set_option maxHeartbeats 4000000 in
set_option maxRecDepth 100000 in
theorem wX2_hasRoom_0 {r0 : Int32} {h0 : Hz} (X : zX A D cy p s m args c cX2_hasRoom RX2 2) (hlk : meth.locks = false) (hr : meth.sig.returnType = (some .boolean)) (o : Nat) (v1 : Int32) (h : Hz) (H : Heap) (locs : List Loc) (ls : Array Slot) (hl : lv_has ls 2 [(0, .ref o), (1, .int v1)]) (hW : zW A cy D h H) (hS : va_S A s.heap H locs) (h : fX2_hasRoom o v1 h = some (r0, h0)) : W p l e ({ frames := 0, cells := 0, slots := 0, locals := 0 } : Room) s m args below meth c H locs 0 0 (MQ below (va_Qi (fun r1 u => r1 = r0 ∧ u = h0) (zB A D cy) A) args s 0 0 A) (F0 m 0 ls []) := by
  obtain ⟨hx, hb, hts, hown, hK9, hml, hN9, hA9⟩ := id X
  unfold fX2_hasRoom at h
  refine lv_aload_n hx hb dX2_hasRoom_0 rfl (lv_at hl 0 rfl) ?_
  replace h := b1_some h
  obtain ⟨x1, gx1, h⟩ := h
  refine z_getI X hW gx1 kX2 (by decide) (by decide) kf_X2_17 dX2_hasRoom_1 ?_
  refine lv_iload_n hx hb dX2_hasRoom_4 rfl (lv_at hl 1 rfl) ?_
  refine lv_iadd hx hb dX2_hasRoom_5 ?_
  refine lv_aload_n hx hb dX2_hasRoom_6 rfl (lv_at hl 0 rfl) ?_
  replace h := b1_some h
  obtain ⟨a2, ga2, h⟩ := h
  refine z_getA X hW ga2 kX2 (by decide) (by decide) kf_X2_11 dX2_hasRoom_7 ?_
  replace h := b1_some h
  obtain ⟨x3, gx3, h⟩ := h
  refine z_alenP X hW gx3 (by decide) (by decide) rfl dX2_hasRoom_10 ?_
  refine lv_icmp_gt (tgt := 18) hx hb dX2_hasRoom_11 (by decide) (fun c4 => ?_) (fun c4 => ?_)
  · replace h := it_t h c4
    refine lv_iconst (v := 0) hx hb dX2_hasRoom_18 (by decide) ?_
    exact z_etz X hlk hr hW hS h (by decide) (by decide) dX2_hasRoom_19
  · replace h := it_f h c4
    refine lv_iconst (v := 1) hx hb dX2_hasRoom_14 (by decide) ?_
    refine lv_goto (tgt := 19) hx hb dX2_hasRoom_15 (by decide) ?_
    exact z_etz X hlk hr hW hS h (by decide) (by decide) dX2_hasRoom_19

set_option maxHeartbeats 4000000 in
set_option maxRecDepth 100000 in
theorem cX2_hasRoom_met {l : Launch} {A : Nat → Prop} {D : va_G} {cy : Nat → ClassId} {r0 : Int32} {h0 : Hz} {o : Nat} {v1 : Int32} {h : Hz} (g : fX2_hasRoom o v1 h = some (r0, h0)) : Met l yX2_hasRoom (Cond.code yX2_hasRoom cX2_hasRoom 2 (some .boolean) :: wT) ({ frames := 0, cells := 0, slots := 0, locals := 0 } : Room) (va_Pc [.ref o, .int v1] (zS A D cy h)) (va_Qi (fun r1 u => r1 = r0 ∧ u = h0) (zB A D cy) A) 0 0 A := by
  refine Met.ofW (cc := cX2_hasRoom) (maxL := 2) (ret := (some .boolean)) (by decide) rfl ?_
  intro p e s m args below meth c s₁ B hml hv
  obtain ⟨rfl, hW, hK, hN, hA⟩ := hv
  have X : zX A D cy p s m _ c cX2_hasRoom RX2 2 := ⟨B.exec, B.bytes, fun w hw => atoms_spec (ws := Cond.code yX2_hasRoom cX2_hasRoom 2 (some .boolean) :: wT) B.pre w (List.mem_cons_of_mem _ hw), findClass_of_methodNamed B.named, hK, hml, hN, hA⟩
  have hl := lv_entry [.ref o, .int v1] (n := 2) (Nat.le_of_ble_eq_true rfl)
  rw [lg_entry_eq]
  generalize (lg_sl [.ref o, .int v1] ++ List.replicate (2 - (lg_sl [.ref o, .int v1]).length) Slot.unset).toArray = ls at hl ⊢
  have hl : lv_has ls 2 [(0, .ref o), (1, .int v1)] := hl
  exact wX2_hasRoom_0 X B.notSynchronized B.returns o v1 _ _ _ _ (lv_sub hl [0, 1] rfl) hW va_S.rf g

theorem dX2_file_0 : decode cX2_file 0 = .ok (.aload_n 0, 1) := by decide +kernel
theorem dX2_file_1 : decode cX2_file 1 = .ok (.getfield 17, 3) := by decide +kernel
theorem dX2_file_4 : decode cX2_file 4 = .ok (.aload_n 0, 1) := by decide +kernel
theorem dX2_file_5 : decode cX2_file 5 = .ok (.getfield 11, 3) := by decide +kernel
theorem dX2_file_8 : decode cX2_file 8 = .ok (.arraylength, 1) := by decide +kernel
theorem dX2_file_9 : decode cX2_file 9 = .ok (.if_icmp .lt 5, 3) := by decide +kernel
theorem dX2_file_12 : decode cX2_file 12 = .ok (.iconst (-1), 1) := by decide +kernel
theorem dX2_file_13 : decode cX2_file 13 = .ok (.ireturn, 1) := by decide +kernel
theorem dX2_file_14 : decode cX2_file 14 = .ok (.aload_n 0, 1) := by decide +kernel
theorem dX2_file_15 : decode cX2_file 15 = .ok (.getfield 11, 3) := by decide +kernel
theorem dX2_file_18 : decode cX2_file 18 = .ok (.aload_n 0, 1) := by decide +kernel
theorem dX2_file_19 : decode cX2_file 19 = .ok (.getfield 17, 3) := by decide +kernel
theorem dX2_file_22 : decode cX2_file 22 = .ok (.aload_n 1, 1) := by decide +kernel
theorem dX2_file_23 : decode cX2_file 23 = .ok (.aastore, 1) := by decide +kernel
theorem dX2_file_24 : decode cX2_file 24 = .ok (.aload_n 0, 1) := by decide +kernel
theorem dX2_file_25 : decode cX2_file 25 = .ok (.dup, 1) := by decide +kernel
theorem dX2_file_26 : decode cX2_file 26 = .ok (.getfield 17, 3) := by decide +kernel
theorem dX2_file_29 : decode cX2_file 29 = .ok (.iconst 1, 1) := by decide +kernel
theorem dX2_file_30 : decode cX2_file 30 = .ok (.iadd, 1) := by decide +kernel
theorem dX2_file_31 : decode cX2_file 31 = .ok (.putfield 17, 3) := by decide +kernel
theorem dX2_file_34 : decode cX2_file 34 = .ok (.aload_n 0, 1) := by decide +kernel
theorem dX2_file_35 : decode cX2_file 35 = .ok (.getfield 17, 3) := by decide +kernel
theorem dX2_file_38 : decode cX2_file 38 = .ok (.iconst 1, 1) := by decide +kernel
theorem dX2_file_39 : decode cX2_file 39 = .ok (.isub, 1) := by decide +kernel
theorem dX2_file_40 : decode cX2_file 40 = .ok (.ireturn, 1) := by decide +kernel
def fX2_file (o : Nat) (v1 : Option Nat) (h : Hz) : Option (Int32 × Hz) := (b1 (gI 2 1 o h) fun x1 => (b1 (gA 2 0 o h) fun a2 => (b1 (xN 15 a2 h) fun x3 => (if x1 < x3 then (b1 (gA 2 0 o h) fun a5 => (b1 (gI 2 1 o h) fun x6 => (b1 (yP 15 0 a5 x6 v1 h) fun s7 => (b1 (gI 2 1 o s7) fun x8 => (b1 (pI 2 1 o (x8 + 1) s7) fun s9 => (b1 (gI 2 1 o s9) fun x10 => some ((x10 - 1), s9))))))) else some ((-1), h)))))
set_option maxHeartbeats 4000000 in
set_option maxRecDepth 100000 in
theorem wX2_file_0 {r0 : Int32} {h0 : Hz} (X : zX A D cy p s m args c cX2_file RX2 2) (hlk : meth.locks = false) (hr : meth.sig.returnType = (some .int)) (o : Nat) (v1 : Option Nat) (h : Hz) (H : Heap) (locs : List Loc) (ls : Array Slot) (hl : lv_has ls 2 [(0, .ref o), (1, va_rf v1)]) (hW : zW A cy D h H) (hS : va_S A s.heap H locs) (h : fX2_file o v1 h = some (r0, h0)) : W p l e ({ frames := 0, cells := 0, slots := 0, locals := 0 } : Room) s m args below meth c H locs 0 0 (MQ below (va_Qi (fun r1 u => r1 = r0 ∧ u = h0) (zB A D cy) A) args s 0 0 A) (F0 m 0 ls []) := by
  obtain ⟨hx, hb, hts, hown, hK9, hml, hN9, hA9⟩ := id X
  unfold fX2_file at h
  refine lv_aload_n hx hb dX2_file_0 rfl (lv_at hl 0 rfl) ?_
  replace h := b1_some h
  obtain ⟨x1, gx1, h⟩ := h
  refine z_getI X hW gx1 kX2 (by decide) (by decide) kf_X2_17 dX2_file_1 ?_
  refine lv_aload_n hx hb dX2_file_4 rfl (lv_at hl 0 rfl) ?_
  replace h := b1_some h
  obtain ⟨a2, ga2, h⟩ := h
  refine z_getA X hW ga2 kX2 (by decide) (by decide) kf_X2_11 dX2_file_5 ?_
  replace h := b1_some h
  obtain ⟨x3, gx3, h⟩ := h
  refine z_alenP X hW gx3 (by decide) (by decide) rfl dX2_file_8 ?_
  refine lv_icmp_lt (tgt := 14) hx hb dX2_file_9 (by decide) (fun c4 => ?_) (fun c4 => ?_)
  · replace h := it_t h c4
    refine lv_aload_n hx hb dX2_file_14 rfl (lv_at hl 0 rfl) ?_
    replace h := b1_some h
    obtain ⟨a5, ga5, h⟩ := h
    refine z_getA X hW ga5 kX2 (by decide) (by decide) kf_X2_11 dX2_file_15 ?_
    refine lv_aload_n hx hb dX2_file_18 rfl (lv_at hl 0 rfl) ?_
    replace h := b1_some h
    obtain ⟨x6, gx6, h⟩ := h
    refine z_getI X hW gx6 kX2 (by decide) (by decide) kf_X2_17 dX2_file_19 ?_
    refine z_aload_n hx hb dX2_file_22 rfl (lv_at hl 1 rfl) ?_
    replace h := b1_some h
    obtain ⟨s7, gs7, h⟩ := h
    refine z_astP X hW hS gs7 (by decide) (by decide) kX0 rfl dX2_file_23 (fun H locs hW hS => ?_)
    refine lv_aload_n hx hb dX2_file_24 rfl (lv_at hl 0 rfl) ?_
    refine lv_dup hx hb dX2_file_25 rfl ?_
    replace h := b1_some h
    obtain ⟨x8, gx8, h⟩ := h
    refine z_getI X hW gx8 kX2 (by decide) (by decide) kf_X2_17 dX2_file_26 ?_
    refine lv_iconst (v := 1) hx hb dX2_file_29 (by decide) ?_
    refine lv_iadd hx hb dX2_file_30 ?_
    replace h := b1_some h
    obtain ⟨s9, gs9, h⟩ := h
    refine z_putI X hW hS gs9 kX2 (by decide) (by decide) rfl (Or.inl rfl) kf_X2_17 dX2_file_31 (fun H locs hW hS => ?_)
    refine lv_aload_n hx hb dX2_file_34 rfl (lv_at hl 0 rfl) ?_
    replace h := b1_some h
    obtain ⟨x10, gx10, h⟩ := h
    refine z_getI X hW gx10 kX2 (by decide) (by decide) kf_X2_17 dX2_file_35 ?_
    refine lv_iconst (v := 1) hx hb dX2_file_38 (by decide) ?_
    refine lv_isub hx hb dX2_file_39 ?_
    exact z_eti X hlk hr hW hS h (by decide) (by decide) dX2_file_40
  · replace h := it_f h c4
    refine lv_iconst (v := (-1)) hx hb dX2_file_12 (by decide) ?_
    exact z_eti X hlk hr hW hS h (by decide) (by decide) dX2_file_13

set_option maxHeartbeats 4000000 in
set_option maxRecDepth 100000 in
theorem cX2_file_met {l : Launch} {A : Nat → Prop} {D : va_G} {cy : Nat → ClassId} {r0 : Int32} {h0 : Hz} {o : Nat} {v1 : Option Nat} {h : Hz} (g : fX2_file o v1 h = some (r0, h0)) : Met l yX2_file (Cond.code yX2_file cX2_file 2 (some .int) :: wT) ({ frames := 0, cells := 0, slots := 0, locals := 0 } : Room) (va_Pc [.ref o, va_rf v1] (zS A D cy h)) (va_Qi (fun r1 u => r1 = r0 ∧ u = h0) (zB A D cy) A) 0 0 A := by
  refine Met.ofW (cc := cX2_file) (maxL := 2) (ret := (some .int)) (by decide) rfl ?_
  intro p e s m args below meth c s₁ B hml hv
  obtain ⟨rfl, hW, hK, hN, hA⟩ := hv
  have X : zX A D cy p s m _ c cX2_file RX2 2 := ⟨B.exec, B.bytes, fun w hw => atoms_spec (ws := Cond.code yX2_file cX2_file 2 (some .int) :: wT) B.pre w (List.mem_cons_of_mem _ hw), findClass_of_methodNamed B.named, hK, hml, hN, hA⟩
  cases v1 with
  | none =>
    have hl := lv_entry [.ref o, va_rf none] (n := 2) (Nat.le_of_ble_eq_true rfl)
    rw [lg_entry_eq]
    generalize (lg_sl [.ref o, va_rf none] ++ List.replicate (2 - (lg_sl [.ref o, va_rf none]).length) Slot.unset).toArray = ls at hl ⊢
    have hl : lv_has ls 2 [(0, .ref o), (1, va_rf none)] := hl
    exact wX2_file_0 X B.notSynchronized B.returns o none _ _ _ _ (lv_sub hl [0, 1] rfl) hW va_S.rf g
  | some v1 =>
    have hl := lv_entry [.ref o, va_rf (some v1)] (n := 2) (Nat.le_of_ble_eq_true rfl)
    rw [lg_entry_eq]
    generalize (lg_sl [.ref o, va_rf (some v1)] ++ List.replicate (2 - (lg_sl [.ref o, va_rf (some v1)]).length) Slot.unset).toArray = ls at hl ⊢
    have hl : lv_has ls 2 [(0, .ref o), (1, va_rf (some v1))] := hl
    exact wX2_file_0 X B.notSynchronized B.returns o (some v1) _ _ _ _ (lv_sub hl [0, 1] rfl) hW va_S.rf g

theorem dX2_fileName_0 : decode cX2_fileName 0 = .ok (.new 9, 3) := by decide +kernel
theorem dX2_fileName_3 : decode cX2_fileName 3 = .ok (.dup, 1) := by decide +kernel
theorem dX2_fileName_4 : decode cX2_fileName 4 = .ok (.iconst 0, 1) := by decide +kernel
theorem dX2_fileName_5 : decode cX2_fileName 5 = .ok (.iload_n 1, 1) := by decide +kernel
theorem dX2_fileName_6 : decode cX2_fileName 6 = .ok (.aload 4, 2) := by decide +kernel
theorem dX2_fileName_8 : decode cX2_fileName 8 = .ok (.getfield 21, 3) := by decide +kernel
theorem dX2_fileName_11 : decode cX2_fileName 11 = .ok (.aload_n 2, 1) := by decide +kernel
theorem dX2_fileName_12 : decode cX2_fileName 12 = .ok (.invokespecial 26, 3) := by decide +kernel
theorem dX2_fileName_15 : decode cX2_fileName 15 = .ok (.astore 6, 2) := by decide +kernel
theorem dX2_fileName_17 : decode cX2_fileName 17 = .ok (.aload 6, 2) := by decide +kernel
theorem dX2_fileName_19 : decode cX2_fileName 19 = .ok (.iload_n 3, 1) := by decide +kernel
theorem dX2_fileName_20 : decode cX2_fileName 20 = .ok (.putfield 29, 3) := by decide +kernel
theorem dX2_fileName_23 : decode cX2_fileName 23 = .ok (.aload 6, 2) := by decide +kernel
theorem dX2_fileName_25 : decode cX2_fileName 25 = .ok (.aload 4, 2) := by decide +kernel
theorem dX2_fileName_27 : decode cX2_fileName 27 = .ok (.putfield 32, 3) := by decide +kernel
theorem dX2_fileName_30 : decode cX2_fileName 30 = .ok (.aload 6, 2) := by decide +kernel
theorem dX2_fileName_32 : decode cX2_fileName 32 = .ok (.iload 5, 2) := by decide +kernel
theorem dX2_fileName_34 : decode cX2_fileName 34 = .ok (.putfield 36, 3) := by decide +kernel
theorem dX2_fileName_37 : decode cX2_fileName 37 = .ok (.aload_n 0, 1) := by decide +kernel
theorem dX2_fileName_38 : decode cX2_fileName 38 = .ok (.aload 6, 2) := by decide +kernel
theorem dX2_fileName_40 : decode cX2_fileName 40 = .ok (.invokevirtual 39, 3) := by decide +kernel
theorem dX2_fileName_43 : decode cX2_fileName 43 = .ok (.ireturn, 1) := by decide +kernel
def fX2_fileName (o : Nat) (v1 : Int32) (v2 : Option Nat) (v3 : Int32) (v4 : Option Nat) (v5 : Int32) (h : Hz) : Option (Int32 × Hz) := (b2 (nO 0 h) fun a1 s2 => b1 v4 fun a3 => (b1 (gI 5 2 a3 s2) fun x4 => (b2 (fX0_init a1 0 v1 x4 v2 s2) fun _ s6 => (b1 (pI 0 4 a1 v3 s6) fun s7 => (b1 (pP 0 5 a1 (some a3) s7) fun s8 => (b1 (pI 0 6 a1 v5 s8) fun s9 => (b1 (tg 2 o s9) fun _ => (b2 (fX2_file o (some a1) s9) fun x11 s12 => some (x11, s12)))))))))
set_option maxHeartbeats 4000000 in
set_option maxRecDepth 100000 in
theorem wX2_fileName_0 {r0 : Int32} {h0 : Hz} (X : zX A D cy p s m args c cX2_fileName RX2 7) (hlk : meth.locks = false) (hr : meth.sig.returnType = (some .int)) (o : Nat) (v1 : Int32) (v2 : Option Nat) (v3 : Int32) (v4 : Option Nat) (v5 : Int32) (h : Hz) (H : Heap) (locs : List Loc) (ls : Array Slot) (hl : lv_has ls 7 [(0, .ref o), (1, .int v1), (2, va_rf v2), (3, .int v3), (4, va_rf v4), (5, .int v5)]) (hW : zW A cy D h H) (hS : va_S A s.heap H locs) (h : fX2_fileName o v1 v2 v3 v4 v5 h = some (r0, h0)) : W p l e ({ frames := 2, cells := 1, slots := 10, locals := 36 } : Room) s m args below meth c H locs 0 0 (MQ below (va_Qi (fun r1 u => r1 = r0 ∧ u = h0) (zB A D cy) A) args s 1 10 A) (F0 m 0 ls []) := by
  obtain ⟨hx, hb, hts, hown, hK9, hml, hN9, hA9⟩ := id X
  unfold fX2_fileName at h
  replace h := b2_some h
  obtain ⟨a1, s2, ga1, h⟩ := h
  refine z_new X hW hS ga1 kX0 kd_X0 kc_X2_9 kn_X0 ki_12 dX2_fileName_0 (by decide) (by decide) (fun H hW hS => ?_)
  refine lv_dup hx hb dX2_fileName_3 rfl ?_
  refine lv_iconst (v := 0) hx hb dX2_fileName_4 (by decide) ?_
  refine lv_iload_n hx hb dX2_fileName_5 rfl (lv_at hl 1 rfl) ?_
  refine z_aload hx hb dX2_fileName_6 (lv_at hl 4 rfl) ?_
  replace h := b1_some h
  obtain ⟨a3, ea3, h⟩ := h
  subst ea3
  replace h := b1_some h
  obtain ⟨x4, gx4, h⟩ := h
  refine z_getI X hW gx4 kX5 (by decide) (by decide) kf_X2_21 dX2_fileName_8 ?_
  refine z_aload_n hx hb dX2_fileName_11 rfl (lv_at hl 2 rfl) ?_
  replace h := b2_some h
  obtain ⟨_ur5, s6, gs6, h⟩ := h
  refine z_callIv (rest := [.ref a1]) X hW hS (cX0_init_met gs6) kb_X0_init km_X0_init rfl kl_X2_26 rfl rfl ⟨Nat.le_of_ble_eq_true rfl, Nat.le_of_ble_eq_true rfl⟩ rfl rfl (Nat.le_of_ble_eq_true rfl) hl.1 dX2_fileName_12 ⟨(by decide), (by decide)⟩ (fun H locs hW hS => ?_)
  refine lv_astore (lv' := [(6, .ref a1), (0, .ref o), (1, .int v1), (2, va_rf v2), (3, .int v3), (4, .ref a3), (5, .int v5)]) hx hb dX2_fileName_15 hl (by decide) rfl (fun ls hl => ?_)
  refine lv_aload hx hb dX2_fileName_17 (lv_at hl 0 rfl) ?_
  refine lv_iload_n hx hb dX2_fileName_19 rfl (lv_at hl 4 rfl) ?_
  replace h := b1_some h
  obtain ⟨s7, gs7, h⟩ := h
  refine z_putI X hW hS gs7 kX0 (by decide) (by decide) rfl (Or.inl rfl) kf_X2_29 dX2_fileName_20 (fun H locs hW hS => ?_)
  refine lv_aload hx hb dX2_fileName_23 (lv_at hl 0 rfl) ?_
  refine lv_aload hx hb dX2_fileName_25 (lv_at hl 5 rfl) ?_
  replace h := b1_some h
  obtain ⟨s8, gs8, h⟩ := h
  refine z_putP X hW hS gs8 kX0 (by decide) (by decide) (Or.inl ⟨_, rfl⟩) (Or.inl rfl) kf_X2_32 dX2_fileName_27 (fun H locs hW hS => ?_)
  refine lv_aload hx hb dX2_fileName_30 (lv_at hl 0 rfl) ?_
  refine lv_iload hx hb dX2_fileName_32 (lv_at hl 6 rfl) ?_
  replace h := b1_some h
  obtain ⟨s9, gs9, h⟩ := h
  refine z_putI X hW hS gs9 kX0 (by decide) (by decide) rfl (Or.inl rfl) kf_X2_36 dX2_fileName_34 (fun H locs hW hS => ?_)
  refine lv_aload_n hx hb dX2_fileName_37 rfl (lv_at hl 1 rfl) ?_
  refine lv_aload hx hb dX2_fileName_38 (lv_at hl 0 rfl) ?_
  replace h := b1_some h
  obtain ⟨q10, gq10, h⟩ := h
  replace h := b2_some h
  obtain ⟨x11, s12, gs12, h⟩ := h
  refine z_callVi (rest := []) X hW hS (cX2_file_met gs12) kb_X2_file kv_X2_file kl_X2_39 (it_v gq10).1 kX2 rfl rfl ⟨Nat.le_of_ble_eq_true rfl, Nat.le_of_ble_eq_true rfl⟩ rfl rfl (by decide) hl.1 dX2_fileName_40 ⟨(by decide), (by decide)⟩ (fun H locs hW hS => ?_)
  exact z_eti X hlk hr hW hS h (by decide) (by decide) dX2_fileName_43

set_option maxHeartbeats 4000000 in
set_option maxRecDepth 100000 in
theorem cX2_fileName_met {l : Launch} {A : Nat → Prop} {D : va_G} {cy : Nat → ClassId} {r0 : Int32} {h0 : Hz} {o : Nat} {v1 : Int32} {v2 : Option Nat} {v3 : Int32} {v4 : Option Nat} {v5 : Int32} {h : Hz} (g : fX2_fileName o v1 v2 v3 v4 v5 h = some (r0, h0)) : Met l yX2_fileName (Cond.code yX2_fileName cX2_fileName 7 (some .int) :: wT) ({ frames := 2, cells := 1, slots := 10, locals := 36 } : Room) (va_Pc [.ref o, .int v1, va_rf v2, .int v3, va_rf v4, .int v5] (zS A D cy h)) (va_Qi (fun r1 u => r1 = r0 ∧ u = h0) (zB A D cy) A) 1 10 A := by
  refine Met.ofW (cc := cX2_fileName) (maxL := 7) (ret := (some .int)) (by decide) rfl ?_
  intro p e s m args below meth c s₁ B hml hv
  obtain ⟨rfl, hW, hK, hN, hA⟩ := hv
  have X : zX A D cy p s m _ c cX2_fileName RX2 7 := ⟨B.exec, B.bytes, fun w hw => atoms_spec (ws := Cond.code yX2_fileName cX2_fileName 7 (some .int) :: wT) B.pre w (List.mem_cons_of_mem _ hw), findClass_of_methodNamed B.named, hK, hml, hN, hA⟩
  cases v2 with
  | none =>
    cases v4 with
    | none =>
      have hl := lv_entry [.ref o, .int v1, va_rf none, .int v3, va_rf none, .int v5] (n := 7) (Nat.le_of_ble_eq_true rfl)
      rw [lg_entry_eq]
      generalize (lg_sl [.ref o, .int v1, va_rf none, .int v3, va_rf none, .int v5] ++ List.replicate (7 - (lg_sl [.ref o, .int v1, va_rf none, .int v3, va_rf none, .int v5]).length) Slot.unset).toArray = ls at hl ⊢
      have hl : lv_has ls 7 [(0, .ref o), (1, .int v1), (2, va_rf none), (3, .int v3), (4, va_rf none), (5, .int v5)] := hl
      exact wX2_fileName_0 X B.notSynchronized B.returns o v1 none v3 none v5 _ _ _ _ (lv_sub hl [0, 1, 2, 3, 4, 5] rfl) hW va_S.rf g
    | some v4 =>
      have hl := lv_entry [.ref o, .int v1, va_rf none, .int v3, va_rf (some v4), .int v5] (n := 7) (Nat.le_of_ble_eq_true rfl)
      rw [lg_entry_eq]
      generalize (lg_sl [.ref o, .int v1, va_rf none, .int v3, va_rf (some v4), .int v5] ++ List.replicate (7 - (lg_sl [.ref o, .int v1, va_rf none, .int v3, va_rf (some v4), .int v5]).length) Slot.unset).toArray = ls at hl ⊢
      have hl : lv_has ls 7 [(0, .ref o), (1, .int v1), (2, va_rf none), (3, .int v3), (4, va_rf (some v4)), (5, .int v5)] := hl
      exact wX2_fileName_0 X B.notSynchronized B.returns o v1 none v3 (some v4) v5 _ _ _ _ (lv_sub hl [0, 1, 2, 3, 4, 5] rfl) hW va_S.rf g
  | some v2 =>
    cases v4 with
    | none =>
      have hl := lv_entry [.ref o, .int v1, va_rf (some v2), .int v3, va_rf none, .int v5] (n := 7) (Nat.le_of_ble_eq_true rfl)
      rw [lg_entry_eq]
      generalize (lg_sl [.ref o, .int v1, va_rf (some v2), .int v3, va_rf none, .int v5] ++ List.replicate (7 - (lg_sl [.ref o, .int v1, va_rf (some v2), .int v3, va_rf none, .int v5]).length) Slot.unset).toArray = ls at hl ⊢
      have hl : lv_has ls 7 [(0, .ref o), (1, .int v1), (2, va_rf (some v2)), (3, .int v3), (4, va_rf none), (5, .int v5)] := hl
      exact wX2_fileName_0 X B.notSynchronized B.returns o v1 (some v2) v3 none v5 _ _ _ _ (lv_sub hl [0, 1, 2, 3, 4, 5] rfl) hW va_S.rf g
    | some v4 =>
      have hl := lv_entry [.ref o, .int v1, va_rf (some v2), .int v3, va_rf (some v4), .int v5] (n := 7) (Nat.le_of_ble_eq_true rfl)
      rw [lg_entry_eq]
      generalize (lg_sl [.ref o, .int v1, va_rf (some v2), .int v3, va_rf (some v4), .int v5] ++ List.replicate (7 - (lg_sl [.ref o, .int v1, va_rf (some v2), .int v3, va_rf (some v4), .int v5]).length) Slot.unset).toArray = ls at hl ⊢
      have hl : lv_has ls 7 [(0, .ref o), (1, .int v1), (2, va_rf (some v2)), (3, .int v3), (4, va_rf (some v4)), (5, .int v5)] := hl
      exact wX2_fileName_0 X B.notSynchronized B.returns o v1 (some v2) v3 (some v4) v5 _ _ _ _ (lv_sub hl [0, 1, 2, 3, 4, 5] rfl) hW va_S.rf g

theorem dX2_fileOfWeight_0 : decode cX2_fileOfWeight 0 = .ok (.new 9, 3) := by decide +kernel
theorem dX2_fileOfWeight_3 : decode cX2_fileOfWeight 3 = .ok (.dup, 1) := by decide +kernel
theorem dX2_fileOfWeight_4 : decode cX2_fileOfWeight 4 = .ok (.iload_n 1, 1) := by decide +kernel
theorem dX2_fileOfWeight_5 : decode cX2_fileOfWeight 5 = .ok (.iload_n 2, 1) := by decide +kernel
theorem dX2_fileOfWeight_6 : decode cX2_fileOfWeight 6 = .ok (.iload_n 3, 1) := by decide +kernel
theorem dX2_fileOfWeight_7 : decode cX2_fileOfWeight 7 = .ok (.aload 4, 2) := by decide +kernel
theorem dX2_fileOfWeight_9 : decode cX2_fileOfWeight 9 = .ok (.invokespecial 26, 3) := by decide +kernel
theorem dX2_fileOfWeight_12 : decode cX2_fileOfWeight 12 = .ok (.astore 6, 2) := by decide +kernel
theorem dX2_fileOfWeight_14 : decode cX2_fileOfWeight 14 = .ok (.aload 6, 2) := by decide +kernel
theorem dX2_fileOfWeight_16 : decode cX2_fileOfWeight 16 = .ok (.iload 5, 2) := by decide +kernel
theorem dX2_fileOfWeight_18 : decode cX2_fileOfWeight 18 = .ok (.putfield 29, 3) := by decide +kernel
theorem dX2_fileOfWeight_21 : decode cX2_fileOfWeight 21 = .ok (.aload_n 0, 1) := by decide +kernel
theorem dX2_fileOfWeight_22 : decode cX2_fileOfWeight 22 = .ok (.aload 6, 2) := by decide +kernel
theorem dX2_fileOfWeight_24 : decode cX2_fileOfWeight 24 = .ok (.invokevirtual 39, 3) := by decide +kernel
theorem dX2_fileOfWeight_27 : decode cX2_fileOfWeight 27 = .ok (.ireturn, 1) := by decide +kernel
def fX2_fileOfWeight (o : Nat) (v1 : Int32) (v2 : Int32) (v3 : Int32) (v4 : Option Nat) (v5 : Int32) (h : Hz) : Option (Int32 × Hz) := (b2 (nO 0 h) fun a1 s2 => (b2 (fX0_init a1 v1 v2 v3 v4 s2) fun _ s4 => (b1 (pI 0 4 a1 v5 s4) fun s5 => (b1 (tg 2 o s5) fun _ => (b2 (fX2_file o (some a1) s5) fun x7 s8 => some (x7, s8))))))
set_option maxHeartbeats 4000000 in
set_option maxRecDepth 100000 in
theorem wX2_fileOfWeight_0 {r0 : Int32} {h0 : Hz} (X : zX A D cy p s m args c cX2_fileOfWeight RX2 7) (hlk : meth.locks = false) (hr : meth.sig.returnType = (some .int)) (o : Nat) (v1 : Int32) (v2 : Int32) (v3 : Int32) (v4 : Option Nat) (v5 : Int32) (h : Hz) (H : Heap) (locs : List Loc) (ls : Array Slot) (hl : lv_has ls 7 [(0, .ref o), (1, .int v1), (2, .int v2), (3, .int v3), (4, va_rf v4), (5, .int v5)]) (hW : zW A cy D h H) (hS : va_S A s.heap H locs) (h : fX2_fileOfWeight o v1 v2 v3 v4 v5 h = some (r0, h0)) : W p l e ({ frames := 2, cells := 1, slots := 10, locals := 36 } : Room) s m args below meth c H locs 0 0 (MQ below (va_Qi (fun r1 u => r1 = r0 ∧ u = h0) (zB A D cy) A) args s 1 10 A) (F0 m 0 ls []) := by
  obtain ⟨hx, hb, hts, hown, hK9, hml, hN9, hA9⟩ := id X
  unfold fX2_fileOfWeight at h
  replace h := b2_some h
  obtain ⟨a1, s2, ga1, h⟩ := h
  refine z_new X hW hS ga1 kX0 kd_X0 kc_X2_9 kn_X0 ki_12 dX2_fileOfWeight_0 (by decide) (by decide) (fun H hW hS => ?_)
  refine lv_dup hx hb dX2_fileOfWeight_3 rfl ?_
  refine lv_iload_n hx hb dX2_fileOfWeight_4 rfl (lv_at hl 1 rfl) ?_
  refine lv_iload_n hx hb dX2_fileOfWeight_5 rfl (lv_at hl 2 rfl) ?_
  refine lv_iload_n hx hb dX2_fileOfWeight_6 rfl (lv_at hl 3 rfl) ?_
  refine z_aload hx hb dX2_fileOfWeight_7 (lv_at hl 4 rfl) ?_
  replace h := b2_some h
  obtain ⟨_ur3, s4, gs4, h⟩ := h
  refine z_callIv (rest := [.ref a1]) X hW hS (cX0_init_met gs4) kb_X0_init km_X0_init rfl kl_X2_26 rfl rfl ⟨Nat.le_of_ble_eq_true rfl, Nat.le_of_ble_eq_true rfl⟩ rfl rfl (Nat.le_of_ble_eq_true rfl) hl.1 dX2_fileOfWeight_9 ⟨(by decide), (by decide)⟩ (fun H locs hW hS => ?_)
  refine lv_astore (lv' := [(6, .ref a1), (0, .ref o), (1, .int v1), (2, .int v2), (3, .int v3), (4, va_rf v4), (5, .int v5)]) hx hb dX2_fileOfWeight_12 hl (by decide) rfl (fun ls hl => ?_)
  refine lv_aload hx hb dX2_fileOfWeight_14 (lv_at hl 0 rfl) ?_
  refine lv_iload hx hb dX2_fileOfWeight_16 (lv_at hl 6 rfl) ?_
  replace h := b1_some h
  obtain ⟨s5, gs5, h⟩ := h
  refine z_putI X hW hS gs5 kX0 (by decide) (by decide) rfl (Or.inl rfl) kf_X2_29 dX2_fileOfWeight_18 (fun H locs hW hS => ?_)
  refine lv_aload_n hx hb dX2_fileOfWeight_21 rfl (lv_at hl 1 rfl) ?_
  refine lv_aload hx hb dX2_fileOfWeight_22 (lv_at hl 0 rfl) ?_
  replace h := b1_some h
  obtain ⟨q6, gq6, h⟩ := h
  replace h := b2_some h
  obtain ⟨x7, s8, gs8, h⟩ := h
  refine z_callVi (rest := []) X hW hS (cX2_file_met gs8) kb_X2_file kv_X2_file kl_X2_39 (it_v gq6).1 kX2 rfl rfl ⟨Nat.le_of_ble_eq_true rfl, Nat.le_of_ble_eq_true rfl⟩ rfl rfl (by decide) hl.1 dX2_fileOfWeight_24 ⟨(by decide), (by decide)⟩ (fun H locs hW hS => ?_)
  exact z_eti X hlk hr hW hS h (by decide) (by decide) dX2_fileOfWeight_27

set_option maxHeartbeats 4000000 in
set_option maxRecDepth 100000 in
theorem cX2_fileOfWeight_met {l : Launch} {A : Nat → Prop} {D : va_G} {cy : Nat → ClassId} {r0 : Int32} {h0 : Hz} {o : Nat} {v1 : Int32} {v2 : Int32} {v3 : Int32} {v4 : Option Nat} {v5 : Int32} {h : Hz} (g : fX2_fileOfWeight o v1 v2 v3 v4 v5 h = some (r0, h0)) : Met l yX2_fileOfWeight (Cond.code yX2_fileOfWeight cX2_fileOfWeight 7 (some .int) :: wT) ({ frames := 2, cells := 1, slots := 10, locals := 36 } : Room) (va_Pc [.ref o, .int v1, .int v2, .int v3, va_rf v4, .int v5] (zS A D cy h)) (va_Qi (fun r1 u => r1 = r0 ∧ u = h0) (zB A D cy) A) 1 10 A := by
  refine Met.ofW (cc := cX2_fileOfWeight) (maxL := 7) (ret := (some .int)) (by decide) rfl ?_
  intro p e s m args below meth c s₁ B hml hv
  obtain ⟨rfl, hW, hK, hN, hA⟩ := hv
  have X : zX A D cy p s m _ c cX2_fileOfWeight RX2 7 := ⟨B.exec, B.bytes, fun w hw => atoms_spec (ws := Cond.code yX2_fileOfWeight cX2_fileOfWeight 7 (some .int) :: wT) B.pre w (List.mem_cons_of_mem _ hw), findClass_of_methodNamed B.named, hK, hml, hN, hA⟩
  cases v4 with
  | none =>
    have hl := lv_entry [.ref o, .int v1, .int v2, .int v3, va_rf none, .int v5] (n := 7) (Nat.le_of_ble_eq_true rfl)
    rw [lg_entry_eq]
    generalize (lg_sl [.ref o, .int v1, .int v2, .int v3, va_rf none, .int v5] ++ List.replicate (7 - (lg_sl [.ref o, .int v1, .int v2, .int v3, va_rf none, .int v5]).length) Slot.unset).toArray = ls at hl ⊢
    have hl : lv_has ls 7 [(0, .ref o), (1, .int v1), (2, .int v2), (3, .int v3), (4, va_rf none), (5, .int v5)] := hl
    exact wX2_fileOfWeight_0 X B.notSynchronized B.returns o v1 v2 v3 none v5 _ _ _ _ (lv_sub hl [0, 1, 2, 3, 4, 5] rfl) hW va_S.rf g
  | some v4 =>
    have hl := lv_entry [.ref o, .int v1, .int v2, .int v3, va_rf (some v4), .int v5] (n := 7) (Nat.le_of_ble_eq_true rfl)
    rw [lg_entry_eq]
    generalize (lg_sl [.ref o, .int v1, .int v2, .int v3, va_rf (some v4), .int v5] ++ List.replicate (7 - (lg_sl [.ref o, .int v1, .int v2, .int v3, va_rf (some v4), .int v5]).length) Slot.unset).toArray = ls at hl ⊢
    have hl : lv_has ls 7 [(0, .ref o), (1, .int v1), (2, .int v2), (3, .int v3), (4, va_rf (some v4)), (5, .int v5)] := hl
    exact wX2_fileOfWeight_0 X B.notSynchronized B.returns o v1 v2 v3 (some v4) v5 _ _ _ _ (lv_sub hl [0, 1, 2, 3, 4, 5] rfl) hW va_S.rf g

theorem dX2_fileOfWalk_0 : decode cX2_fileOfWalk 0 = .ok (.iload_n 1, 1) := by decide +kernel
theorem dX2_fileOfWalk_1 : decode cX2_fileOfWalk 1 = .ok (.iconst 4, 1) := by decide +kernel
theorem dX2_fileOfWalk_2 : decode cX2_fileOfWalk 2 = .ok (.if_icmp .ne 11, 3) := by decide +kernel
theorem dX2_fileOfWalk_5 : decode cX2_fileOfWalk 5 = .ok (.aload 4, 2) := by decide +kernel
theorem dX2_fileOfWalk_7 : decode cX2_fileOfWalk 7 = .ok (.getfield 21, 3) := by decide +kernel
theorem dX2_fileOfWalk_10 : decode cX2_fileOfWalk 10 = .ok (.goto 10, 3) := by decide +kernel
theorem dX2_fileOfWalk_13 : decode cX2_fileOfWalk 13 = .ok (.aload_n 2, 1) := by decide +kernel
theorem dX2_fileOfWalk_14 : decode cX2_fileOfWalk 14 = .ok (.getfield 43, 3) := by decide +kernel
theorem dX2_fileOfWalk_17 : decode cX2_fileOfWalk 17 = .ok (.getfield 21, 3) := by decide +kernel
theorem dX2_fileOfWalk_20 : decode cX2_fileOfWalk 20 = .ok (.istore 6, 2) := by decide +kernel
theorem dX2_fileOfWalk_22 : decode cX2_fileOfWalk 22 = .ok (.new 9, 3) := by decide +kernel
theorem dX2_fileOfWalk_25 : decode cX2_fileOfWalk 25 = .ok (.dup, 1) := by decide +kernel
theorem dX2_fileOfWalk_26 : decode cX2_fileOfWalk 26 = .ok (.iload_n 1, 1) := by decide +kernel
theorem dX2_fileOfWalk_27 : decode cX2_fileOfWalk 27 = .ok (.iload_n 3, 1) := by decide +kernel
theorem dX2_fileOfWalk_28 : decode cX2_fileOfWalk 28 = .ok (.iload 6, 2) := by decide +kernel
theorem dX2_fileOfWalk_30 : decode cX2_fileOfWalk 30 = .ok (.aload 4, 2) := by decide +kernel
theorem dX2_fileOfWalk_32 : decode cX2_fileOfWalk 32 = .ok (.invokespecial 26, 3) := by decide +kernel
theorem dX2_fileOfWalk_35 : decode cX2_fileOfWalk 35 = .ok (.astore 7, 2) := by decide +kernel
theorem dX2_fileOfWalk_37 : decode cX2_fileOfWalk 37 = .ok (.aload 7, 2) := by decide +kernel
theorem dX2_fileOfWalk_39 : decode cX2_fileOfWalk 39 = .ok (.aload_n 2, 1) := by decide +kernel
theorem dX2_fileOfWalk_40 : decode cX2_fileOfWalk 40 = .ok (.putfield 48, 3) := by decide +kernel
theorem dX2_fileOfWalk_43 : decode cX2_fileOfWalk 43 = .ok (.aload 7, 2) := by decide +kernel
theorem dX2_fileOfWalk_45 : decode cX2_fileOfWalk 45 = .ok (.iload 5, 2) := by decide +kernel
theorem dX2_fileOfWalk_47 : decode cX2_fileOfWalk 47 = .ok (.putfield 52, 3) := by decide +kernel
theorem dX2_fileOfWalk_50 : decode cX2_fileOfWalk 50 = .ok (.aload_n 0, 1) := by decide +kernel
theorem dX2_fileOfWalk_51 : decode cX2_fileOfWalk 51 = .ok (.aload 7, 2) := by decide +kernel
theorem dX2_fileOfWalk_53 : decode cX2_fileOfWalk 53 = .ok (.invokevirtual 39, 3) := by decide +kernel
theorem dX2_fileOfWalk_56 : decode cX2_fileOfWalk 56 = .ok (.ireturn, 1) := by decide +kernel
def fX2_fileOfWalk_20 (o : Nat) (v1 : Int32) (v2 : Option Nat) (v3 : Int32) (v4 : Option Nat) (v5 : Int32) (w0 : Int32) (h : Hz) : Option (Int32 × Hz) := (b2 (nO 0 h) fun a1 s2 => (b2 (fX0_init a1 v1 v3 w0 v4 s2) fun _ s4 => (b1 (pP 0 7 a1 v2 s4) fun s5 => (b1 (pI 0 8 a1 v5 s5) fun s6 => (b1 (tg 2 o s6) fun _ => (b2 (fX2_file o (some a1) s6) fun x8 s9 => some (x8, s9)))))))
set_option maxHeartbeats 4000000 in
set_option maxRecDepth 100000 in
theorem wX2_fileOfWalk_20 {r0 : Int32} {h0 : Hz} (X : zX A D cy p s m args c cX2_fileOfWalk RX2 8) (hlk : meth.locks = false) (hr : meth.sig.returnType = (some .int)) (o : Nat) (v1 : Int32) (v2 : Option Nat) (v3 : Int32) (v4 : Option Nat) (v5 : Int32) (w0 : Int32) (h : Hz) (H : Heap) (locs : List Loc) (ls : Array Slot) (hl : lv_has ls 8 [(0, .ref o), (1, .int v1), (2, va_rf v2), (3, .int v3), (4, va_rf v4), (5, .int v5)]) (hW : zW A cy D h H) (hS : va_S A s.heap H locs) (h : fX2_fileOfWalk_20 o v1 v2 v3 v4 v5 w0 h = some (r0, h0)) : W p l e ({ frames := 2, cells := 1, slots := 10, locals := 36 } : Room) s m args below meth c H locs 0 0 (MQ below (va_Qi (fun r1 u => r1 = r0 ∧ u = h0) (zB A D cy) A) args s 1 10 A) (F0 m 20 ls [.int w0]) := by
  obtain ⟨hx, hb, hts, hown, hK9, hml, hN9, hA9⟩ := id X
  unfold fX2_fileOfWalk_20 at h
  refine lv_istore (lv' := [(6, .int w0), (0, .ref o), (1, .int v1), (2, va_rf v2), (3, .int v3), (4, va_rf v4), (5, .int v5)]) hx hb dX2_fileOfWalk_20 hl (by decide) rfl (fun ls hl => ?_)
  replace h := b2_some h
  obtain ⟨a1, s2, ga1, h⟩ := h
  refine z_new X hW hS ga1 kX0 kd_X0 kc_X2_9 kn_X0 ki_12 dX2_fileOfWalk_22 (by decide) (by decide) (fun H hW hS => ?_)
  refine lv_dup hx hb dX2_fileOfWalk_25 rfl ?_
  refine lv_iload_n hx hb dX2_fileOfWalk_26 rfl (lv_at hl 2 rfl) ?_
  refine lv_iload_n hx hb dX2_fileOfWalk_27 rfl (lv_at hl 4 rfl) ?_
  refine lv_iload hx hb dX2_fileOfWalk_28 (lv_at hl 0 rfl) ?_
  refine z_aload hx hb dX2_fileOfWalk_30 (lv_at hl 5 rfl) ?_
  replace h := b2_some h
  obtain ⟨_ur3, s4, gs4, h⟩ := h
  refine z_callIv (rest := [.ref a1]) X hW hS (cX0_init_met gs4) kb_X0_init km_X0_init rfl kl_X2_26 rfl rfl ⟨Nat.le_of_ble_eq_true rfl, Nat.le_of_ble_eq_true rfl⟩ rfl rfl (Nat.le_of_ble_eq_true rfl) hl.1 dX2_fileOfWalk_32 ⟨(by decide), (by decide)⟩ (fun H locs hW hS => ?_)
  refine lv_astore (lv' := [(7, .ref a1), (6, .int w0), (0, .ref o), (1, .int v1), (2, va_rf v2), (3, .int v3), (4, va_rf v4), (5, .int v5)]) hx hb dX2_fileOfWalk_35 hl (by decide) rfl (fun ls hl => ?_)
  refine lv_aload hx hb dX2_fileOfWalk_37 (lv_at hl 0 rfl) ?_
  refine z_aload_n hx hb dX2_fileOfWalk_39 rfl (lv_at hl 4 rfl) ?_
  replace h := b1_some h
  obtain ⟨s5, gs5, h⟩ := h
  refine z_putP X hW hS gs5 kX0 (by decide) (by decide) (Or.inl ⟨_, rfl⟩) (Or.inl rfl) kf_X2_48 dX2_fileOfWalk_40 (fun H locs hW hS => ?_)
  refine lv_aload hx hb dX2_fileOfWalk_43 (lv_at hl 0 rfl) ?_
  refine lv_iload hx hb dX2_fileOfWalk_45 (lv_at hl 7 rfl) ?_
  replace h := b1_some h
  obtain ⟨s6, gs6, h⟩ := h
  refine z_putI X hW hS gs6 kX0 (by decide) (by decide) rfl (Or.inl rfl) kf_X2_52 dX2_fileOfWalk_47 (fun H locs hW hS => ?_)
  refine lv_aload_n hx hb dX2_fileOfWalk_50 rfl (lv_at hl 2 rfl) ?_
  refine lv_aload hx hb dX2_fileOfWalk_51 (lv_at hl 0 rfl) ?_
  replace h := b1_some h
  obtain ⟨q7, gq7, h⟩ := h
  replace h := b2_some h
  obtain ⟨x8, s9, gs9, h⟩ := h
  refine z_callVi (rest := []) X hW hS (cX2_file_met gs9) kb_X2_file kv_X2_file kl_X2_39 (it_v gq7).1 kX2 rfl rfl ⟨Nat.le_of_ble_eq_true rfl, Nat.le_of_ble_eq_true rfl⟩ rfl rfl (by decide) hl.1 dX2_fileOfWalk_53 ⟨(by decide), (by decide)⟩ (fun H locs hW hS => ?_)
  exact z_eti X hlk hr hW hS h (by decide) (by decide) dX2_fileOfWalk_56

def fX2_fileOfWalk (o : Nat) (v1 : Int32) (v2 : Option Nat) (v3 : Int32) (v4 : Option Nat) (v5 : Int32) (h : Hz) : Option (Int32 × Hz) := (if v1 = 4 then b1 v4 fun a5 => (b1 (gI 5 2 a5 h) fun x6 => fX2_fileOfWalk_20 o v1 v2 v3 (some a5) v5 x6 h) else b1 v2 fun a2 => (b1 (gA 9 1 a2 h) fun a3 => (b1 (gI 5 2 a3 h) fun x4 => fX2_fileOfWalk_20 o v1 (some a2) v3 v4 v5 x4 h)))
set_option maxHeartbeats 4000000 in
set_option maxRecDepth 100000 in
theorem wX2_fileOfWalk_0 {r0 : Int32} {h0 : Hz} (X : zX A D cy p s m args c cX2_fileOfWalk RX2 8) (hlk : meth.locks = false) (hr : meth.sig.returnType = (some .int)) (o : Nat) (v1 : Int32) (v2 : Option Nat) (v3 : Int32) (v4 : Option Nat) (v5 : Int32) (h : Hz) (H : Heap) (locs : List Loc) (ls : Array Slot) (hl : lv_has ls 8 [(0, .ref o), (1, .int v1), (2, va_rf v2), (3, .int v3), (4, va_rf v4), (5, .int v5)]) (hW : zW A cy D h H) (hS : va_S A s.heap H locs) (h : fX2_fileOfWalk o v1 v2 v3 v4 v5 h = some (r0, h0)) : W p l e ({ frames := 2, cells := 1, slots := 10, locals := 36 } : Room) s m args below meth c H locs 0 0 (MQ below (va_Qi (fun r1 u => r1 = r0 ∧ u = h0) (zB A D cy) A) args s 1 10 A) (F0 m 0 ls []) := by
  obtain ⟨hx, hb, hts, hown, hK9, hml, hN9, hA9⟩ := id X
  unfold fX2_fileOfWalk at h
  refine lv_iload_n hx hb dX2_fileOfWalk_0 rfl (lv_at hl 1 rfl) ?_
  refine lv_iconst (v := 4) hx hb dX2_fileOfWalk_1 (by decide) ?_
  refine lv_icmp_ne (tgt := 13) hx hb dX2_fileOfWalk_2 (by decide) (fun c1 => ?_) (fun c1 => ?_)
  · replace h := it_f h c1
    refine z_aload_n hx hb dX2_fileOfWalk_13 rfl (lv_at hl 2 rfl) ?_
    replace h := b1_some h
    obtain ⟨a2, ea2, h⟩ := h
    subst ea2
    replace h := b1_some h
    obtain ⟨a3, ga3, h⟩ := h
    refine z_getA X hW ga3 kX9 (by decide) (by decide) kf_X2_43 dX2_fileOfWalk_14 ?_
    replace h := b1_some h
    obtain ⟨x4, gx4, h⟩ := h
    refine z_getI X hW gx4 kX5 (by decide) (by decide) kf_X2_21 dX2_fileOfWalk_17 ?_
    exact wX2_fileOfWalk_20 X hlk hr o v1 (some a2) v3 v4 v5 x4 _ _ _ _ (lv_sub hl [0, 1, 2, 3, 4, 5] rfl) hW hS h
  · replace h := it_t h c1
    refine z_aload hx hb dX2_fileOfWalk_5 (lv_at hl 4 rfl) ?_
    replace h := b1_some h
    obtain ⟨a5, ea5, h⟩ := h
    subst ea5
    replace h := b1_some h
    obtain ⟨x6, gx6, h⟩ := h
    refine z_getI X hW gx6 kX5 (by decide) (by decide) kf_X2_21 dX2_fileOfWalk_7 ?_
    refine lv_goto (tgt := 20) hx hb dX2_fileOfWalk_10 (by decide) ?_
    exact wX2_fileOfWalk_20 X hlk hr o v1 v2 v3 (some a5) v5 x6 _ _ _ _ (lv_sub hl [0, 1, 2, 3, 4, 5] rfl) hW hS h

set_option maxHeartbeats 4000000 in
set_option maxRecDepth 100000 in
theorem cX2_fileOfWalk_met {l : Launch} {A : Nat → Prop} {D : va_G} {cy : Nat → ClassId} {r0 : Int32} {h0 : Hz} {o : Nat} {v1 : Int32} {v2 : Option Nat} {v3 : Int32} {v4 : Option Nat} {v5 : Int32} {h : Hz} (g : fX2_fileOfWalk o v1 v2 v3 v4 v5 h = some (r0, h0)) : Met l yX2_fileOfWalk (Cond.code yX2_fileOfWalk cX2_fileOfWalk 8 (some .int) :: wT) ({ frames := 2, cells := 1, slots := 10, locals := 36 } : Room) (va_Pc [.ref o, .int v1, va_rf v2, .int v3, va_rf v4, .int v5] (zS A D cy h)) (va_Qi (fun r1 u => r1 = r0 ∧ u = h0) (zB A D cy) A) 1 10 A := by
  refine Met.ofW (cc := cX2_fileOfWalk) (maxL := 8) (ret := (some .int)) (by decide) rfl ?_
  intro p e s m args below meth c s₁ B hml hv
  obtain ⟨rfl, hW, hK, hN, hA⟩ := hv
  have X : zX A D cy p s m _ c cX2_fileOfWalk RX2 8 := ⟨B.exec, B.bytes, fun w hw => atoms_spec (ws := Cond.code yX2_fileOfWalk cX2_fileOfWalk 8 (some .int) :: wT) B.pre w (List.mem_cons_of_mem _ hw), findClass_of_methodNamed B.named, hK, hml, hN, hA⟩
  cases v2 with
  | none =>
    cases v4 with
    | none =>
      have hl := lv_entry [.ref o, .int v1, va_rf none, .int v3, va_rf none, .int v5] (n := 8) (Nat.le_of_ble_eq_true rfl)
      rw [lg_entry_eq]
      generalize (lg_sl [.ref o, .int v1, va_rf none, .int v3, va_rf none, .int v5] ++ List.replicate (8 - (lg_sl [.ref o, .int v1, va_rf none, .int v3, va_rf none, .int v5]).length) Slot.unset).toArray = ls at hl ⊢
      have hl : lv_has ls 8 [(0, .ref o), (1, .int v1), (2, va_rf none), (3, .int v3), (4, va_rf none), (5, .int v5)] := hl
      exact wX2_fileOfWalk_0 X B.notSynchronized B.returns o v1 none v3 none v5 _ _ _ _ (lv_sub hl [0, 1, 2, 3, 4, 5] rfl) hW va_S.rf g
    | some v4 =>
      have hl := lv_entry [.ref o, .int v1, va_rf none, .int v3, va_rf (some v4), .int v5] (n := 8) (Nat.le_of_ble_eq_true rfl)
      rw [lg_entry_eq]
      generalize (lg_sl [.ref o, .int v1, va_rf none, .int v3, va_rf (some v4), .int v5] ++ List.replicate (8 - (lg_sl [.ref o, .int v1, va_rf none, .int v3, va_rf (some v4), .int v5]).length) Slot.unset).toArray = ls at hl ⊢
      have hl : lv_has ls 8 [(0, .ref o), (1, .int v1), (2, va_rf none), (3, .int v3), (4, va_rf (some v4)), (5, .int v5)] := hl
      exact wX2_fileOfWalk_0 X B.notSynchronized B.returns o v1 none v3 (some v4) v5 _ _ _ _ (lv_sub hl [0, 1, 2, 3, 4, 5] rfl) hW va_S.rf g
  | some v2 =>
    cases v4 with
    | none =>
      have hl := lv_entry [.ref o, .int v1, va_rf (some v2), .int v3, va_rf none, .int v5] (n := 8) (Nat.le_of_ble_eq_true rfl)
      rw [lg_entry_eq]
      generalize (lg_sl [.ref o, .int v1, va_rf (some v2), .int v3, va_rf none, .int v5] ++ List.replicate (8 - (lg_sl [.ref o, .int v1, va_rf (some v2), .int v3, va_rf none, .int v5]).length) Slot.unset).toArray = ls at hl ⊢
      have hl : lv_has ls 8 [(0, .ref o), (1, .int v1), (2, va_rf (some v2)), (3, .int v3), (4, va_rf none), (5, .int v5)] := hl
      exact wX2_fileOfWalk_0 X B.notSynchronized B.returns o v1 (some v2) v3 none v5 _ _ _ _ (lv_sub hl [0, 1, 2, 3, 4, 5] rfl) hW va_S.rf g
    | some v4 =>
      have hl := lv_entry [.ref o, .int v1, va_rf (some v2), .int v3, va_rf (some v4), .int v5] (n := 8) (Nat.le_of_ble_eq_true rfl)
      rw [lg_entry_eq]
      generalize (lg_sl [.ref o, .int v1, va_rf (some v2), .int v3, va_rf (some v4), .int v5] ++ List.replicate (8 - (lg_sl [.ref o, .int v1, va_rf (some v2), .int v3, va_rf (some v4), .int v5]).length) Slot.unset).toArray = ls at hl ⊢
      have hl : lv_has ls 8 [(0, .ref o), (1, .int v1), (2, va_rf (some v2)), (3, .int v3), (4, va_rf (some v4)), (5, .int v5)] := hl
      exact wX2_fileOfWalk_0 X B.notSynchronized B.returns o v1 (some v2) v3 (some v4) v5 _ _ _ _ (lv_sub hl [0, 1, 2, 3, 4, 5] rfl) hW va_S.rf g

theorem dX2_sizeUnderWay_0 : decode cX2_sizeUnderWay 0 = .ok (.iconst 0, 1) := by decide +kernel
theorem dX2_sizeUnderWay_1 : decode cX2_sizeUnderWay 1 = .ok (.istore_n 1, 1) := by decide +kernel
theorem dX2_sizeUnderWay_2 : decode cX2_sizeUnderWay 2 = .ok (.iconst 0, 1) := by decide +kernel
theorem dX2_sizeUnderWay_3 : decode cX2_sizeUnderWay 3 = .ok (.istore_n 2, 1) := by decide +kernel
theorem dX2_sizeUnderWay_4 : decode cX2_sizeUnderWay 4 = .ok (.iload_n 2, 1) := by decide +kernel
theorem dX2_sizeUnderWay_5 : decode cX2_sizeUnderWay 5 = .ok (.aload_n 0, 1) := by decide +kernel
theorem dX2_sizeUnderWay_6 : decode cX2_sizeUnderWay 6 = .ok (.getfield 17, 3) := by decide +kernel
theorem dX2_sizeUnderWay_9 : decode cX2_sizeUnderWay 9 = .ok (.if_icmp .ge 29, 3) := by decide +kernel
theorem dX2_sizeUnderWay_12 : decode cX2_sizeUnderWay 12 = .ok (.aload_n 0, 1) := by decide +kernel
theorem dX2_sizeUnderWay_13 : decode cX2_sizeUnderWay 13 = .ok (.iload_n 2, 1) := by decide +kernel
theorem dX2_sizeUnderWay_14 : decode cX2_sizeUnderWay 14 = .ok (.invokevirtual 55, 3) := by decide +kernel
theorem dX2_sizeUnderWay_17 : decode cX2_sizeUnderWay 17 = .ok (.astore_n 3, 1) := by decide +kernel
theorem dX2_sizeUnderWay_18 : decode cX2_sizeUnderWay 18 = .ok (.aload_n 3, 1) := by decide +kernel
theorem dX2_sizeUnderWay_19 : decode cX2_sizeUnderWay 19 = .ok (.ifnull 13, 3) := by decide +kernel
theorem dX2_sizeUnderWay_22 : decode cX2_sizeUnderWay 22 = .ok (.aload_n 3, 1) := by decide +kernel
theorem dX2_sizeUnderWay_23 : decode cX2_sizeUnderWay 23 = .ok (.getfield 59, 3) := by decide +kernel
theorem dX2_sizeUnderWay_26 : decode cX2_sizeUnderWay 26 = .ok (.ifCond .eq 6, 3) := by decide +kernel
theorem dX2_sizeUnderWay_29 : decode cX2_sizeUnderWay 29 = .ok (.iinc 1 1, 3) := by decide +kernel
theorem dX2_sizeUnderWay_32 : decode cX2_sizeUnderWay 32 = .ok (.iinc 2 1, 3) := by decide +kernel
theorem dX2_sizeUnderWay_35 : decode cX2_sizeUnderWay 35 = .ok (.goto (-31), 3) := by decide +kernel
theorem dX2_sizeUnderWay_38 : decode cX2_sizeUnderWay 38 = .ok (.iload_n 1, 1) := by decide +kernel
theorem dX2_sizeUnderWay_39 : decode cX2_sizeUnderWay 39 = .ok (.ireturn, 1) := by decide +kernel
def fX2_sizeUnderWay_4 : Nat → Nat → Int32 → Int32 → Hz → Option (Int32 × Hz)
  | 0, _, _, _, _ => none
  | n + 1, o, v1, v2, h => (b1 (gI 2 1 o h) fun x1 => (if x1 ≤ v2 then some (v1, h) else (b1 (tg 2 o h) fun _ => (b2 (fX2_find o v2 h) fun r4 s5 => (oe r4 (fX2_sizeUnderWay_4 n o v1 (v2 + 1) s5) fun a6 => (b1 (gI 0 9 a6 s5) fun x7 => (if x7 = 0 then fX2_sizeUnderWay_4 n o v1 (v2 + 1) s5 else fX2_sizeUnderWay_4 n o (v1 + 1) (v2 + 1) s5)))))))
set_option maxHeartbeats 4000000 in
set_option maxRecDepth 100000 in
theorem wX2_sizeUnderWay_4 {r0 : Int32} {h0 : Hz} (X : zX A D cy p s m args c cX2_sizeUnderWay RX2 4) (hlk : meth.locks = false) (hr : meth.sig.returnType = (some .int)) : ∀ (n : Nat) (o : Nat) (v1 : Int32) (v2 : Int32) (h : Hz) (H : Heap) (locs : List Loc) (ls : Array Slot) (hl : lv_has ls 4 [(0, .ref o), (1, .int v1), (2, .int v2)]) (hW : zW A cy D h H) (hS : va_S A s.heap H locs) (h : fX2_sizeUnderWay_4 n o v1 v2 h = some (r0, h0)), W p l e ({ frames := 1, cells := 0, slots := 0, locals := 21 } : Room) s m args below meth c H locs 0 0 (MQ below (va_Qi (fun r1 u => r1 = r0 ∧ u = h0) (zB A D cy) A) args s 0 0 A) (F0 m 4 ls []) := by
  obtain ⟨hx, hb, hts, hown, hK9, hml, hN9, hA9⟩ := id X
  intro n
  induction n with
  | zero =>
    intro o v1 v2 h H locs ls hl hW hS h
    rw [fX2_sizeUnderWay_4] at h
    cases h
  | succ n ih =>
    intro o v1 v2 h H locs ls hl hW hS h
    rw [fX2_sizeUnderWay_4] at h
    refine lv_iload_n hx hb dX2_sizeUnderWay_4 rfl (lv_at hl 2 rfl) ?_
    refine lv_aload_n hx hb dX2_sizeUnderWay_5 rfl (lv_at hl 0 rfl) ?_
    replace h := b1_some h
    obtain ⟨x1, gx1, h⟩ := h
    refine z_getI X hW gx1 kX2 (by decide) (by decide) kf_X2_17 dX2_sizeUnderWay_6 ?_
    refine lv_icmp_ge (tgt := 38) hx hb dX2_sizeUnderWay_9 (by decide) (fun c2 => ?_) (fun c2 => ?_)
    · replace h := it_t h c2
      refine lv_iload_n hx hb dX2_sizeUnderWay_38 rfl (lv_at hl 1 rfl) ?_
      exact z_eti X hlk hr hW hS h (by decide) (by decide) dX2_sizeUnderWay_39
    · replace h := it_f h c2
      refine lv_aload_n hx hb dX2_sizeUnderWay_12 rfl (lv_at hl 0 rfl) ?_
      refine lv_iload_n hx hb dX2_sizeUnderWay_13 rfl (lv_at hl 2 rfl) ?_
      replace h := b1_some h
      obtain ⟨q3, gq3, h⟩ := h
      replace h := b2_some h
      obtain ⟨r4, s5, gs5, h⟩ := h
      refine z_callVq (rest := []) X hW hS (cX2_find_met gs5) kb_X2_find kv_X2_find kl_X2_55 (it_v gq3).1 kX2 rfl rfl ⟨Nat.le_of_ble_eq_true rfl, Nat.le_of_ble_eq_true rfl⟩ rfl rfl (by decide) hl.1 dX2_sizeUnderWay_14 ⟨(by decide), (by decide)⟩ (fun H locs hW hS => ?_)
      refine z_astore_n (lv' := [(3, va_rf r4), (0, .ref o), (1, .int v1), (2, .int v2)]) hx hb dX2_sizeUnderWay_17 rfl hl (by decide) rfl (fun ls hl => ?_)
      refine z_aload_n hx hb dX2_sizeUnderWay_18 rfl (lv_at hl 0 rfl) ?_
      cases r4 with
      | none =>
        replace h := oe_n h
        have hl : lv_has ls 4 [(3, .null), (0, .ref o), (1, .int v1), (2, .int v2)] := hl
        refine lv_ifnullN (tgt := 32) hx hb dX2_sizeUnderWay_19 (by decide) ?_
        refine lv_iinc (v := (v2 + 1)) (lv' := [(2, .int (v2 + 1)), (3, .null), (0, .ref o), (1, .int v1)]) hx hb dX2_sizeUnderWay_32 hl (k := 3) rfl rfl (by decide) rfl (fun ls hl => ?_)
        refine lv_goto (tgt := 4) hx hb dX2_sizeUnderWay_35 (by decide) ?_
        exact ih o v1 (v2 + 1) _ _ _ _ (lv_sub hl [2, 3, 0] rfl) hW hS h
      | some a6 =>
        replace h := oe_s h
        have hl : lv_has ls 4 [(3, .ref a6), (0, .ref o), (1, .int v1), (2, .int v2)] := hl
        refine lv_ifnull hx hb dX2_sizeUnderWay_19 ?_
        refine lv_aload_n hx hb dX2_sizeUnderWay_22 rfl (lv_at hl 0 rfl) ?_
        replace h := b1_some h
        obtain ⟨x7, gx7, h⟩ := h
        refine z_getI X hW gx7 kX0 (by decide) (by decide) kf_X2_59 dX2_sizeUnderWay_23 ?_
        refine lv_if_eq (tgt := 32) hx hb dX2_sizeUnderWay_26 (by decide) (fun c8 => ?_) (fun c8 => ?_)
        · replace h := it_t h c8
          refine lv_iinc (v := (v2 + 1)) (lv' := [(2, .int (v2 + 1)), (3, .ref a6), (0, .ref o), (1, .int v1)]) hx hb dX2_sizeUnderWay_32 hl (k := 3) rfl rfl (by decide) rfl (fun ls hl => ?_)
          refine lv_goto (tgt := 4) hx hb dX2_sizeUnderWay_35 (by decide) ?_
          exact ih o v1 (v2 + 1) _ _ _ _ (lv_sub hl [2, 3, 0] rfl) hW hS h
        · replace h := it_f h c8
          refine lv_iinc (v := (v1 + 1)) (lv' := [(1, .int (v1 + 1)), (3, .ref a6), (0, .ref o), (2, .int v2)]) hx hb dX2_sizeUnderWay_29 hl (k := 2) rfl rfl (by decide) rfl (fun ls hl => ?_)
          refine lv_iinc (v := (v2 + 1)) (lv' := [(2, .int (v2 + 1)), (1, .int (v1 + 1)), (3, .ref a6), (0, .ref o)]) hx hb dX2_sizeUnderWay_32 hl (k := 3) rfl rfl (by decide) rfl (fun ls hl => ?_)
          refine lv_goto (tgt := 4) hx hb dX2_sizeUnderWay_35 (by decide) ?_
          exact ih o (v1 + 1) (v2 + 1) _ _ _ _ (lv_sub hl [3, 1, 0] rfl) hW hS h

def fX2_sizeUnderWay (o : Nat) (h : Hz) : Option (Int32 × Hz) := fX2_sizeUnderWay_4 100000 o 0 0 h
set_option maxHeartbeats 4000000 in
set_option maxRecDepth 100000 in
theorem wX2_sizeUnderWay_0 {r0 : Int32} {h0 : Hz} (X : zX A D cy p s m args c cX2_sizeUnderWay RX2 4) (hlk : meth.locks = false) (hr : meth.sig.returnType = (some .int)) (o : Nat) (h : Hz) (H : Heap) (locs : List Loc) (ls : Array Slot) (hl : lv_has ls 4 [(0, .ref o)]) (hW : zW A cy D h H) (hS : va_S A s.heap H locs) (h : fX2_sizeUnderWay o h = some (r0, h0)) : W p l e ({ frames := 1, cells := 0, slots := 0, locals := 21 } : Room) s m args below meth c H locs 0 0 (MQ below (va_Qi (fun r1 u => r1 = r0 ∧ u = h0) (zB A D cy) A) args s 0 0 A) (F0 m 0 ls []) := by
  obtain ⟨hx, hb, hts, hown, hK9, hml, hN9, hA9⟩ := id X
  unfold fX2_sizeUnderWay at h
  refine lv_iconst (v := 0) hx hb dX2_sizeUnderWay_0 (by decide) ?_
  refine lv_istore_n (lv' := [(1, .int 0), (0, .ref o)]) hx hb dX2_sizeUnderWay_1 rfl hl (by decide) rfl (fun ls hl => ?_)
  refine lv_iconst (v := 0) hx hb dX2_sizeUnderWay_2 (by decide) ?_
  refine lv_istore_n (lv' := [(2, .int 0), (1, .int 0), (0, .ref o)]) hx hb dX2_sizeUnderWay_3 rfl hl (by decide) rfl (fun ls hl => ?_)
  exact wX2_sizeUnderWay_4 X hlk hr _ o 0 0 _ _ _ _ (lv_sub hl [2, 1, 0] rfl) hW hS h

set_option maxHeartbeats 4000000 in
set_option maxRecDepth 100000 in
theorem cX2_sizeUnderWay_met {l : Launch} {A : Nat → Prop} {D : va_G} {cy : Nat → ClassId} {r0 : Int32} {h0 : Hz} {o : Nat} {h : Hz} (g : fX2_sizeUnderWay o h = some (r0, h0)) : Met l yX2_sizeUnderWay (Cond.code yX2_sizeUnderWay cX2_sizeUnderWay 4 (some .int) :: wT) ({ frames := 1, cells := 0, slots := 0, locals := 21 } : Room) (va_Pc [.ref o] (zS A D cy h)) (va_Qi (fun r1 u => r1 = r0 ∧ u = h0) (zB A D cy) A) 0 0 A := by
  refine Met.ofW (cc := cX2_sizeUnderWay) (maxL := 4) (ret := (some .int)) (by decide) rfl ?_
  intro p e s m args below meth c s₁ B hml hv
  obtain ⟨rfl, hW, hK, hN, hA⟩ := hv
  have X : zX A D cy p s m _ c cX2_sizeUnderWay RX2 4 := ⟨B.exec, B.bytes, fun w hw => atoms_spec (ws := Cond.code yX2_sizeUnderWay cX2_sizeUnderWay 4 (some .int) :: wT) B.pre w (List.mem_cons_of_mem _ hw), findClass_of_methodNamed B.named, hK, hml, hN, hA⟩
  have hl := lv_entry [.ref o] (n := 4) (Nat.le_of_ble_eq_true rfl)
  rw [lg_entry_eq]
  generalize (lg_sl [.ref o] ++ List.replicate (4 - (lg_sl [.ref o]).length) Slot.unset).toArray = ls at hl ⊢
  have hl : lv_has ls 4 [(0, .ref o)] := hl
  exact wX2_sizeUnderWay_0 X B.notSynchronized B.returns o _ _ _ _ (lv_sub hl [0] rfl) hW va_S.rf g

theorem dX2_weightUnderWay_0 : decode cX2_weightUnderWay 0 = .ok (.iconst 0, 1) := by decide +kernel
theorem dX2_weightUnderWay_1 : decode cX2_weightUnderWay 1 = .ok (.istore_n 2, 1) := by decide +kernel
theorem dX2_weightUnderWay_2 : decode cX2_weightUnderWay 2 = .ok (.iconst 0, 1) := by decide +kernel
theorem dX2_weightUnderWay_3 : decode cX2_weightUnderWay 3 = .ok (.istore_n 3, 1) := by decide +kernel
theorem dX2_weightUnderWay_4 : decode cX2_weightUnderWay 4 = .ok (.iload_n 3, 1) := by decide +kernel
theorem dX2_weightUnderWay_5 : decode cX2_weightUnderWay 5 = .ok (.aload_n 0, 1) := by decide +kernel
theorem dX2_weightUnderWay_6 : decode cX2_weightUnderWay 6 = .ok (.getfield 17, 3) := by decide +kernel
theorem dX2_weightUnderWay_9 : decode cX2_weightUnderWay 9 = .ok (.if_icmp .ge 46, 3) := by decide +kernel
theorem dX2_weightUnderWay_12 : decode cX2_weightUnderWay 12 = .ok (.aload_n 0, 1) := by decide +kernel
theorem dX2_weightUnderWay_13 : decode cX2_weightUnderWay 13 = .ok (.iload_n 3, 1) := by decide +kernel
theorem dX2_weightUnderWay_14 : decode cX2_weightUnderWay 14 = .ok (.invokevirtual 55, 3) := by decide +kernel
theorem dX2_weightUnderWay_17 : decode cX2_weightUnderWay 17 = .ok (.astore 4, 2) := by decide +kernel
theorem dX2_weightUnderWay_19 : decode cX2_weightUnderWay 19 = .ok (.aload 4, 2) := by decide +kernel
theorem dX2_weightUnderWay_21 : decode cX2_weightUnderWay 21 = .ok (.ifnull 28, 3) := by decide +kernel
theorem dX2_weightUnderWay_24 : decode cX2_weightUnderWay 24 = .ok (.aload 4, 2) := by decide +kernel
theorem dX2_weightUnderWay_26 : decode cX2_weightUnderWay 26 = .ok (.getfield 59, 3) := by decide +kernel
theorem dX2_weightUnderWay_29 : decode cX2_weightUnderWay 29 = .ok (.ifCond .eq 20, 3) := by decide +kernel
theorem dX2_weightUnderWay_32 : decode cX2_weightUnderWay 32 = .ok (.aload 4, 2) := by decide +kernel
theorem dX2_weightUnderWay_34 : decode cX2_weightUnderWay 34 = .ok (.getfield 63, 3) := by decide +kernel
theorem dX2_weightUnderWay_37 : decode cX2_weightUnderWay 37 = .ok (.aload_n 1, 1) := by decide +kernel
theorem dX2_weightUnderWay_38 : decode cX2_weightUnderWay 38 = .ok (.if_acmp .ne 11, 3) := by decide +kernel
theorem dX2_weightUnderWay_41 : decode cX2_weightUnderWay 41 = .ok (.iload_n 2, 1) := by decide +kernel
theorem dX2_weightUnderWay_42 : decode cX2_weightUnderWay 42 = .ok (.aload 4, 2) := by decide +kernel
theorem dX2_weightUnderWay_44 : decode cX2_weightUnderWay 44 = .ok (.getfield 29, 3) := by decide +kernel
theorem dX2_weightUnderWay_47 : decode cX2_weightUnderWay 47 = .ok (.iadd, 1) := by decide +kernel
theorem dX2_weightUnderWay_48 : decode cX2_weightUnderWay 48 = .ok (.istore_n 2, 1) := by decide +kernel
theorem dX2_weightUnderWay_49 : decode cX2_weightUnderWay 49 = .ok (.iinc 3 1, 3) := by decide +kernel
theorem dX2_weightUnderWay_52 : decode cX2_weightUnderWay 52 = .ok (.goto (-48), 3) := by decide +kernel
theorem dX2_weightUnderWay_55 : decode cX2_weightUnderWay 55 = .ok (.iload_n 2, 1) := by decide +kernel
theorem dX2_weightUnderWay_56 : decode cX2_weightUnderWay 56 = .ok (.ireturn, 1) := by decide +kernel
def fX2_weightUnderWay_4 : Nat → Nat → Option Nat → Int32 → Int32 → Hz → Option (Int32 × Hz)
  | 0, _, _, _, _, _ => none
  | n + 1, o, v1, v2, v3, h => (b1 (gI 2 1 o h) fun x1 => (if x1 ≤ v3 then some (v2, h) else (b1 (tg 2 o h) fun _ => (b2 (fX2_find o v3 h) fun r4 s5 => (oe r4 (fX2_weightUnderWay_4 n o v1 v2 (v3 + 1) s5) fun a6 => (b1 (gI 0 9 a6 s5) fun x7 => (if x7 = 0 then fX2_weightUnderWay_4 n o v1 v2 (v3 + 1) s5 else (b1 (gA 0 3 a6 s5) fun a9 => (if (some a9) = v1 then (b1 (gI 0 4 a6 s5) fun x11 => fX2_weightUnderWay_4 n o v1 (v2 + x11) (v3 + 1) s5) else fX2_weightUnderWay_4 n o v1 v2 (v3 + 1) s5)))))))))
set_option maxHeartbeats 4000000 in
set_option maxRecDepth 100000 in
theorem wX2_weightUnderWay_4 {r0 : Int32} {h0 : Hz} (X : zX A D cy p s m args c cX2_weightUnderWay RX2 5) (hlk : meth.locks = false) (hr : meth.sig.returnType = (some .int)) : ∀ (n : Nat) (o : Nat) (v1 : Option Nat) (v2 : Int32) (v3 : Int32) (h : Hz) (H : Heap) (locs : List Loc) (ls : Array Slot) (hl : lv_has ls 5 [(0, .ref o), (1, va_rf v1), (2, .int v2), (3, .int v3)]) (hW : zW A cy D h H) (hS : va_S A s.heap H locs) (h : fX2_weightUnderWay_4 n o v1 v2 v3 h = some (r0, h0)), W p l e ({ frames := 1, cells := 0, slots := 0, locals := 21 } : Room) s m args below meth c H locs 0 0 (MQ below (va_Qi (fun r1 u => r1 = r0 ∧ u = h0) (zB A D cy) A) args s 0 0 A) (F0 m 4 ls []) := by
  obtain ⟨hx, hb, hts, hown, hK9, hml, hN9, hA9⟩ := id X
  intro n
  induction n with
  | zero =>
    intro o v1 v2 v3 h H locs ls hl hW hS h
    rw [fX2_weightUnderWay_4] at h
    cases h
  | succ n ih =>
    intro o v1 v2 v3 h H locs ls hl hW hS h
    rw [fX2_weightUnderWay_4] at h
    refine lv_iload_n hx hb dX2_weightUnderWay_4 rfl (lv_at hl 3 rfl) ?_
    refine lv_aload_n hx hb dX2_weightUnderWay_5 rfl (lv_at hl 0 rfl) ?_
    replace h := b1_some h
    obtain ⟨x1, gx1, h⟩ := h
    refine z_getI X hW gx1 kX2 (by decide) (by decide) kf_X2_17 dX2_weightUnderWay_6 ?_
    refine lv_icmp_ge (tgt := 55) hx hb dX2_weightUnderWay_9 (by decide) (fun c2 => ?_) (fun c2 => ?_)
    · replace h := it_t h c2
      refine lv_iload_n hx hb dX2_weightUnderWay_55 rfl (lv_at hl 2 rfl) ?_
      exact z_eti X hlk hr hW hS h (by decide) (by decide) dX2_weightUnderWay_56
    · replace h := it_f h c2
      refine lv_aload_n hx hb dX2_weightUnderWay_12 rfl (lv_at hl 0 rfl) ?_
      refine lv_iload_n hx hb dX2_weightUnderWay_13 rfl (lv_at hl 3 rfl) ?_
      replace h := b1_some h
      obtain ⟨q3, gq3, h⟩ := h
      replace h := b2_some h
      obtain ⟨r4, s5, gs5, h⟩ := h
      refine z_callVq (rest := []) X hW hS (cX2_find_met gs5) kb_X2_find kv_X2_find kl_X2_55 (it_v gq3).1 kX2 rfl rfl ⟨Nat.le_of_ble_eq_true rfl, Nat.le_of_ble_eq_true rfl⟩ rfl rfl (by decide) hl.1 dX2_weightUnderWay_14 ⟨(by decide), (by decide)⟩ (fun H locs hW hS => ?_)
      refine z_astore (lv' := [(4, va_rf r4), (0, .ref o), (1, va_rf v1), (2, .int v2), (3, .int v3)]) hx hb dX2_weightUnderWay_17 hl (by decide) rfl (fun ls hl => ?_)
      refine z_aload hx hb dX2_weightUnderWay_19 (lv_at hl 0 rfl) ?_
      cases r4 with
      | none =>
        replace h := oe_n h
        have hl : lv_has ls 5 [(4, .null), (0, .ref o), (1, va_rf v1), (2, .int v2), (3, .int v3)] := hl
        refine lv_ifnullN (tgt := 49) hx hb dX2_weightUnderWay_21 (by decide) ?_
        refine lv_iinc (v := (v3 + 1)) (lv' := [(3, .int (v3 + 1)), (4, .null), (0, .ref o), (1, va_rf v1), (2, .int v2)]) hx hb dX2_weightUnderWay_49 hl (k := 4) rfl rfl (by decide) rfl (fun ls hl => ?_)
        refine lv_goto (tgt := 4) hx hb dX2_weightUnderWay_52 (by decide) ?_
        exact ih o v1 v2 (v3 + 1) _ _ _ _ (lv_sub hl [2, 3, 4, 0] rfl) hW hS h
      | some a6 =>
        replace h := oe_s h
        have hl : lv_has ls 5 [(4, .ref a6), (0, .ref o), (1, va_rf v1), (2, .int v2), (3, .int v3)] := hl
        refine lv_ifnull hx hb dX2_weightUnderWay_21 ?_
        refine lv_aload hx hb dX2_weightUnderWay_24 (lv_at hl 0 rfl) ?_
        replace h := b1_some h
        obtain ⟨x7, gx7, h⟩ := h
        refine z_getI X hW gx7 kX0 (by decide) (by decide) kf_X2_59 dX2_weightUnderWay_26 ?_
        refine lv_if_eq (tgt := 49) hx hb dX2_weightUnderWay_29 (by decide) (fun c8 => ?_) (fun c8 => ?_)
        · replace h := it_t h c8
          refine lv_iinc (v := (v3 + 1)) (lv' := [(3, .int (v3 + 1)), (4, .ref a6), (0, .ref o), (1, va_rf v1), (2, .int v2)]) hx hb dX2_weightUnderWay_49 hl (k := 4) rfl rfl (by decide) rfl (fun ls hl => ?_)
          refine lv_goto (tgt := 4) hx hb dX2_weightUnderWay_52 (by decide) ?_
          exact ih o v1 v2 (v3 + 1) _ _ _ _ (lv_sub hl [2, 3, 4, 0] rfl) hW hS h
        · replace h := it_f h c8
          refine lv_aload hx hb dX2_weightUnderWay_32 (lv_at hl 0 rfl) ?_
          replace h := b1_some h
          obtain ⟨a9, ga9, h⟩ := h
          refine z_getA X hW ga9 kX0 (by decide) (by decide) kf_X2_63 dX2_weightUnderWay_34 ?_
          refine z_aload_n hx hb dX2_weightUnderWay_37 rfl (lv_at hl 2 rfl) ?_
          refine lv_acmp_ne (rx := (some a9)) (ry := v1) (tgt := 49) hx hb dX2_weightUnderWay_38 (by decide) (fun c10 => ?_) (fun c10 => ?_)
          · replace h := it_f h c10
            refine lv_iinc (v := (v3 + 1)) (lv' := [(3, .int (v3 + 1)), (4, .ref a6), (0, .ref o), (1, va_rf v1), (2, .int v2)]) hx hb dX2_weightUnderWay_49 hl (k := 4) rfl rfl (by decide) rfl (fun ls hl => ?_)
            refine lv_goto (tgt := 4) hx hb dX2_weightUnderWay_52 (by decide) ?_
            exact ih o v1 v2 (v3 + 1) _ _ _ _ (lv_sub hl [2, 3, 4, 0] rfl) hW hS h
          · replace h := it_t h c10
            refine lv_iload_n hx hb dX2_weightUnderWay_41 rfl (lv_at hl 3 rfl) ?_
            refine lv_aload hx hb dX2_weightUnderWay_42 (lv_at hl 0 rfl) ?_
            replace h := b1_some h
            obtain ⟨x11, gx11, h⟩ := h
            refine z_getI X hW gx11 kX0 (by decide) (by decide) kf_X2_29 dX2_weightUnderWay_44 ?_
            refine lv_iadd hx hb dX2_weightUnderWay_47 ?_
            refine lv_istore_n (lv' := [(2, .int (v2 + x11)), (4, .ref a6), (0, .ref o), (1, va_rf v1), (3, .int v3)]) hx hb dX2_weightUnderWay_48 rfl hl (by decide) (by cases v1 <;> rfl) (fun ls hl => ?_)
            refine lv_iinc (v := (v3 + 1)) (lv' := [(3, .int (v3 + 1)), (2, .int (v2 + x11)), (4, .ref a6), (0, .ref o), (1, va_rf v1)]) hx hb dX2_weightUnderWay_49 hl (k := 4) rfl rfl (by decide) rfl (fun ls hl => ?_)
            refine lv_goto (tgt := 4) hx hb dX2_weightUnderWay_52 (by decide) ?_
            exact ih o v1 (v2 + x11) (v3 + 1) _ _ _ _ (lv_sub hl [3, 4, 1, 0] rfl) hW hS h

def fX2_weightUnderWay (o : Nat) (v1 : Option Nat) (h : Hz) : Option (Int32 × Hz) := fX2_weightUnderWay_4 100000 o v1 0 0 h
set_option maxHeartbeats 4000000 in
set_option maxRecDepth 100000 in
theorem wX2_weightUnderWay_0 {r0 : Int32} {h0 : Hz} (X : zX A D cy p s m args c cX2_weightUnderWay RX2 5) (hlk : meth.locks = false) (hr : meth.sig.returnType = (some .int)) (o : Nat) (v1 : Option Nat) (h : Hz) (H : Heap) (locs : List Loc) (ls : Array Slot) (hl : lv_has ls 5 [(0, .ref o), (1, va_rf v1)]) (hW : zW A cy D h H) (hS : va_S A s.heap H locs) (h : fX2_weightUnderWay o v1 h = some (r0, h0)) : W p l e ({ frames := 1, cells := 0, slots := 0, locals := 21 } : Room) s m args below meth c H locs 0 0 (MQ below (va_Qi (fun r1 u => r1 = r0 ∧ u = h0) (zB A D cy) A) args s 0 0 A) (F0 m 0 ls []) := by
  obtain ⟨hx, hb, hts, hown, hK9, hml, hN9, hA9⟩ := id X
  unfold fX2_weightUnderWay at h
  refine lv_iconst (v := 0) hx hb dX2_weightUnderWay_0 (by decide) ?_
  refine lv_istore_n (lv' := [(2, .int 0), (0, .ref o), (1, va_rf v1)]) hx hb dX2_weightUnderWay_1 rfl hl (by decide) (by cases v1 <;> rfl) (fun ls hl => ?_)
  refine lv_iconst (v := 0) hx hb dX2_weightUnderWay_2 (by decide) ?_
  refine lv_istore_n (lv' := [(3, .int 0), (2, .int 0), (0, .ref o), (1, va_rf v1)]) hx hb dX2_weightUnderWay_3 rfl hl (by decide) rfl (fun ls hl => ?_)
  exact wX2_weightUnderWay_4 X hlk hr _ o v1 0 0 _ _ _ _ (lv_sub hl [2, 3, 1, 0] rfl) hW hS h

set_option maxHeartbeats 4000000 in
set_option maxRecDepth 100000 in
theorem cX2_weightUnderWay_met {l : Launch} {A : Nat → Prop} {D : va_G} {cy : Nat → ClassId} {r0 : Int32} {h0 : Hz} {o : Nat} {v1 : Option Nat} {h : Hz} (g : fX2_weightUnderWay o v1 h = some (r0, h0)) : Met l yX2_weightUnderWay (Cond.code yX2_weightUnderWay cX2_weightUnderWay 5 (some .int) :: wT) ({ frames := 1, cells := 0, slots := 0, locals := 21 } : Room) (va_Pc [.ref o, va_rf v1] (zS A D cy h)) (va_Qi (fun r1 u => r1 = r0 ∧ u = h0) (zB A D cy) A) 0 0 A := by
  refine Met.ofW (cc := cX2_weightUnderWay) (maxL := 5) (ret := (some .int)) (by decide) rfl ?_
  intro p e s m args below meth c s₁ B hml hv
  obtain ⟨rfl, hW, hK, hN, hA⟩ := hv
  have X : zX A D cy p s m _ c cX2_weightUnderWay RX2 5 := ⟨B.exec, B.bytes, fun w hw => atoms_spec (ws := Cond.code yX2_weightUnderWay cX2_weightUnderWay 5 (some .int) :: wT) B.pre w (List.mem_cons_of_mem _ hw), findClass_of_methodNamed B.named, hK, hml, hN, hA⟩
  cases v1 with
  | none =>
    have hl := lv_entry [.ref o, va_rf none] (n := 5) (Nat.le_of_ble_eq_true rfl)
    rw [lg_entry_eq]
    generalize (lg_sl [.ref o, va_rf none] ++ List.replicate (5 - (lg_sl [.ref o, va_rf none]).length) Slot.unset).toArray = ls at hl ⊢
    have hl : lv_has ls 5 [(0, .ref o), (1, va_rf none)] := hl
    exact wX2_weightUnderWay_0 X B.notSynchronized B.returns o none _ _ _ _ (lv_sub hl [0, 1] rfl) hW va_S.rf g
  | some v1 =>
    have hl := lv_entry [.ref o, va_rf (some v1)] (n := 5) (Nat.le_of_ble_eq_true rfl)
    rw [lg_entry_eq]
    generalize (lg_sl [.ref o, va_rf (some v1)] ++ List.replicate (5 - (lg_sl [.ref o, va_rf (some v1)]).length) Slot.unset).toArray = ls at hl ⊢
    have hl : lv_has ls 5 [(0, .ref o), (1, va_rf (some v1))] := hl
    exact wX2_weightUnderWay_0 X B.notSynchronized B.returns o (some v1) _ _ _ _ (lv_sub hl [0, 1] rfl) hW va_S.rf g

theorem dX3_addHeldBy_0 : decode cX3_addHeldBy 0 = .ok (.iconst 0, 1) := by decide +kernel
theorem dX3_addHeldBy_1 : decode cX3_addHeldBy 1 = .ok (.istore_n 2, 1) := by decide +kernel
theorem dX3_addHeldBy_2 : decode cX3_addHeldBy 2 = .ok (.iload_n 2, 1) := by decide +kernel
theorem dX3_addHeldBy_3 : decode cX3_addHeldBy 3 = .ok (.aload_n 1, 1) := by decide +kernel
theorem dX3_addHeldBy_4 : decode cX3_addHeldBy 4 = .ok (.invokevirtual 32, 3) := by decide +kernel
theorem dX3_addHeldBy_7 : decode cX3_addHeldBy 7 = .ok (.if_icmp .ge 24, 3) := by decide +kernel
theorem dX3_addHeldBy_10 : decode cX3_addHeldBy 10 = .ok (.aload_n 1, 1) := by decide +kernel
theorem dX3_addHeldBy_11 : decode cX3_addHeldBy 11 = .ok (.iload_n 2, 1) := by decide +kernel
theorem dX3_addHeldBy_12 : decode cX3_addHeldBy 12 = .ok (.invokevirtual 36, 3) := by decide +kernel
theorem dX3_addHeldBy_15 : decode cX3_addHeldBy 15 = .ok (.astore_n 3, 1) := by decide +kernel
theorem dX3_addHeldBy_16 : decode cX3_addHeldBy 16 = .ok (.aload_n 3, 1) := by decide +kernel
theorem dX3_addHeldBy_17 : decode cX3_addHeldBy 17 = .ok (.ifnull 8, 3) := by decide +kernel
theorem dX3_addHeldBy_20 : decode cX3_addHeldBy 20 = .ok (.aload_n 0, 1) := by decide +kernel
theorem dX3_addHeldBy_21 : decode cX3_addHeldBy 21 = .ok (.aload_n 3, 1) := by decide +kernel
theorem dX3_addHeldBy_22 : decode cX3_addHeldBy 22 = .ok (.invokevirtual 39, 3) := by decide +kernel
theorem dX3_addHeldBy_25 : decode cX3_addHeldBy 25 = .ok (.iinc 2 1, 3) := by decide +kernel
theorem dX3_addHeldBy_28 : decode cX3_addHeldBy 28 = .ok (.goto (-26), 3) := by decide +kernel
theorem dX3_addHeldBy_31 : decode cX3_addHeldBy 31 = .ok (.return_, 1) := by decide +kernel
def fX3_addHeldBy_2 : Nat → Nat → Option Nat → Int32 → Hz → Option (Unit × Hz)
  | 0, _, _, _, _ => none
  | n + 1, o, v1, v2, h => b1 v1 fun a1 => (b1 (tg 5 a1 h) fun _ => (b2 (fX5_placesSize a1 h) fun x3 s4 => (if x3 ≤ v2 then some ((), s4) else (b1 (tg 5 a1 s4) fun _ => (b2 (fX5_thingAt a1 v2 s4) fun r7 s8 => (oe r7 (fX3_addHeldBy_2 n o (some a1) (v2 + 1) s8) fun a9 => (b1 (tg 3 o s8) fun _ => (b2 (fX3_add o (some a9) s8) fun _ s12 => fX3_addHeldBy_2 n o (some a1) (v2 + 1) s12))))))))
set_option maxHeartbeats 4000000 in
set_option maxRecDepth 100000 in
theorem wX3_addHeldBy_2 {r0 : Unit} {h0 : Hz} (X : zX A D cy p s m args c cX3_addHeldBy RX3 4) (hlk : meth.locks = false) (hr : meth.sig.returnType = none) : ∀ (n : Nat) (o : Nat) (v1 : Option Nat) (v2 : Int32) (h : Hz) (H : Heap) (locs : List Loc) (ls : Array Slot) (hl : lv_has ls 4 [(0, .ref o), (1, va_rf v1), (2, .int v2)]) (hW : zW A cy D h H) (hS : va_S A s.heap H locs) (h : fX3_addHeldBy_2 n o v1 v2 h = some (r0, h0)), W p l e ({ frames := 2, cells := 0, slots := 0, locals := 42 } : Room) s m args below meth c H locs 0 0 (MQ below (va_Qv (fun u => u = h0) (zB A D cy) A) args s 0 0 A) (F0 m 2 ls []) := by
  obtain ⟨hx, hb, hts, hown, hK9, hml, hN9, hA9⟩ := id X
  intro n
  induction n with
  | zero =>
    intro o v1 v2 h H locs ls hl hW hS h
    rw [fX3_addHeldBy_2] at h
    cases h
  | succ n ih =>
    intro o v1 v2 h H locs ls hl hW hS h
    rw [fX3_addHeldBy_2] at h
    refine lv_iload_n hx hb dX3_addHeldBy_2 rfl (lv_at hl 2 rfl) ?_
    refine z_aload_n hx hb dX3_addHeldBy_3 rfl (lv_at hl 1 rfl) ?_
    replace h := b1_some h
    obtain ⟨a1, ea1, h⟩ := h
    subst ea1
    replace h := b1_some h
    obtain ⟨q2, gq2, h⟩ := h
    replace h := b2_some h
    obtain ⟨x3, s4, gs4, h⟩ := h
    refine z_callVi (rest := [.int v2]) X hW hS (cX5_placesSize_met gs4) kb_X5_placesSize kv_X5_placesSize kl_X3_32 (it_v gq2).1 kX5 rfl rfl ⟨Nat.le_of_ble_eq_true rfl, Nat.le_of_ble_eq_true rfl⟩ rfl rfl (Nat.le_of_ble_eq_true rfl) hl.1 dX3_addHeldBy_4 ⟨(by decide), (by decide)⟩ (fun H locs hW hS => ?_)
    refine lv_icmp_ge (tgt := 31) hx hb dX3_addHeldBy_7 (by decide) (fun c5 => ?_) (fun c5 => ?_)
    · replace h := it_t h c5
      exact z_etv X hlk hr hW hS h (by decide) (by decide) dX3_addHeldBy_31
    · replace h := it_f h c5
      refine lv_aload_n hx hb dX3_addHeldBy_10 rfl (lv_at hl 1 rfl) ?_
      refine lv_iload_n hx hb dX3_addHeldBy_11 rfl (lv_at hl 2 rfl) ?_
      replace h := b1_some h
      obtain ⟨q6, gq6, h⟩ := h
      replace h := b2_some h
      obtain ⟨r7, s8, gs8, h⟩ := h
      refine z_callVq (rest := []) X hW hS (cX5_thingAt_met gs8) kb_X5_thingAt kv_X5_thingAt kl_X3_36 (it_v gq6).1 kX5 rfl rfl ⟨Nat.le_of_ble_eq_true rfl, Nat.le_of_ble_eq_true rfl⟩ rfl rfl (by decide) hl.1 dX3_addHeldBy_12 ⟨(by decide), (by decide)⟩ (fun H locs hW hS => ?_)
      refine z_astore_n (lv' := [(3, va_rf r7), (0, .ref o), (1, .ref a1), (2, .int v2)]) hx hb dX3_addHeldBy_15 rfl hl (by decide) rfl (fun ls hl => ?_)
      refine z_aload_n hx hb dX3_addHeldBy_16 rfl (lv_at hl 0 rfl) ?_
      cases r7 with
      | none =>
        replace h := oe_n h
        have hl : lv_has ls 4 [(3, .null), (0, .ref o), (1, .ref a1), (2, .int v2)] := hl
        refine lv_ifnullN (tgt := 25) hx hb dX3_addHeldBy_17 (by decide) ?_
        refine lv_iinc (v := (v2 + 1)) (lv' := [(2, .int (v2 + 1)), (3, .null), (0, .ref o), (1, .ref a1)]) hx hb dX3_addHeldBy_25 hl (k := 3) rfl rfl (by decide) rfl (fun ls hl => ?_)
        refine lv_goto (tgt := 2) hx hb dX3_addHeldBy_28 (by decide) ?_
        exact ih o (some a1) (v2 + 1) _ _ _ _ (lv_sub hl [2, 3, 0] rfl) hW hS h
      | some a9 =>
        replace h := oe_s h
        have hl : lv_has ls 4 [(3, .ref a9), (0, .ref o), (1, .ref a1), (2, .int v2)] := hl
        refine lv_ifnull hx hb dX3_addHeldBy_17 ?_
        refine lv_aload_n hx hb dX3_addHeldBy_20 rfl (lv_at hl 1 rfl) ?_
        refine lv_aload_n hx hb dX3_addHeldBy_21 rfl (lv_at hl 0 rfl) ?_
        replace h := b1_some h
        obtain ⟨q10, gq10, h⟩ := h
        replace h := b2_some h
        obtain ⟨_ur11, s12, gs12, h⟩ := h
        refine z_callVv (rest := []) X hW hS (cX3_add_met gs12) kb_X3_add kv_X3_add kl_X3_39 (it_v gq10).1 kX3 rfl rfl ⟨Nat.le_of_ble_eq_true rfl, Nat.le_of_ble_eq_true rfl⟩ rfl rfl (by decide) hl.1 dX3_addHeldBy_22 ⟨(by decide), (by decide)⟩ (fun H locs hW hS => ?_)
        refine lv_iinc (v := (v2 + 1)) (lv' := [(2, .int (v2 + 1)), (3, .ref a9), (0, .ref o), (1, .ref a1)]) hx hb dX3_addHeldBy_25 hl (k := 3) rfl rfl (by decide) rfl (fun ls hl => ?_)
        refine lv_goto (tgt := 2) hx hb dX3_addHeldBy_28 (by decide) ?_
        exact ih o (some a1) (v2 + 1) _ _ _ _ (lv_sub hl [2, 3, 0] rfl) hW hS h

def fX3_addHeldBy (o : Nat) (v1 : Option Nat) (h : Hz) : Option (Unit × Hz) := fX3_addHeldBy_2 100000 o v1 0 h
set_option maxHeartbeats 4000000 in
set_option maxRecDepth 100000 in
theorem wX3_addHeldBy_0 {r0 : Unit} {h0 : Hz} (X : zX A D cy p s m args c cX3_addHeldBy RX3 4) (hlk : meth.locks = false) (hr : meth.sig.returnType = none) (o : Nat) (v1 : Option Nat) (h : Hz) (H : Heap) (locs : List Loc) (ls : Array Slot) (hl : lv_has ls 4 [(0, .ref o), (1, va_rf v1)]) (hW : zW A cy D h H) (hS : va_S A s.heap H locs) (h : fX3_addHeldBy o v1 h = some (r0, h0)) : W p l e ({ frames := 2, cells := 0, slots := 0, locals := 42 } : Room) s m args below meth c H locs 0 0 (MQ below (va_Qv (fun u => u = h0) (zB A D cy) A) args s 0 0 A) (F0 m 0 ls []) := by
  obtain ⟨hx, hb, hts, hown, hK9, hml, hN9, hA9⟩ := id X
  unfold fX3_addHeldBy at h
  refine lv_iconst (v := 0) hx hb dX3_addHeldBy_0 (by decide) ?_
  refine lv_istore_n (lv' := [(2, .int 0), (0, .ref o), (1, va_rf v1)]) hx hb dX3_addHeldBy_1 rfl hl (by decide) (by cases v1 <;> rfl) (fun ls hl => ?_)
  exact wX3_addHeldBy_2 X hlk hr _ o v1 0 _ _ _ _ (lv_sub hl [1, 2, 0] rfl) hW hS h

set_option maxHeartbeats 4000000 in
set_option maxRecDepth 100000 in
theorem cX3_addHeldBy_met {l : Launch} {A : Nat → Prop} {D : va_G} {cy : Nat → ClassId} {r0 : Unit} {h0 : Hz} {o : Nat} {v1 : Option Nat} {h : Hz} (g : fX3_addHeldBy o v1 h = some (r0, h0)) : Met l yX3_addHeldBy (Cond.code yX3_addHeldBy cX3_addHeldBy 4 none :: wT) ({ frames := 2, cells := 0, slots := 0, locals := 42 } : Room) (va_Pc [.ref o, va_rf v1] (zS A D cy h)) (va_Qv (fun u => u = h0) (zB A D cy) A) 0 0 A := by
  refine Met.ofW (cc := cX3_addHeldBy) (maxL := 4) (ret := none) (by decide) rfl ?_
  intro p e s m args below meth c s₁ B hml hv
  obtain ⟨rfl, hW, hK, hN, hA⟩ := hv
  have X : zX A D cy p s m _ c cX3_addHeldBy RX3 4 := ⟨B.exec, B.bytes, fun w hw => atoms_spec (ws := Cond.code yX3_addHeldBy cX3_addHeldBy 4 none :: wT) B.pre w (List.mem_cons_of_mem _ hw), findClass_of_methodNamed B.named, hK, hml, hN, hA⟩
  cases v1 with
  | none =>
    have hl := lv_entry [.ref o, va_rf none] (n := 4) (Nat.le_of_ble_eq_true rfl)
    rw [lg_entry_eq]
    generalize (lg_sl [.ref o, va_rf none] ++ List.replicate (4 - (lg_sl [.ref o, va_rf none]).length) Slot.unset).toArray = ls at hl ⊢
    have hl : lv_has ls 4 [(0, .ref o), (1, va_rf none)] := hl
    exact wX3_addHeldBy_0 X B.notSynchronized B.returns o none _ _ _ _ (lv_sub hl [0, 1] rfl) hW va_S.rf g
  | some v1 =>
    have hl := lv_entry [.ref o, va_rf (some v1)] (n := 4) (Nat.le_of_ble_eq_true rfl)
    rw [lg_entry_eq]
    generalize (lg_sl [.ref o, va_rf (some v1)] ++ List.replicate (4 - (lg_sl [.ref o, va_rf (some v1)]).length) Slot.unset).toArray = ls at hl ⊢
    have hl : lv_has ls 4 [(0, .ref o), (1, va_rf (some v1))] := hl
    exact wX3_addHeldBy_0 X B.notSynchronized B.returns o (some v1) _ _ _ _ (lv_sub hl [0, 1] rfl) hW va_S.rf g

theorem dX3_spread_0 : decode cX3_spread 0 = .ok (.iconst 0, 1) := by decide +kernel
theorem dX3_spread_1 : decode cX3_spread 1 = .ok (.istore_n 1, 1) := by decide +kernel
theorem dX3_spread_2 : decode cX3_spread 2 = .ok (.iload_n 1, 1) := by decide +kernel
theorem dX3_spread_3 : decode cX3_spread 3 = .ok (.aload_n 0, 1) := by decide +kernel
theorem dX3_spread_4 : decode cX3_spread 4 = .ok (.getfield 21, 3) := by decide +kernel
theorem dX3_spread_7 : decode cX3_spread 7 = .ok (.if_icmp .ge 34, 3) := by decide +kernel
theorem dX3_spread_10 : decode cX3_spread 10 = .ok (.iload_n 1, 1) := by decide +kernel
theorem dX3_spread_11 : decode cX3_spread 11 = .ok (.aload_n 0, 1) := by decide +kernel
theorem dX3_spread_12 : decode cX3_spread 12 = .ok (.getfield 17, 3) := by decide +kernel
theorem dX3_spread_15 : decode cX3_spread 15 = .ok (.arraylength, 1) := by decide +kernel
theorem dX3_spread_16 : decode cX3_spread 16 = .ok (.if_icmp .ge 25, 3) := by decide +kernel
theorem dX3_spread_19 : decode cX3_spread 19 = .ok (.aload_n 0, 1) := by decide +kernel
theorem dX3_spread_20 : decode cX3_spread 20 = .ok (.getfield 17, 3) := by decide +kernel
theorem dX3_spread_23 : decode cX3_spread 23 = .ok (.iload_n 1, 1) := by decide +kernel
theorem dX3_spread_24 : decode cX3_spread 24 = .ok (.aaload, 1) := by decide +kernel
theorem dX3_spread_25 : decode cX3_spread 25 = .ok (.astore_n 2, 1) := by decide +kernel
theorem dX3_spread_26 : decode cX3_spread 26 = .ok (.aload_n 2, 1) := by decide +kernel
theorem dX3_spread_27 : decode cX3_spread 27 = .ok (.ifnull 8, 3) := by decide +kernel
theorem dX3_spread_30 : decode cX3_spread 30 = .ok (.aload_n 0, 1) := by decide +kernel
theorem dX3_spread_31 : decode cX3_spread 31 = .ok (.aload_n 2, 1) := by decide +kernel
theorem dX3_spread_32 : decode cX3_spread 32 = .ok (.invokevirtual 43, 3) := by decide +kernel
theorem dX3_spread_35 : decode cX3_spread 35 = .ok (.iinc 1 1, 3) := by decide +kernel
theorem dX3_spread_38 : decode cX3_spread 38 = .ok (.goto (-36), 3) := by decide +kernel
theorem dX3_spread_41 : decode cX3_spread 41 = .ok (.return_, 1) := by decide +kernel
def fX3_spread_2 : Nat → Nat → Int32 → Hz → Option (Unit × Hz)
  | 0, _, _, _ => none
  | n + 1, o, v1, h => (b1 (gI 3 2 o h) fun x1 => (if x1 ≤ v1 then some ((), h) else (b1 (gA 3 1 o h) fun a3 => (b1 (xN 17 a3 h) fun x4 => (if x4 ≤ v1 then some ((), h) else (b1 (gA 3 1 o h) fun a6 => (b1 (xP 17 a6 v1 h) fun r7 => (oe r7 (fX3_spread_2 n o (v1 + 1) h) fun a8 => (b1 (tg 3 o h) fun _ => (b2 (fX3_addHeldBy o (some a8) h) fun _ s11 => fX3_spread_2 n o (v1 + 1) s11))))))))))
set_option maxHeartbeats 4000000 in
set_option maxRecDepth 100000 in
theorem wX3_spread_2 {r0 : Unit} {h0 : Hz} (X : zX A D cy p s m args c cX3_spread RX3 3) (hlk : meth.locks = false) (hr : meth.sig.returnType = none) : ∀ (n : Nat) (o : Nat) (v1 : Int32) (h : Hz) (H : Heap) (locs : List Loc) (ls : Array Slot) (hl : lv_has ls 3 [(0, .ref o), (1, .int v1)]) (hW : zW A cy D h H) (hS : va_S A s.heap H locs) (h : fX3_spread_2 n o v1 h = some (r0, h0)), W p l e ({ frames := 3, cells := 0, slots := 0, locals := 65 } : Room) s m args below meth c H locs 0 0 (MQ below (va_Qv (fun u => u = h0) (zB A D cy) A) args s 0 0 A) (F0 m 2 ls []) := by
  obtain ⟨hx, hb, hts, hown, hK9, hml, hN9, hA9⟩ := id X
  intro n
  induction n with
  | zero =>
    intro o v1 h H locs ls hl hW hS h
    rw [fX3_spread_2] at h
    cases h
  | succ n ih =>
    intro o v1 h H locs ls hl hW hS h
    rw [fX3_spread_2] at h
    refine lv_iload_n hx hb dX3_spread_2 rfl (lv_at hl 1 rfl) ?_
    refine lv_aload_n hx hb dX3_spread_3 rfl (lv_at hl 0 rfl) ?_
    replace h := b1_some h
    obtain ⟨x1, gx1, h⟩ := h
    refine z_getI X hW gx1 kX3 (by decide) (by decide) kf_X3_21 dX3_spread_4 ?_
    refine lv_icmp_ge (tgt := 41) hx hb dX3_spread_7 (by decide) (fun c2 => ?_) (fun c2 => ?_)
    · replace h := it_t h c2
      exact z_etv X hlk hr hW hS h (by decide) (by decide) dX3_spread_41
    · replace h := it_f h c2
      refine lv_iload_n hx hb dX3_spread_10 rfl (lv_at hl 1 rfl) ?_
      refine lv_aload_n hx hb dX3_spread_11 rfl (lv_at hl 0 rfl) ?_
      replace h := b1_some h
      obtain ⟨a3, ga3, h⟩ := h
      refine z_getA X hW ga3 kX3 (by decide) (by decide) kf_X3_17 dX3_spread_12 ?_
      replace h := b1_some h
      obtain ⟨x4, gx4, h⟩ := h
      refine z_alenP X hW gx4 (by decide) (by decide) rfl dX3_spread_15 ?_
      refine lv_icmp_ge (tgt := 41) hx hb dX3_spread_16 (by decide) (fun c5 => ?_) (fun c5 => ?_)
      · replace h := it_t h c5
        exact z_etv X hlk hr hW hS h (by decide) (by decide) dX3_spread_41
      · replace h := it_f h c5
        refine lv_aload_n hx hb dX3_spread_19 rfl (lv_at hl 0 rfl) ?_
        replace h := b1_some h
        obtain ⟨a6, ga6, h⟩ := h
        refine z_getA X hW ga6 kX3 (by decide) (by decide) kf_X3_17 dX3_spread_20 ?_
        refine lv_iload_n hx hb dX3_spread_23 rfl (lv_at hl 1 rfl) ?_
        replace h := b1_some h
        obtain ⟨r7, gr7, h⟩ := h
        refine z_aldP X hW gr7 (by decide) (by decide) rfl dX3_spread_24 ?_
        refine z_astore_n (lv' := [(2, va_rf r7), (0, .ref o), (1, .int v1)]) hx hb dX3_spread_25 rfl hl (by decide) rfl (fun ls hl => ?_)
        refine z_aload_n hx hb dX3_spread_26 rfl (lv_at hl 0 rfl) ?_
        cases r7 with
        | none =>
          replace h := oe_n h
          have hl : lv_has ls 3 [(2, .null), (0, .ref o), (1, .int v1)] := hl
          refine lv_ifnullN (tgt := 35) hx hb dX3_spread_27 (by decide) ?_
          refine lv_iinc (v := (v1 + 1)) (lv' := [(1, .int (v1 + 1)), (2, .null), (0, .ref o)]) hx hb dX3_spread_35 hl (k := 2) rfl rfl (by decide) rfl (fun ls hl => ?_)
          refine lv_goto (tgt := 2) hx hb dX3_spread_38 (by decide) ?_
          exact ih o (v1 + 1) _ _ _ _ (lv_sub hl [2, 0] rfl) hW hS h
        | some a8 =>
          replace h := oe_s h
          have hl : lv_has ls 3 [(2, .ref a8), (0, .ref o), (1, .int v1)] := hl
          refine lv_ifnull hx hb dX3_spread_27 ?_
          refine lv_aload_n hx hb dX3_spread_30 rfl (lv_at hl 1 rfl) ?_
          refine lv_aload_n hx hb dX3_spread_31 rfl (lv_at hl 0 rfl) ?_
          replace h := b1_some h
          obtain ⟨q9, gq9, h⟩ := h
          replace h := b2_some h
          obtain ⟨_ur10, s11, gs11, h⟩ := h
          refine z_callVv (rest := []) X hW hS (cX3_addHeldBy_met gs11) kb_X3_addHeldBy kv_X3_addHeldBy kl_X3_43 (it_v gq9).1 kX3 rfl rfl ⟨Nat.le_of_ble_eq_true rfl, Nat.le_of_ble_eq_true rfl⟩ rfl rfl (by decide) hl.1 dX3_spread_32 ⟨(by decide), (by decide)⟩ (fun H locs hW hS => ?_)
          refine lv_iinc (v := (v1 + 1)) (lv' := [(1, .int (v1 + 1)), (2, .ref a8), (0, .ref o)]) hx hb dX3_spread_35 hl (k := 2) rfl rfl (by decide) rfl (fun ls hl => ?_)
          refine lv_goto (tgt := 2) hx hb dX3_spread_38 (by decide) ?_
          exact ih o (v1 + 1) _ _ _ _ (lv_sub hl [2, 0] rfl) hW hS h

def fX3_spread (o : Nat) (h : Hz) : Option (Unit × Hz) := fX3_spread_2 100000 o 0 h
set_option maxHeartbeats 4000000 in
set_option maxRecDepth 100000 in
theorem wX3_spread_0 {r0 : Unit} {h0 : Hz} (X : zX A D cy p s m args c cX3_spread RX3 3) (hlk : meth.locks = false) (hr : meth.sig.returnType = none) (o : Nat) (h : Hz) (H : Heap) (locs : List Loc) (ls : Array Slot) (hl : lv_has ls 3 [(0, .ref o)]) (hW : zW A cy D h H) (hS : va_S A s.heap H locs) (h : fX3_spread o h = some (r0, h0)) : W p l e ({ frames := 3, cells := 0, slots := 0, locals := 65 } : Room) s m args below meth c H locs 0 0 (MQ below (va_Qv (fun u => u = h0) (zB A D cy) A) args s 0 0 A) (F0 m 0 ls []) := by
  obtain ⟨hx, hb, hts, hown, hK9, hml, hN9, hA9⟩ := id X
  unfold fX3_spread at h
  refine lv_iconst (v := 0) hx hb dX3_spread_0 (by decide) ?_
  refine lv_istore_n (lv' := [(1, .int 0), (0, .ref o)]) hx hb dX3_spread_1 rfl hl (by decide) rfl (fun ls hl => ?_)
  exact wX3_spread_2 X hlk hr _ o 0 _ _ _ _ (lv_sub hl [1, 0] rfl) hW hS h

set_option maxHeartbeats 4000000 in
set_option maxRecDepth 100000 in
theorem cX3_spread_met {l : Launch} {A : Nat → Prop} {D : va_G} {cy : Nat → ClassId} {r0 : Unit} {h0 : Hz} {o : Nat} {h : Hz} (g : fX3_spread o h = some (r0, h0)) : Met l yX3_spread (Cond.code yX3_spread cX3_spread 3 none :: wT) ({ frames := 3, cells := 0, slots := 0, locals := 65 } : Room) (va_Pc [.ref o] (zS A D cy h)) (va_Qv (fun u => u = h0) (zB A D cy) A) 0 0 A := by
  refine Met.ofW (cc := cX3_spread) (maxL := 3) (ret := none) (by decide) rfl ?_
  intro p e s m args below meth c s₁ B hml hv
  obtain ⟨rfl, hW, hK, hN, hA⟩ := hv
  have X : zX A D cy p s m _ c cX3_spread RX3 3 := ⟨B.exec, B.bytes, fun w hw => atoms_spec (ws := Cond.code yX3_spread cX3_spread 3 none :: wT) B.pre w (List.mem_cons_of_mem _ hw), findClass_of_methodNamed B.named, hK, hml, hN, hA⟩
  have hl := lv_entry [.ref o] (n := 3) (Nat.le_of_ble_eq_true rfl)
  rw [lg_entry_eq]
  generalize (lg_sl [.ref o] ++ List.replicate (3 - (lg_sl [.ref o]).length) Slot.unset).toArray = ls at hl ⊢
  have hl : lv_has ls 3 [(0, .ref o)] := hl
  exact wX3_spread_0 X B.notSynchronized B.returns o _ _ _ _ (lv_sub hl [0] rfl) hW va_S.rf g

theorem dX4_init_0 : decode cX4_init 0 = .ok (.aload_n 0, 1) := by decide +kernel
theorem dX4_init_1 : decode cX4_init 1 = .ok (.invokespecial 3, 3) := by decide +kernel
theorem dX4_init_4 : decode cX4_init 4 = .ok (.aload_n 0, 1) := by decide +kernel
theorem dX4_init_5 : decode cX4_init 5 = .ok (.iload_n 1, 1) := by decide +kernel
theorem dX4_init_6 : decode cX4_init 6 = .ok (.putfield 9, 3) := by decide +kernel
theorem dX4_init_9 : decode cX4_init 9 = .ok (.aload_n 0, 1) := by decide +kernel
theorem dX4_init_10 : decode cX4_init 10 = .ok (.iconst 0, 1) := by decide +kernel
theorem dX4_init_11 : decode cX4_init 11 = .ok (.iload_n 2, 1) := by decide +kernel
theorem dX4_init_12 : decode cX4_init 12 = .ok (.bipush 32, 2) := by decide +kernel
theorem dX4_init_14 : decode cX4_init 14 = .ok (.invokestatic 15, 3) := by decide +kernel
theorem dX4_init_17 : decode cX4_init 17 = .ok (.invokestatic 21, 3) := by decide +kernel
theorem dX4_init_20 : decode cX4_init 20 = .ok (.newarray .long, 2) := by decide +kernel
theorem dX4_init_22 : decode cX4_init 22 = .ok (.putfield 24, 3) := by decide +kernel
theorem dX4_init_25 : decode cX4_init 25 = .ok (.return_, 1) := by decide +kernel
def fX4_init (o : Nat) (v1 : Int32) (v2 : Int32) (h : Hz) : Option (Unit × Hz) := (b1 (pI 4 0 o v1 h) fun s1 => (b2 (nA 13 32 (if (0 : Int32) < (if (32 : Int32) < v2 then 32 else v2) then (if (32 : Int32) < v2 then 32 else v2) else 0) s1) fun a4 s5 => (b1 (pP 4 1 o (some a4) s5) fun s6 => some ((), s6))))
set_option maxHeartbeats 4000000 in
set_option maxRecDepth 100000 in
theorem wX4_init_0 {r0 : Unit} {h0 : Hz} (X : zX A D cy p s m args c cX4_init RX4 3) (hlk : meth.locks = false) (hr : meth.sig.returnType = none) (hin : meth.name = "<init>") (o : Nat) (v1 : Int32) (v2 : Int32) (h : Hz) (H : Heap) (locs : List Loc) (ls : Array Slot) (hl : lv_has ls 3 [(0, .ref o), (1, .int v1), (2, .int v2)]) (hW : zW A cy D h H) (hS : va_S A s.heap H locs) (h : fX4_init o v1 v2 h = some (r0, h0)) : W p l e ({ frames := 1, cells := 1, slots := 32, locals := 15 } : Room) s m args below meth c H locs 0 0 (MQ below (va_Qv (fun u => u = h0) (zB A D cy) A) args s 1 32 A) (F0 m 0 ls []) := by
  obtain ⟨hx, hb, hts, hown, hK9, hml, hN9, hA9⟩ := id X
  unfold fX4_init at h
  refine lv_aload_n hx hb dX4_init_0 rfl (lv_at hl 0 rfl) ?_
  refine W.objInit hx hb hown (hts _ kl_X4_3) (hts _ km_objectInit) (hts _ kco) rfl (by rw [hml]; exact hl.1) rfl dX4_init_1 (Nat.le_of_ble_eq_true rfl) (Nat.le_of_ble_eq_true rfl) ?_
  refine W.eq (g2 := F0 m 4 ls []) rfl ?_
  refine lv_aload_n hx hb dX4_init_4 rfl (lv_at hl 0 rfl) ?_
  refine lv_iload_n hx hb dX4_init_5 rfl (lv_at hl 1 rfl) ?_
  replace h := b1_some h
  obtain ⟨s1, gs1, h⟩ := h
  refine z_putI X hW hS gs1 kX4 (by decide) (by decide) rfl (Or.inr ⟨rfl, hin, rfl⟩) kf_X4_9 dX4_init_6 (fun H locs hW hS => ?_)
  refine lv_aload_n hx hb dX4_init_9 rfl (lv_at hl 0 rfl) ?_
  refine lv_iconst (v := 0) hx hb dX4_init_10 (by decide) ?_
  refine lv_iload_n hx hb dX4_init_11 rfl (lv_at hl 2 rfl) ?_
  refine lv_bipush (v := 32) hx hb dX4_init_12 (by decide) ?_
  refine va_mmin hx hb (hml.trans hl.1.symm) hown (hts _ kl_X4_15) (hts _ ks_J9_min_7cf53) (hts _ ki_9) (hts _ kq_J9_min_7cf53) (Nat.le_of_ble_eq_true rfl) (Nat.le_of_ble_eq_true rfl) (by decide) (by decide) dX4_init_14 ?_
  refine va_mmax hx hb (hml.trans hl.1.symm) hown (hts _ kl_X4_21) (hts _ ks_J9_max_7cf53) (hts _ ki_9) (hts _ kq_J9_max_7cf53) (Nat.le_of_ble_eq_true rfl) (Nat.le_of_ble_eq_true rfl) (by decide) (by decide) dX4_init_17 ?_
  replace h := b2_some h
  obtain ⟨a4, s5, ga4, h⟩ := h
  refine z_newN (ty := .int) X hW hS ga4 (Or.inr (Or.inl ⟨rfl, rfl⟩)) kp_long (by decide) dX4_init_20 (by decide) (by decide) (fun H hW hS => ?_)
  replace h := b1_some h
  obtain ⟨s6, gs6, h⟩ := h
  refine z_putP X hW hS gs6 kX4 (by decide) (by decide) (Or.inr ⟨_, rfl⟩) (Or.inr ⟨rfl, hin, rfl⟩) kf_X4_24 dX4_init_22 (fun H locs hW hS => ?_)
  exact z_etv X hlk hr hW hS h (by decide) (by decide) dX4_init_25

set_option maxHeartbeats 4000000 in
set_option maxRecDepth 100000 in
theorem cX4_init_met {l : Launch} {A : Nat → Prop} {D : va_G} {cy : Nat → ClassId} {r0 : Unit} {h0 : Hz} {o : Nat} {v1 : Int32} {v2 : Int32} {h : Hz} (g : fX4_init o v1 v2 h = some (r0, h0)) : Met l yX4_init (Cond.code yX4_init cX4_init 3 none :: wT) ({ frames := 1, cells := 1, slots := 32, locals := 15 } : Room) (va_Pc [.ref o, .int v1, .int v2] (zS A D cy h)) (va_Qv (fun u => u = h0) (zB A D cy) A) 1 32 A := by
  refine Met.ofW (cc := cX4_init) (maxL := 3) (ret := none) (by decide) rfl ?_
  intro p e s m args below meth c s₁ B hml hv
  obtain ⟨rfl, hW, hK, hN, hA⟩ := hv
  have X : zX A D cy p s m _ c cX4_init RX4 3 := ⟨B.exec, B.bytes, fun w hw => atoms_spec (ws := Cond.code yX4_init cX4_init 3 none :: wT) B.pre w (List.mem_cons_of_mem _ hw), findClass_of_methodNamed B.named, hK, hml, hN, hA⟩
  have hin : meth.name = "<init>" := (name_of_methodNamed B.named B.method).1
  have hl := lv_entry [.ref o, .int v1, .int v2] (n := 3) (Nat.le_of_ble_eq_true rfl)
  rw [lg_entry_eq]
  generalize (lg_sl [.ref o, .int v1, .int v2] ++ List.replicate (3 - (lg_sl [.ref o, .int v1, .int v2]).length) Slot.unset).toArray = ls at hl ⊢
  have hl : lv_has ls 3 [(0, .ref o), (1, .int v1), (2, .int v2)] := hl
  exact wX4_init_0 X B.notSynchronized B.returns hin o v1 v2 _ _ _ _ (lv_sub hl [0, 1, 2] rfl) hW va_S.rf g

theorem dX4_hasElement_0 : decode cX4_hasElement 0 = .ok (.iload_n 1, 1) := by decide +kernel
theorem dX4_hasElement_1 : decode cX4_hasElement 1 = .ok (.ifCond .lt 16, 3) := by decide +kernel
theorem dX4_hasElement_4 : decode cX4_hasElement 4 = .ok (.iload_n 1, 1) := by decide +kernel
theorem dX4_hasElement_5 : decode cX4_hasElement 5 = .ok (.aload_n 0, 1) := by decide +kernel
theorem dX4_hasElement_6 : decode cX4_hasElement 6 = .ok (.getfield 24, 3) := by decide +kernel
theorem dX4_hasElement_9 : decode cX4_hasElement 9 = .ok (.arraylength, 1) := by decide +kernel
theorem dX4_hasElement_10 : decode cX4_hasElement 10 = .ok (.if_icmp .ge 7, 3) := by decide +kernel
theorem dX4_hasElement_13 : decode cX4_hasElement 13 = .ok (.iconst 1, 1) := by decide +kernel
theorem dX4_hasElement_14 : decode cX4_hasElement 14 = .ok (.goto 4, 3) := by decide +kernel
theorem dX4_hasElement_17 : decode cX4_hasElement 17 = .ok (.iconst 0, 1) := by decide +kernel
theorem dX4_hasElement_18 : decode cX4_hasElement 18 = .ok (.ireturn, 1) := by decide +kernel
def fX4_hasElement (o : Nat) (v1 : Int32) (h : Hz) : Option (Int32 × Hz) := (if v1 < 0 then rz 0 h else (b1 (gA 4 1 o h) fun a2 => (b1 (xN 13 a2 h) fun x3 => (if x3 ≤ v1 then rz 0 h else rz 1 h))))
set_option maxHeartbeats 4000000 in
set_option maxRecDepth 100000 in
theorem wX4_hasElement_0 {r0 : Int32} {h0 : Hz} (X : zX A D cy p s m args c cX4_hasElement RX4 2) (hlk : meth.locks = false) (hr : meth.sig.returnType = (some .boolean)) (o : Nat) (v1 : Int32) (h : Hz) (H : Heap) (locs : List Loc) (ls : Array Slot) (hl : lv_has ls 2 [(0, .ref o), (1, .int v1)]) (hW : zW A cy D h H) (hS : va_S A s.heap H locs) (h : fX4_hasElement o v1 h = some (r0, h0)) : W p l e ({ frames := 0, cells := 0, slots := 0, locals := 0 } : Room) s m args below meth c H locs 0 0 (MQ below (va_Qi (fun r1 u => r1 = r0 ∧ u = h0) (zB A D cy) A) args s 0 0 A) (F0 m 0 ls []) := by
  obtain ⟨hx, hb, hts, hown, hK9, hml, hN9, hA9⟩ := id X
  unfold fX4_hasElement at h
  refine lv_iload_n hx hb dX4_hasElement_0 rfl (lv_at hl 1 rfl) ?_
  refine lv_if_lt (tgt := 17) hx hb dX4_hasElement_1 (by decide) (fun c1 => ?_) (fun c1 => ?_)
  · replace h := it_t h c1
    refine lv_iconst (v := 0) hx hb dX4_hasElement_17 (by decide) ?_
    exact z_etz X hlk hr hW hS h (by decide) (by decide) dX4_hasElement_18
  · replace h := it_f h c1
    refine lv_iload_n hx hb dX4_hasElement_4 rfl (lv_at hl 1 rfl) ?_
    refine lv_aload_n hx hb dX4_hasElement_5 rfl (lv_at hl 0 rfl) ?_
    replace h := b1_some h
    obtain ⟨a2, ga2, h⟩ := h
    refine z_getA X hW ga2 kX4 (by decide) (by decide) kf_X4_24 dX4_hasElement_6 ?_
    replace h := b1_some h
    obtain ⟨x3, gx3, h⟩ := h
    refine z_alenL X hW gx3 dX4_hasElement_9 ?_
    refine lv_icmp_ge (tgt := 17) hx hb dX4_hasElement_10 (by decide) (fun c4 => ?_) (fun c4 => ?_)
    · replace h := it_t h c4
      refine lv_iconst (v := 0) hx hb dX4_hasElement_17 (by decide) ?_
      exact z_etz X hlk hr hW hS h (by decide) (by decide) dX4_hasElement_18
    · replace h := it_f h c4
      refine lv_iconst (v := 1) hx hb dX4_hasElement_13 (by decide) ?_
      refine lv_goto (tgt := 18) hx hb dX4_hasElement_14 (by decide) ?_
      exact z_etz X hlk hr hW hS h (by decide) (by decide) dX4_hasElement_18

set_option maxHeartbeats 4000000 in
set_option maxRecDepth 100000 in
theorem cX4_hasElement_met {l : Launch} {A : Nat → Prop} {D : va_G} {cy : Nat → ClassId} {r0 : Int32} {h0 : Hz} {o : Nat} {v1 : Int32} {h : Hz} (g : fX4_hasElement o v1 h = some (r0, h0)) : Met l yX4_hasElement (Cond.code yX4_hasElement cX4_hasElement 2 (some .boolean) :: wT) ({ frames := 0, cells := 0, slots := 0, locals := 0 } : Room) (va_Pc [.ref o, .int v1] (zS A D cy h)) (va_Qi (fun r1 u => r1 = r0 ∧ u = h0) (zB A D cy) A) 0 0 A := by
  refine Met.ofW (cc := cX4_hasElement) (maxL := 2) (ret := (some .boolean)) (by decide) rfl ?_
  intro p e s m args below meth c s₁ B hml hv
  obtain ⟨rfl, hW, hK, hN, hA⟩ := hv
  have X : zX A D cy p s m _ c cX4_hasElement RX4 2 := ⟨B.exec, B.bytes, fun w hw => atoms_spec (ws := Cond.code yX4_hasElement cX4_hasElement 2 (some .boolean) :: wT) B.pre w (List.mem_cons_of_mem _ hw), findClass_of_methodNamed B.named, hK, hml, hN, hA⟩
  have hl := lv_entry [.ref o, .int v1] (n := 2) (Nat.le_of_ble_eq_true rfl)
  rw [lg_entry_eq]
  generalize (lg_sl [.ref o, .int v1] ++ List.replicate (2 - (lg_sl [.ref o, .int v1]).length) Slot.unset).toArray = ls at hl ⊢
  have hl : lv_has ls 2 [(0, .ref o), (1, .int v1)] := hl
  exact wX4_hasElement_0 X B.notSynchronized B.returns o v1 _ _ _ _ (lv_sub hl [0, 1] rfl) hW va_S.rf g

theorem dX4_read_0 : decode cX4_read 0 = .ok (.aload_n 0, 1) := by decide +kernel
theorem dX4_read_1 : decode cX4_read 1 = .ok (.iload_n 1, 1) := by decide +kernel
theorem dX4_read_2 : decode cX4_read 2 = .ok (.invokevirtual 28, 3) := by decide +kernel
theorem dX4_read_5 : decode cX4_read 5 = .ok (.ifCond .eq 12, 3) := by decide +kernel
theorem dX4_read_8 : decode cX4_read 8 = .ok (.aload_n 0, 1) := by decide +kernel
theorem dX4_read_9 : decode cX4_read 9 = .ok (.getfield 24, 3) := by decide +kernel
theorem dX4_read_12 : decode cX4_read 12 = .ok (.iload_n 1, 1) := by decide +kernel
theorem dX4_read_13 : decode cX4_read 13 = .ok (.laload, 1) := by decide +kernel
theorem dX4_read_14 : decode cX4_read 14 = .ok (.goto 4, 3) := by decide +kernel
theorem dX4_read_17 : decode cX4_read 17 = .ok (.lconst 0, 1) := by decide +kernel
theorem dX4_read_18 : decode cX4_read 18 = .ok (.lreturn, 1) := by decide +kernel
def fX4_read (o : Nat) (v1 : Int32) (h : Hz) : Option (Int64 × Hz) := (b1 (tg 4 o h) fun _ => (b2 (fX4_hasElement o v1 h) fun x2 s3 => (if x2 = 0 then some (0, s3) else (b1 (gA 4 1 o s3) fun a5 => (b1 (xL a5 v1 s3) fun x6 => some (x6, s3))))))
set_option maxHeartbeats 4000000 in
set_option maxRecDepth 100000 in
theorem wX4_read_0 {r0 : Int64} {h0 : Hz} (X : zX A D cy p s m args c cX4_read RX4 2) (hlk : meth.locks = false) (hr : meth.sig.returnType = (some .long)) (o : Nat) (v1 : Int32) (h : Hz) (H : Heap) (locs : List Loc) (ls : Array Slot) (hl : lv_has ls 2 [(0, .ref o), (1, .int v1)]) (hW : zW A cy D h H) (hS : va_S A s.heap H locs) (h : fX4_read o v1 h = some (r0, h0)) : W p l e ({ frames := 1, cells := 0, slots := 0, locals := 21 } : Room) s m args below meth c H locs 0 0 (MQ below (va_Ql (fun r1 u => r1 = r0 ∧ u = h0) (zB A D cy) A) args s 0 0 A) (F0 m 0 ls []) := by
  obtain ⟨hx, hb, hts, hown, hK9, hml, hN9, hA9⟩ := id X
  unfold fX4_read at h
  refine lv_aload_n hx hb dX4_read_0 rfl (lv_at hl 0 rfl) ?_
  refine lv_iload_n hx hb dX4_read_1 rfl (lv_at hl 1 rfl) ?_
  replace h := b1_some h
  obtain ⟨q1, gq1, h⟩ := h
  replace h := b2_some h
  obtain ⟨x2, s3, gs3, h⟩ := h
  refine z_callVi (rest := []) X hW hS (cX4_hasElement_met gs3) kb_X4_hasElement kv_X4_hasElement kl_X4_28 (it_v gq1).1 kX4 rfl rfl ⟨Nat.le_of_ble_eq_true rfl, Nat.le_of_ble_eq_true rfl⟩ rfl rfl (by decide) hl.1 dX4_read_2 ⟨(by decide), (by decide)⟩ (fun H locs hW hS => ?_)
  refine lv_if_eq (tgt := 17) hx hb dX4_read_5 (by decide) (fun c4 => ?_) (fun c4 => ?_)
  · replace h := it_t h c4
    refine lv_lconst (v := 0) hx hb dX4_read_17 (by decide) ?_
    exact z_etl X hlk hr hW hS h (by decide) (by decide) dX4_read_18
  · replace h := it_f h c4
    refine lv_aload_n hx hb dX4_read_8 rfl (lv_at hl 0 rfl) ?_
    replace h := b1_some h
    obtain ⟨a5, ga5, h⟩ := h
    refine z_getA X hW ga5 kX4 (by decide) (by decide) kf_X4_24 dX4_read_9 ?_
    refine lv_iload_n hx hb dX4_read_12 rfl (lv_at hl 1 rfl) ?_
    replace h := b1_some h
    obtain ⟨x6, gx6, h⟩ := h
    refine z_aldL X hW gx6 dX4_read_13 ?_
    refine lv_goto (tgt := 18) hx hb dX4_read_14 (by decide) ?_
    exact z_etl X hlk hr hW hS h (by decide) (by decide) dX4_read_18

set_option maxHeartbeats 4000000 in
set_option maxRecDepth 100000 in
theorem cX4_read_met {l : Launch} {A : Nat → Prop} {D : va_G} {cy : Nat → ClassId} {r0 : Int64} {h0 : Hz} {o : Nat} {v1 : Int32} {h : Hz} (g : fX4_read o v1 h = some (r0, h0)) : Met l yX4_read (Cond.code yX4_read cX4_read 2 (some .long) :: wT) ({ frames := 1, cells := 0, slots := 0, locals := 21 } : Room) (va_Pc [.ref o, .int v1] (zS A D cy h)) (va_Ql (fun r1 u => r1 = r0 ∧ u = h0) (zB A D cy) A) 0 0 A := by
  refine Met.ofW (cc := cX4_read) (maxL := 2) (ret := (some .long)) (by decide) rfl ?_
  intro p e s m args below meth c s₁ B hml hv
  obtain ⟨rfl, hW, hK, hN, hA⟩ := hv
  have X : zX A D cy p s m _ c cX4_read RX4 2 := ⟨B.exec, B.bytes, fun w hw => atoms_spec (ws := Cond.code yX4_read cX4_read 2 (some .long) :: wT) B.pre w (List.mem_cons_of_mem _ hw), findClass_of_methodNamed B.named, hK, hml, hN, hA⟩
  have hl := lv_entry [.ref o, .int v1] (n := 2) (Nat.le_of_ble_eq_true rfl)
  rw [lg_entry_eq]
  generalize (lg_sl [.ref o, .int v1] ++ List.replicate (2 - (lg_sl [.ref o, .int v1]).length) Slot.unset).toArray = ls at hl ⊢
  have hl : lv_has ls 2 [(0, .ref o), (1, .int v1)] := hl
  exact wX4_read_0 X B.notSynchronized B.returns o v1 _ _ _ _ (lv_sub hl [0, 1] rfl) hW va_S.rf g

theorem dX4_cut_0 : decode cX4_cut 0 = .ok (.aload_n 0, 1) := by decide +kernel
theorem dX4_cut_1 : decode cX4_cut 1 = .ok (.getfield 9, 3) := by decide +kernel
theorem dX4_cut_4 : decode cX4_cut 4 = .ok (.tableswitch 42 0 2 #[28, 33, 38], 28) := by decide +kernel
theorem dX4_cut_32 : decode cX4_cut 32 = .ok (.lload_n 1, 1) := by decide +kernel
theorem dX4_cut_33 : decode cX4_cut 33 = .ok (.l2i, 1) := by decide +kernel
theorem dX4_cut_34 : decode cX4_cut 34 = .ok (.i2b, 1) := by decide +kernel
theorem dX4_cut_35 : decode cX4_cut 35 = .ok (.i2l, 1) := by decide +kernel
theorem dX4_cut_36 : decode cX4_cut 36 = .ok (.lreturn, 1) := by decide +kernel
theorem dX4_cut_37 : decode cX4_cut 37 = .ok (.lload_n 1, 1) := by decide +kernel
theorem dX4_cut_38 : decode cX4_cut 38 = .ok (.l2i, 1) := by decide +kernel
theorem dX4_cut_39 : decode cX4_cut 39 = .ok (.i2s, 1) := by decide +kernel
theorem dX4_cut_40 : decode cX4_cut 40 = .ok (.i2l, 1) := by decide +kernel
theorem dX4_cut_41 : decode cX4_cut 41 = .ok (.lreturn, 1) := by decide +kernel
theorem dX4_cut_42 : decode cX4_cut 42 = .ok (.lload_n 1, 1) := by decide +kernel
theorem dX4_cut_43 : decode cX4_cut 43 = .ok (.l2i, 1) := by decide +kernel
theorem dX4_cut_44 : decode cX4_cut 44 = .ok (.i2l, 1) := by decide +kernel
theorem dX4_cut_45 : decode cX4_cut 45 = .ok (.lreturn, 1) := by decide +kernel
theorem dX4_cut_46 : decode cX4_cut 46 = .ok (.lload_n 1, 1) := by decide +kernel
theorem dX4_cut_47 : decode cX4_cut 47 = .ok (.lreturn, 1) := by decide +kernel
def fX4_cut (o : Nat) (v1 : Int64) (h : Hz) : Option (Int64 × Hz) := (b1 (gI 4 0 o h) fun x1 => (if x1 = 0 then some (v1.toInt32.toInt8.toInt32.toInt64, h) else (if x1 = 1 then some (v1.toInt32.toInt16.toInt32.toInt64, h) else (if x1 = 2 then some (v1.toInt32.toInt64, h) else some (v1, h)))))
set_option maxHeartbeats 4000000 in
set_option maxRecDepth 100000 in
theorem wX4_cut_0 {r0 : Int64} {h0 : Hz} (X : zX A D cy p s m args c cX4_cut RX4 3) (hlk : meth.locks = false) (hr : meth.sig.returnType = (some .long)) (o : Nat) (v1 : Int64) (h : Hz) (H : Heap) (locs : List Loc) (ls : Array Slot) (hl : lv_has ls 3 [(0, .ref o), (1, .long v1)]) (hW : zW A cy D h H) (hS : va_S A s.heap H locs) (h : fX4_cut o v1 h = some (r0, h0)) : W p l e ({ frames := 0, cells := 0, slots := 0, locals := 0 } : Room) s m args below meth c H locs 0 0 (MQ below (va_Ql (fun r1 u => r1 = r0 ∧ u = h0) (zB A D cy) A) args s 0 0 A) (F0 m 0 ls []) := by
  obtain ⟨hx, hb, hts, hown, hK9, hml, hN9, hA9⟩ := id X
  unfold fX4_cut at h
  refine lv_aload_n hx hb dX4_cut_0 rfl (lv_at hl 0 rfl) ?_
  replace h := b1_some h
  obtain ⟨x1, gx1, h⟩ := h
  refine z_getI X hW gx1 kX4 (by decide) (by decide) kf_X4_9 dX4_cut_1 ?_
  by_cases c2 : x1 = 0
  · replace h := it_t h c2
    refine lv_tableIn (off := 28) (tgt := 32) hx hb dX4_cut_4 (by rw [c2]; decide) (by rw [c2]; decide) (by rw [c2]; rfl) (by decide) ?_
    refine lv_lload_n hx hb dX4_cut_32 rfl (lv_at hl 1 rfl) ?_
    refine lv_l2i (v := v1.toInt32) hx hb dX4_cut_33 rfl ?_
    refine lv_i2b (v := v1.toInt32.toInt8.toInt32) hx hb dX4_cut_34 rfl ?_
    refine lv_i2l (v := v1.toInt32.toInt8.toInt32.toInt64) hx hb dX4_cut_35 rfl ?_
    exact z_etl X hlk hr hW hS h (by decide) (by decide) dX4_cut_36
  · replace h := it_f h c2
    by_cases c3 : x1 = 1
    · replace h := it_t h c3
      refine lv_tableIn (off := 33) (tgt := 37) hx hb dX4_cut_4 (by rw [c3]; decide) (by rw [c3]; decide) (by rw [c3]; rfl) (by decide) ?_
      refine lv_lload_n hx hb dX4_cut_37 rfl (lv_at hl 1 rfl) ?_
      refine lv_l2i (v := v1.toInt32) hx hb dX4_cut_38 rfl ?_
      refine lv_i2s (v := v1.toInt32.toInt16.toInt32) hx hb dX4_cut_39 rfl ?_
      refine lv_i2l (v := v1.toInt32.toInt16.toInt32.toInt64) hx hb dX4_cut_40 rfl ?_
      exact z_etl X hlk hr hW hS h (by decide) (by decide) dX4_cut_41
    · replace h := it_f h c3
      by_cases c4 : x1 = 2
      · replace h := it_t h c4
        refine lv_tableIn (off := 38) (tgt := 42) hx hb dX4_cut_4 (by rw [c4]; decide) (by rw [c4]; decide) (by rw [c4]; rfl) (by decide) ?_
        refine lv_lload_n hx hb dX4_cut_42 rfl (lv_at hl 1 rfl) ?_
        refine lv_l2i (v := v1.toInt32) hx hb dX4_cut_43 rfl ?_
        refine lv_i2l (v := v1.toInt32.toInt64) hx hb dX4_cut_44 rfl ?_
        exact z_etl X hlk hr hW hS h (by decide) (by decide) dX4_cut_45
      · replace h := it_f h c4
        have nc2 := lv_neT c2 (a := 0) rfl
        have nc3 := lv_neT c3 (a := 1) rfl
        have nc4 := lv_neT c4 (a := 2) rfl
        refine lv_tableOut (tgt := 46) hx hb dX4_cut_4 (by omega) (by decide) ?_
        refine lv_lload_n hx hb dX4_cut_46 rfl (lv_at hl 1 rfl) ?_
        exact z_etl X hlk hr hW hS h (by decide) (by decide) dX4_cut_47

set_option maxHeartbeats 4000000 in
set_option maxRecDepth 100000 in
theorem cX4_cut_met {l : Launch} {A : Nat → Prop} {D : va_G} {cy : Nat → ClassId} {r0 : Int64} {h0 : Hz} {o : Nat} {v1 : Int64} {h : Hz} (g : fX4_cut o v1 h = some (r0, h0)) : Met l yX4_cut (Cond.code yX4_cut cX4_cut 3 (some .long) :: wT) ({ frames := 0, cells := 0, slots := 0, locals := 0 } : Room) (va_Pc [.ref o, .long v1] (zS A D cy h)) (va_Ql (fun r1 u => r1 = r0 ∧ u = h0) (zB A D cy) A) 0 0 A := by
  refine Met.ofW (cc := cX4_cut) (maxL := 3) (ret := (some .long)) (by decide) rfl ?_
  intro p e s m args below meth c s₁ B hml hv
  obtain ⟨rfl, hW, hK, hN, hA⟩ := hv
  have X : zX A D cy p s m _ c cX4_cut RX4 3 := ⟨B.exec, B.bytes, fun w hw => atoms_spec (ws := Cond.code yX4_cut cX4_cut 3 (some .long) :: wT) B.pre w (List.mem_cons_of_mem _ hw), findClass_of_methodNamed B.named, hK, hml, hN, hA⟩
  have hl := lv_entry [.ref o, .long v1] (n := 3) (Nat.le_of_ble_eq_true rfl)
  rw [lg_entry_eq]
  generalize (lg_sl [.ref o, .long v1] ++ List.replicate (3 - (lg_sl [.ref o, .long v1]).length) Slot.unset).toArray = ls at hl ⊢
  have hl : lv_has ls 3 [(0, .ref o), (1, .long v1)] := hl
  exact wX4_cut_0 X B.notSynchronized B.returns o v1 _ _ _ _ (lv_sub hl [0, 1] rfl) hW va_S.rf g

theorem dX4_write_0 : decode cX4_write 0 = .ok (.aload_n 0, 1) := by decide +kernel
theorem dX4_write_1 : decode cX4_write 1 = .ok (.iload_n 1, 1) := by decide +kernel
theorem dX4_write_2 : decode cX4_write 2 = .ok (.invokevirtual 28, 3) := by decide +kernel
theorem dX4_write_5 : decode cX4_write 5 = .ok (.ifCond .eq 14, 3) := by decide +kernel
theorem dX4_write_8 : decode cX4_write 8 = .ok (.aload_n 0, 1) := by decide +kernel
theorem dX4_write_9 : decode cX4_write 9 = .ok (.getfield 24, 3) := by decide +kernel
theorem dX4_write_12 : decode cX4_write 12 = .ok (.iload_n 1, 1) := by decide +kernel
theorem dX4_write_13 : decode cX4_write 13 = .ok (.aload_n 0, 1) := by decide +kernel
theorem dX4_write_14 : decode cX4_write 14 = .ok (.lload_n 2, 1) := by decide +kernel
theorem dX4_write_15 : decode cX4_write 15 = .ok (.invokevirtual 32, 3) := by decide +kernel
theorem dX4_write_18 : decode cX4_write 18 = .ok (.lastore, 1) := by decide +kernel
theorem dX4_write_19 : decode cX4_write 19 = .ok (.return_, 1) := by decide +kernel
def fX4_write (o : Nat) (v1 : Int32) (v2 : Int64) (h : Hz) : Option (Unit × Hz) := (b1 (tg 4 o h) fun _ => (b2 (fX4_hasElement o v1 h) fun x2 s3 => (if x2 = 0 then some ((), s3) else (b1 (gA 4 1 o s3) fun a5 => (b1 (tg 4 o s3) fun _ => (b2 (fX4_cut o v2 s3) fun x7 s8 => (b1 (yL a5 v1 x7 s8) fun s9 => some ((), s9))))))))
set_option maxHeartbeats 4000000 in
set_option maxRecDepth 100000 in
theorem wX4_write_0 {r0 : Unit} {h0 : Hz} (X : zX A D cy p s m args c cX4_write RX4 4) (hlk : meth.locks = false) (hr : meth.sig.returnType = none) (o : Nat) (v1 : Int32) (v2 : Int64) (h : Hz) (H : Heap) (locs : List Loc) (ls : Array Slot) (hl : lv_has ls 4 [(0, .ref o), (1, .int v1), (2, .long v2)]) (hW : zW A cy D h H) (hS : va_S A s.heap H locs) (h : fX4_write o v1 v2 h = some (r0, h0)) : W p l e ({ frames := 1, cells := 0, slots := 0, locals := 22 } : Room) s m args below meth c H locs 0 0 (MQ below (va_Qv (fun u => u = h0) (zB A D cy) A) args s 0 0 A) (F0 m 0 ls []) := by
  obtain ⟨hx, hb, hts, hown, hK9, hml, hN9, hA9⟩ := id X
  unfold fX4_write at h
  refine lv_aload_n hx hb dX4_write_0 rfl (lv_at hl 0 rfl) ?_
  refine lv_iload_n hx hb dX4_write_1 rfl (lv_at hl 1 rfl) ?_
  replace h := b1_some h
  obtain ⟨q1, gq1, h⟩ := h
  replace h := b2_some h
  obtain ⟨x2, s3, gs3, h⟩ := h
  refine z_callVi (rest := []) X hW hS (cX4_hasElement_met gs3) kb_X4_hasElement kv_X4_hasElement kl_X4_28 (it_v gq1).1 kX4 rfl rfl ⟨Nat.le_of_ble_eq_true rfl, Nat.le_of_ble_eq_true rfl⟩ rfl rfl (by decide) hl.1 dX4_write_2 ⟨(by decide), (by decide)⟩ (fun H locs hW hS => ?_)
  refine lv_if_eq (tgt := 19) hx hb dX4_write_5 (by decide) (fun c4 => ?_) (fun c4 => ?_)
  · replace h := it_t h c4
    exact z_etv X hlk hr hW hS h (by decide) (by decide) dX4_write_19
  · replace h := it_f h c4
    refine lv_aload_n hx hb dX4_write_8 rfl (lv_at hl 0 rfl) ?_
    replace h := b1_some h
    obtain ⟨a5, ga5, h⟩ := h
    refine z_getA X hW ga5 kX4 (by decide) (by decide) kf_X4_24 dX4_write_9 ?_
    refine lv_iload_n hx hb dX4_write_12 rfl (lv_at hl 1 rfl) ?_
    refine lv_aload_n hx hb dX4_write_13 rfl (lv_at hl 0 rfl) ?_
    refine lv_lload_n hx hb dX4_write_14 rfl (lv_at hl 2 rfl) ?_
    replace h := b1_some h
    obtain ⟨q6, gq6, h⟩ := h
    replace h := b2_some h
    obtain ⟨x7, s8, gs8, h⟩ := h
    refine z_callVl (rest := [.int v1, .ref a5]) X hW hS (cX4_cut_met gs8) kb_X4_cut kv_X4_cut kl_X4_32 (it_v gq6).1 kX4 rfl rfl ⟨Nat.le_of_ble_eq_true rfl, Nat.le_of_ble_eq_true rfl⟩ rfl rfl (Nat.le_of_ble_eq_true rfl) hl.1 dX4_write_15 ⟨(by decide), (by decide)⟩ (fun H locs hW hS => ?_)
    replace h := b1_some h
    obtain ⟨s9, gs9, h⟩ := h
    refine z_astL X hW hS gs9 dX4_write_18 (fun H locs hW hS => ?_)
    exact z_etv X hlk hr hW hS h (by decide) (by decide) dX4_write_19

set_option maxHeartbeats 4000000 in
set_option maxRecDepth 100000 in
theorem cX4_write_met {l : Launch} {A : Nat → Prop} {D : va_G} {cy : Nat → ClassId} {r0 : Unit} {h0 : Hz} {o : Nat} {v1 : Int32} {v2 : Int64} {h : Hz} (g : fX4_write o v1 v2 h = some (r0, h0)) : Met l yX4_write (Cond.code yX4_write cX4_write 4 none :: wT) ({ frames := 1, cells := 0, slots := 0, locals := 22 } : Room) (va_Pc [.ref o, .int v1, .long v2] (zS A D cy h)) (va_Qv (fun u => u = h0) (zB A D cy) A) 0 0 A := by
  refine Met.ofW (cc := cX4_write) (maxL := 4) (ret := none) (by decide) rfl ?_
  intro p e s m args below meth c s₁ B hml hv
  obtain ⟨rfl, hW, hK, hN, hA⟩ := hv
  have X : zX A D cy p s m _ c cX4_write RX4 4 := ⟨B.exec, B.bytes, fun w hw => atoms_spec (ws := Cond.code yX4_write cX4_write 4 none :: wT) B.pre w (List.mem_cons_of_mem _ hw), findClass_of_methodNamed B.named, hK, hml, hN, hA⟩
  have hl := lv_entry [.ref o, .int v1, .long v2] (n := 4) (Nat.le_of_ble_eq_true rfl)
  rw [lg_entry_eq]
  generalize (lg_sl [.ref o, .int v1, .long v2] ++ List.replicate (4 - (lg_sl [.ref o, .int v1, .long v2]).length) Slot.unset).toArray = ls at hl ⊢
  have hl : lv_has ls 4 [(0, .ref o), (1, .int v1), (2, .long v2)] := hl
  exact wX4_write_0 X B.notSynchronized B.returns o v1 v2 _ _ _ _ (lv_sub hl [0, 1, 2] rfl) hW va_S.rf g

theorem dX4_canTake_0 : decode cX4_canTake 0 = .ok (.iload_n 2, 1) := by decide +kernel
theorem dX4_canTake_1 : decode cX4_canTake 1 = .ok (.ifCond .lt 7, 3) := by decide +kernel
theorem dX4_canTake_4 : decode cX4_canTake 4 = .ok (.iload_n 3, 1) := by decide +kernel
theorem dX4_canTake_5 : decode cX4_canTake 5 = .ok (.ifCond .ge 5, 3) := by decide +kernel
theorem dX4_canTake_8 : decode cX4_canTake 8 = .ok (.iconst 0, 1) := by decide +kernel
theorem dX4_canTake_9 : decode cX4_canTake 9 = .ok (.ireturn, 1) := by decide +kernel
theorem dX4_canTake_10 : decode cX4_canTake 10 = .ok (.iload_n 2, 1) := by decide +kernel
theorem dX4_canTake_11 : decode cX4_canTake 11 = .ok (.i2l, 1) := by decide +kernel
theorem dX4_canTake_12 : decode cX4_canTake 12 = .ok (.iload_n 3, 1) := by decide +kernel
theorem dX4_canTake_13 : decode cX4_canTake 13 = .ok (.i2l, 1) := by decide +kernel
theorem dX4_canTake_14 : decode cX4_canTake 14 = .ok (.ladd, 1) := by decide +kernel
theorem dX4_canTake_15 : decode cX4_canTake 15 = .ok (.aload_n 1, 1) := by decide +kernel
theorem dX4_canTake_16 : decode cX4_canTake 16 = .ok (.getfield 24, 3) := by decide +kernel
theorem dX4_canTake_19 : decode cX4_canTake 19 = .ok (.arraylength, 1) := by decide +kernel
theorem dX4_canTake_20 : decode cX4_canTake 20 = .ok (.i2l, 1) := by decide +kernel
theorem dX4_canTake_21 : decode cX4_canTake 21 = .ok (.lcmp, 1) := by decide +kernel
theorem dX4_canTake_22 : decode cX4_canTake 22 = .ok (.ifCond .gt 16, 3) := by decide +kernel
theorem dX4_canTake_25 : decode cX4_canTake 25 = .ok (.iload_n 3, 1) := by decide +kernel
theorem dX4_canTake_26 : decode cX4_canTake 26 = .ok (.aload_n 0, 1) := by decide +kernel
theorem dX4_canTake_27 : decode cX4_canTake 27 = .ok (.getfield 24, 3) := by decide +kernel
theorem dX4_canTake_30 : decode cX4_canTake 30 = .ok (.arraylength, 1) := by decide +kernel
theorem dX4_canTake_31 : decode cX4_canTake 31 = .ok (.if_icmp .gt 7, 3) := by decide +kernel
theorem dX4_canTake_34 : decode cX4_canTake 34 = .ok (.iconst 1, 1) := by decide +kernel
theorem dX4_canTake_35 : decode cX4_canTake 35 = .ok (.goto 4, 3) := by decide +kernel
theorem dX4_canTake_38 : decode cX4_canTake 38 = .ok (.iconst 0, 1) := by decide +kernel
theorem dX4_canTake_39 : decode cX4_canTake 39 = .ok (.ireturn, 1) := by decide +kernel
def fX4_canTake (o : Nat) (v1 : Option Nat) (v2 : Int32) (v3 : Int32) (h : Hz) : Option (Int32 × Hz) := (if v2 < 0 then rz 0 h else (if 0 ≤ v3 then b1 v1 fun a3 => (b1 (gA 4 1 a3 h) fun a4 => (b1 (xN 13 a4 h) fun x5 => (if 0 < (lg_cmp (v2.toInt64 + v3.toInt64) x5.toInt64) then rz 0 h else (b1 (gA 4 1 o h) fun a7 => (b1 (xN 13 a7 h) fun x8 => (if x8 < v3 then rz 0 h else rz 1 h)))))) else rz 0 h))
set_option maxHeartbeats 4000000 in
set_option maxRecDepth 100000 in
theorem wX4_canTake_0 {r0 : Int32} {h0 : Hz} (X : zX A D cy p s m args c cX4_canTake RX4 4) (hlk : meth.locks = false) (hr : meth.sig.returnType = (some .boolean)) (o : Nat) (v1 : Option Nat) (v2 : Int32) (v3 : Int32) (h : Hz) (H : Heap) (locs : List Loc) (ls : Array Slot) (hl : lv_has ls 4 [(0, .ref o), (1, va_rf v1), (2, .int v2), (3, .int v3)]) (hW : zW A cy D h H) (hS : va_S A s.heap H locs) (h : fX4_canTake o v1 v2 v3 h = some (r0, h0)) : W p l e ({ frames := 0, cells := 0, slots := 0, locals := 0 } : Room) s m args below meth c H locs 0 0 (MQ below (va_Qi (fun r1 u => r1 = r0 ∧ u = h0) (zB A D cy) A) args s 0 0 A) (F0 m 0 ls []) := by
  obtain ⟨hx, hb, hts, hown, hK9, hml, hN9, hA9⟩ := id X
  unfold fX4_canTake at h
  refine lv_iload_n hx hb dX4_canTake_0 rfl (lv_at hl 2 rfl) ?_
  refine lv_if_lt (tgt := 8) hx hb dX4_canTake_1 (by decide) (fun c1 => ?_) (fun c1 => ?_)
  · replace h := it_t h c1
    refine lv_iconst (v := 0) hx hb dX4_canTake_8 (by decide) ?_
    exact z_etz X hlk hr hW hS h (by decide) (by decide) dX4_canTake_9
  · replace h := it_f h c1
    refine lv_iload_n hx hb dX4_canTake_4 rfl (lv_at hl 3 rfl) ?_
    refine lv_if_ge (tgt := 10) hx hb dX4_canTake_5 (by decide) (fun c2 => ?_) (fun c2 => ?_)
    · replace h := it_t h c2
      refine lv_iload_n hx hb dX4_canTake_10 rfl (lv_at hl 2 rfl) ?_
      refine lv_i2l (v := v2.toInt64) hx hb dX4_canTake_11 rfl ?_
      refine lv_iload_n hx hb dX4_canTake_12 rfl (lv_at hl 3 rfl) ?_
      refine lv_i2l (v := v3.toInt64) hx hb dX4_canTake_13 rfl ?_
      refine lv_ladd hx hb dX4_canTake_14 ?_
      refine z_aload_n hx hb dX4_canTake_15 rfl (lv_at hl 1 rfl) ?_
      replace h := b1_some h
      obtain ⟨a3, ea3, h⟩ := h
      subst ea3
      replace h := b1_some h
      obtain ⟨a4, ga4, h⟩ := h
      refine z_getA X hW ga4 kX4 (by decide) (by decide) kf_X4_24 dX4_canTake_16 ?_
      replace h := b1_some h
      obtain ⟨x5, gx5, h⟩ := h
      refine z_alenL X hW gx5 dX4_canTake_19 ?_
      refine lv_i2l (v := x5.toInt64) hx hb dX4_canTake_20 rfl ?_
      refine W.lcmp hx hb dX4_canTake_21 ?_
      refine lv_if_gt (tgt := 38) hx hb dX4_canTake_22 (by decide) (fun c6 => ?_) (fun c6 => ?_)
      · replace h := it_t h c6
        refine lv_iconst (v := 0) hx hb dX4_canTake_38 (by decide) ?_
        exact z_etz X hlk hr hW hS h (by decide) (by decide) dX4_canTake_39
      · replace h := it_f h c6
        refine lv_iload_n hx hb dX4_canTake_25 rfl (lv_at hl 3 rfl) ?_
        refine lv_aload_n hx hb dX4_canTake_26 rfl (lv_at hl 0 rfl) ?_
        replace h := b1_some h
        obtain ⟨a7, ga7, h⟩ := h
        refine z_getA X hW ga7 kX4 (by decide) (by decide) kf_X4_24 dX4_canTake_27 ?_
        replace h := b1_some h
        obtain ⟨x8, gx8, h⟩ := h
        refine z_alenL X hW gx8 dX4_canTake_30 ?_
        refine lv_icmp_gt (tgt := 38) hx hb dX4_canTake_31 (by decide) (fun c9 => ?_) (fun c9 => ?_)
        · replace h := it_t h c9
          refine lv_iconst (v := 0) hx hb dX4_canTake_38 (by decide) ?_
          exact z_etz X hlk hr hW hS h (by decide) (by decide) dX4_canTake_39
        · replace h := it_f h c9
          refine lv_iconst (v := 1) hx hb dX4_canTake_34 (by decide) ?_
          refine lv_goto (tgt := 39) hx hb dX4_canTake_35 (by decide) ?_
          exact z_etz X hlk hr hW hS h (by decide) (by decide) dX4_canTake_39
    · replace h := it_f h c2
      refine lv_iconst (v := 0) hx hb dX4_canTake_8 (by decide) ?_
      exact z_etz X hlk hr hW hS h (by decide) (by decide) dX4_canTake_9

set_option maxHeartbeats 4000000 in
set_option maxRecDepth 100000 in
theorem cX4_canTake_met {l : Launch} {A : Nat → Prop} {D : va_G} {cy : Nat → ClassId} {r0 : Int32} {h0 : Hz} {o : Nat} {v1 : Option Nat} {v2 : Int32} {v3 : Int32} {h : Hz} (g : fX4_canTake o v1 v2 v3 h = some (r0, h0)) : Met l yX4_canTake (Cond.code yX4_canTake cX4_canTake 4 (some .boolean) :: wT) ({ frames := 0, cells := 0, slots := 0, locals := 0 } : Room) (va_Pc [.ref o, va_rf v1, .int v2, .int v3] (zS A D cy h)) (va_Qi (fun r1 u => r1 = r0 ∧ u = h0) (zB A D cy) A) 0 0 A := by
  refine Met.ofW (cc := cX4_canTake) (maxL := 4) (ret := (some .boolean)) (by decide) rfl ?_
  intro p e s m args below meth c s₁ B hml hv
  obtain ⟨rfl, hW, hK, hN, hA⟩ := hv
  have X : zX A D cy p s m _ c cX4_canTake RX4 4 := ⟨B.exec, B.bytes, fun w hw => atoms_spec (ws := Cond.code yX4_canTake cX4_canTake 4 (some .boolean) :: wT) B.pre w (List.mem_cons_of_mem _ hw), findClass_of_methodNamed B.named, hK, hml, hN, hA⟩
  cases v1 with
  | none =>
    have hl := lv_entry [.ref o, va_rf none, .int v2, .int v3] (n := 4) (Nat.le_of_ble_eq_true rfl)
    rw [lg_entry_eq]
    generalize (lg_sl [.ref o, va_rf none, .int v2, .int v3] ++ List.replicate (4 - (lg_sl [.ref o, va_rf none, .int v2, .int v3]).length) Slot.unset).toArray = ls at hl ⊢
    have hl : lv_has ls 4 [(0, .ref o), (1, va_rf none), (2, .int v2), (3, .int v3)] := hl
    exact wX4_canTake_0 X B.notSynchronized B.returns o none v2 v3 _ _ _ _ (lv_sub hl [0, 1, 2, 3] rfl) hW va_S.rf g
  | some v1 =>
    have hl := lv_entry [.ref o, va_rf (some v1), .int v2, .int v3] (n := 4) (Nat.le_of_ble_eq_true rfl)
    rw [lg_entry_eq]
    generalize (lg_sl [.ref o, va_rf (some v1), .int v2, .int v3] ++ List.replicate (4 - (lg_sl [.ref o, va_rf (some v1), .int v2, .int v3]).length) Slot.unset).toArray = ls at hl ⊢
    have hl : lv_has ls 4 [(0, .ref o), (1, va_rf (some v1)), (2, .int v2), (3, .int v3)] := hl
    exact wX4_canTake_0 X B.notSynchronized B.returns o (some v1) v2 v3 _ _ _ _ (lv_sub hl [0, 1, 2, 3] rfl) hW va_S.rf g

theorem dX4_take_0 : decode cX4_take 0 = .ok (.aload_n 0, 1) := by decide +kernel
theorem dX4_take_1 : decode cX4_take 1 = .ok (.aload_n 1, 1) := by decide +kernel
theorem dX4_take_2 : decode cX4_take 2 = .ok (.iload_n 2, 1) := by decide +kernel
theorem dX4_take_3 : decode cX4_take 3 = .ok (.iload_n 3, 1) := by decide +kernel
theorem dX4_take_4 : decode cX4_take 4 = .ok (.invokevirtual 36, 3) := by decide +kernel
theorem dX4_take_7 : decode cX4_take 7 = .ok (.ifCond .eq 17, 3) := by decide +kernel
theorem dX4_take_10 : decode cX4_take 10 = .ok (.aload_n 1, 1) := by decide +kernel
theorem dX4_take_11 : decode cX4_take 11 = .ok (.getfield 24, 3) := by decide +kernel
theorem dX4_take_14 : decode cX4_take 14 = .ok (.iload_n 2, 1) := by decide +kernel
theorem dX4_take_15 : decode cX4_take 15 = .ok (.aload_n 0, 1) := by decide +kernel
theorem dX4_take_16 : decode cX4_take 16 = .ok (.getfield 24, 3) := by decide +kernel
theorem dX4_take_19 : decode cX4_take 19 = .ok (.iconst 0, 1) := by decide +kernel
theorem dX4_take_20 : decode cX4_take 20 = .ok (.iload_n 3, 1) := by decide +kernel
theorem dX4_take_21 : decode cX4_take 21 = .ok (.invokestatic 40, 3) := by decide +kernel
theorem dX4_take_24 : decode cX4_take 24 = .ok (.return_, 1) := by decide +kernel
def fX4_take (o : Nat) (v1 : Option Nat) (v2 : Int32) (v3 : Int32) (h : Hz) : Option (Unit × Hz) := (b1 (tg 4 o h) fun _ => (b2 (fX4_canTake o v1 v2 v3 h) fun x2 s3 => (if x2 = 0 then some ((), s3) else b1 v1 fun a5 => (b1 (gA 4 1 a5 s3) fun a6 => (b1 (gA 4 1 o s3) fun a7 => (b1 (cL a6 v2 a7 0 v3 s3) fun s8 => some ((), s8)))))))
set_option maxHeartbeats 4000000 in
set_option maxRecDepth 100000 in
theorem wX4_take_0 {r0 : Unit} {h0 : Hz} (X : zX A D cy p s m args c cX4_take RX4 4) (hlk : meth.locks = false) (hr : meth.sig.returnType = none) (o : Nat) (v1 : Option Nat) (v2 : Int32) (v3 : Int32) (h : Hz) (H : Heap) (locs : List Loc) (ls : Array Slot) (hl : lv_has ls 4 [(0, .ref o), (1, va_rf v1), (2, .int v2), (3, .int v3)]) (hW : zW A cy D h H) (hS : va_S A s.heap H locs) (h : fX4_take o v1 v2 v3 h = some (r0, h0)) : W p l e ({ frames := 1, cells := 0, slots := 0, locals := 40 } : Room) s m args below meth c H locs 0 0 (MQ below (va_Qv (fun u => u = h0) (zB A D cy) A) args s 0 0 A) (F0 m 0 ls []) := by
  obtain ⟨hx, hb, hts, hown, hK9, hml, hN9, hA9⟩ := id X
  unfold fX4_take at h
  refine lv_aload_n hx hb dX4_take_0 rfl (lv_at hl 0 rfl) ?_
  refine z_aload_n hx hb dX4_take_1 rfl (lv_at hl 1 rfl) ?_
  refine lv_iload_n hx hb dX4_take_2 rfl (lv_at hl 2 rfl) ?_
  refine lv_iload_n hx hb dX4_take_3 rfl (lv_at hl 3 rfl) ?_
  replace h := b1_some h
  obtain ⟨q1, gq1, h⟩ := h
  replace h := b2_some h
  obtain ⟨x2, s3, gs3, h⟩ := h
  refine z_callVi (rest := []) X hW hS (cX4_canTake_met gs3) kb_X4_canTake kv_X4_canTake kl_X4_36 (it_v gq1).1 kX4 rfl rfl ⟨Nat.le_of_ble_eq_true rfl, Nat.le_of_ble_eq_true rfl⟩ rfl rfl (by decide) hl.1 dX4_take_4 ⟨(by decide), (by decide)⟩ (fun H locs hW hS => ?_)
  refine lv_if_eq (tgt := 24) hx hb dX4_take_7 (by decide) (fun c4 => ?_) (fun c4 => ?_)
  · replace h := it_t h c4
    exact z_etv X hlk hr hW hS h (by decide) (by decide) dX4_take_24
  · replace h := it_f h c4
    refine z_aload_n hx hb dX4_take_10 rfl (lv_at hl 1 rfl) ?_
    replace h := b1_some h
    obtain ⟨a5, ea5, h⟩ := h
    subst ea5
    replace h := b1_some h
    obtain ⟨a6, ga6, h⟩ := h
    refine z_getA X hW ga6 kX4 (by decide) (by decide) kf_X4_24 dX4_take_11 ?_
    refine lv_iload_n hx hb dX4_take_14 rfl (lv_at hl 2 rfl) ?_
    refine lv_aload_n hx hb dX4_take_15 rfl (lv_at hl 0 rfl) ?_
    replace h := b1_some h
    obtain ⟨a7, ga7, h⟩ := h
    refine z_getA X hW ga7 kX4 (by decide) (by decide) kf_X4_24 dX4_take_16 ?_
    refine lv_iconst (v := 0) hx hb dX4_take_19 (by decide) ?_
    refine lv_iload_n hx hb dX4_take_20 rfl (lv_at hl 3 rfl) ?_
    replace h := b1_some h
    obtain ⟨s8, gs8, h⟩ := h
    refine z_copyL X hW hS gs8 hl.1 kl_X4_40 kna ks_rraycopyName ki_11 (Nat.le_of_ble_eq_true rfl) (by decide) dX4_take_21 (fun H locs hW hS => ?_)
    exact z_etv X hlk hr hW hS h (by decide) (by decide) dX4_take_24

set_option maxHeartbeats 4000000 in
set_option maxRecDepth 100000 in
theorem cX4_take_met {l : Launch} {A : Nat → Prop} {D : va_G} {cy : Nat → ClassId} {r0 : Unit} {h0 : Hz} {o : Nat} {v1 : Option Nat} {v2 : Int32} {v3 : Int32} {h : Hz} (g : fX4_take o v1 v2 v3 h = some (r0, h0)) : Met l yX4_take (Cond.code yX4_take cX4_take 4 none :: wT) ({ frames := 1, cells := 0, slots := 0, locals := 40 } : Room) (va_Pc [.ref o, va_rf v1, .int v2, .int v3] (zS A D cy h)) (va_Qv (fun u => u = h0) (zB A D cy) A) 0 0 A := by
  refine Met.ofW (cc := cX4_take) (maxL := 4) (ret := none) (by decide) rfl ?_
  intro p e s m args below meth c s₁ B hml hv
  obtain ⟨rfl, hW, hK, hN, hA⟩ := hv
  have X : zX A D cy p s m _ c cX4_take RX4 4 := ⟨B.exec, B.bytes, fun w hw => atoms_spec (ws := Cond.code yX4_take cX4_take 4 none :: wT) B.pre w (List.mem_cons_of_mem _ hw), findClass_of_methodNamed B.named, hK, hml, hN, hA⟩
  cases v1 with
  | none =>
    have hl := lv_entry [.ref o, va_rf none, .int v2, .int v3] (n := 4) (Nat.le_of_ble_eq_true rfl)
    rw [lg_entry_eq]
    generalize (lg_sl [.ref o, va_rf none, .int v2, .int v3] ++ List.replicate (4 - (lg_sl [.ref o, va_rf none, .int v2, .int v3]).length) Slot.unset).toArray = ls at hl ⊢
    have hl : lv_has ls 4 [(0, .ref o), (1, va_rf none), (2, .int v2), (3, .int v3)] := hl
    exact wX4_take_0 X B.notSynchronized B.returns o none v2 v3 _ _ _ _ (lv_sub hl [0, 1, 2, 3] rfl) hW va_S.rf g
  | some v1 =>
    have hl := lv_entry [.ref o, va_rf (some v1), .int v2, .int v3] (n := 4) (Nat.le_of_ble_eq_true rfl)
    rw [lg_entry_eq]
    generalize (lg_sl [.ref o, va_rf (some v1), .int v2, .int v3] ++ List.replicate (4 - (lg_sl [.ref o, va_rf (some v1), .int v2, .int v3]).length) Slot.unset).toArray = ls at hl ⊢
    have hl : lv_has ls 4 [(0, .ref o), (1, va_rf (some v1)), (2, .int v2), (3, .int v3)] := hl
    exact wX4_take_0 X B.notSynchronized B.returns o (some v1) v2 v3 _ _ _ _ (lv_sub hl [0, 1, 2, 3] rfl) hW va_S.rf g

theorem dX5_init_0 : decode cX5_init 0 = .ok (.aload_n 0, 1) := by decide +kernel
theorem dX5_init_1 : decode cX5_init 1 = .ok (.invokespecial 3, 3) := by decide +kernel
theorem dX5_init_4 : decode cX5_init 4 = .ok (.aload_n 0, 1) := by decide +kernel
theorem dX5_init_5 : decode cX5_init 5 = .ok (.iconst 0, 1) := by decide +kernel
theorem dX5_init_6 : decode cX5_init 6 = .ok (.putfield 9, 3) := by decide +kernel
theorem dX5_init_9 : decode cX5_init 9 = .ok (.aload_n 0, 1) := by decide +kernel
theorem dX5_init_10 : decode cX5_init 10 = .ok (.aconst_null, 1) := by decide +kernel
theorem dX5_init_11 : decode cX5_init 11 = .ok (.putfield 15, 3) := by decide +kernel
theorem dX5_init_14 : decode cX5_init 14 = .ok (.aload_n 0, 1) := by decide +kernel
theorem dX5_init_15 : decode cX5_init 15 = .ok (.iconst 0, 1) := by decide +kernel
theorem dX5_init_16 : decode cX5_init 16 = .ok (.putfield 19, 3) := by decide +kernel
theorem dX5_init_19 : decode cX5_init 19 = .ok (.aload_n 0, 1) := by decide +kernel
theorem dX5_init_20 : decode cX5_init 20 = .ok (.iconst 0, 1) := by decide +kernel
theorem dX5_init_21 : decode cX5_init 21 = .ok (.putfield 22, 3) := by decide +kernel
theorem dX5_init_24 : decode cX5_init 24 = .ok (.aload_n 0, 1) := by decide +kernel
theorem dX5_init_25 : decode cX5_init 25 = .ok (.iconst 0, 1) := by decide +kernel
theorem dX5_init_26 : decode cX5_init 26 = .ok (.putfield 25, 3) := by decide +kernel
theorem dX5_init_29 : decode cX5_init 29 = .ok (.aload_n 0, 1) := by decide +kernel
theorem dX5_init_30 : decode cX5_init 30 = .ok (.iconst 1, 1) := by decide +kernel
theorem dX5_init_31 : decode cX5_init 31 = .ok (.putfield 29, 3) := by decide +kernel
theorem dX5_init_34 : decode cX5_init 34 = .ok (.iconst 0, 1) := by decide +kernel
theorem dX5_init_35 : decode cX5_init 35 = .ok (.iload 4, 2) := by decide +kernel
theorem dX5_init_37 : decode cX5_init 37 = .ok (.bipush 8, 2) := by decide +kernel
theorem dX5_init_39 : decode cX5_init 39 = .ok (.invokestatic 32, 3) := by decide +kernel
theorem dX5_init_42 : decode cX5_init 42 = .ok (.invokestatic 38, 3) := by decide +kernel
theorem dX5_init_45 : decode cX5_init 45 = .ok (.istore 5, 2) := by decide +kernel
theorem dX5_init_47 : decode cX5_init 47 = .ok (.aload_n 0, 1) := by decide +kernel
theorem dX5_init_48 : decode cX5_init 48 = .ok (.iload_n 1, 1) := by decide +kernel
theorem dX5_init_49 : decode cX5_init 49 = .ok (.putfield 41, 3) := by decide +kernel
theorem dX5_init_52 : decode cX5_init 52 = .ok (.aload_n 0, 1) := by decide +kernel
theorem dX5_init_53 : decode cX5_init 53 = .ok (.iload_n 2, 1) := by decide +kernel
theorem dX5_init_54 : decode cX5_init 54 = .ok (.putfield 44, 3) := by decide +kernel
theorem dX5_init_57 : decode cX5_init 57 = .ok (.aload_n 0, 1) := by decide +kernel
theorem dX5_init_58 : decode cX5_init 58 = .ok (.iload_n 3, 1) := by decide +kernel
theorem dX5_init_59 : decode cX5_init 59 = .ok (.putfield 47, 3) := by decide +kernel
theorem dX5_init_62 : decode cX5_init 62 = .ok (.aload_n 0, 1) := by decide +kernel
theorem dX5_init_63 : decode cX5_init 63 = .ok (.iload 5, 2) := by decide +kernel
theorem dX5_init_65 : decode cX5_init 65 = .ok (.anewarray 10, 3) := by decide +kernel
theorem dX5_init_68 : decode cX5_init 68 = .ok (.putfield 50, 3) := by decide +kernel
theorem dX5_init_71 : decode cX5_init 71 = .ok (.aload_n 0, 1) := by decide +kernel
theorem dX5_init_72 : decode cX5_init 72 = .ok (.iload 5, 2) := by decide +kernel
theorem dX5_init_74 : decode cX5_init 74 = .ok (.anewarray 54, 3) := by decide +kernel
theorem dX5_init_77 : decode cX5_init 77 = .ok (.putfield 56, 3) := by decide +kernel
theorem dX5_init_80 : decode cX5_init 80 = .ok (.return_, 1) := by decide +kernel
def fX5_init (o : Nat) (v1 : Int32) (v2 : Int32) (v3 : Int32) (v4 : Int32) (h : Hz) : Option (Unit × Hz) := (b1 (pI 5 5 o 0 h) fun s1 => (b1 (pP 5 6 o none s1) fun s2 => (b1 (pI 5 7 o 0 s2) fun s3 => (b1 (pI 5 8 o 0 s3) fun s4 => (b1 (pZ 5 9 o 0 s4) fun s5 => (b1 (pZ 5 10 o 1 s5) fun s6 => (b1 (pI 5 0 o v1 s6) fun s9 => (b1 (pI 5 1 o v2 s9) fun s10 => (b1 (pI 5 2 o v3 s10) fun s11 => (b2 (nA 17 8 (if (0 : Int32) < (if (8 : Int32) < v4 then 8 else v4) then (if (8 : Int32) < v4 then 8 else v4) else 0) s11) fun a12 s13 => (b1 (pP 5 3 o (some a12) s13) fun s14 => (b2 (nA 16 8 (if (0 : Int32) < (if (8 : Int32) < v4 then 8 else v4) then (if (8 : Int32) < v4 then 8 else v4) else 0) s14) fun a15 s16 => (b1 (pP 5 4 o (some a15) s16) fun s17 => some ((), s17))))))))))))))
set_option maxHeartbeats 4000000 in
set_option maxRecDepth 100000 in
theorem wX5_init_0 {r0 : Unit} {h0 : Hz} (X : zX A D cy p s m args c cX5_init RX5 6) (hlk : meth.locks = false) (hr : meth.sig.returnType = none) (hin : meth.name = "<init>") (o : Nat) (v1 : Int32) (v2 : Int32) (v3 : Int32) (v4 : Int32) (h : Hz) (H : Heap) (locs : List Loc) (ls : Array Slot) (hl : lv_has ls 6 [(0, .ref o), (1, .int v1), (2, .int v2), (3, .int v3), (4, .int v4)]) (hW : zW A cy D h H) (hS : va_S A s.heap H locs) (h : fX5_init o v1 v2 v3 v4 h = some (r0, h0)) : W p l e ({ frames := 1, cells := 2, slots := 16, locals := 14 } : Room) s m args below meth c H locs 0 0 (MQ below (va_Qv (fun u => u = h0) (zB A D cy) A) args s 2 16 A) (F0 m 0 ls []) := by
  obtain ⟨hx, hb, hts, hown, hK9, hml, hN9, hA9⟩ := id X
  unfold fX5_init at h
  refine lv_aload_n hx hb dX5_init_0 rfl (lv_at hl 0 rfl) ?_
  refine W.objInit hx hb hown (hts _ kl_X5_3) (hts _ km_objectInit) (hts _ kco) rfl (by rw [hml]; exact hl.1) rfl dX5_init_1 (Nat.le_of_ble_eq_true rfl) (Nat.le_of_ble_eq_true rfl) ?_
  refine W.eq (g2 := F0 m 4 ls []) rfl ?_
  refine lv_aload_n hx hb dX5_init_4 rfl (lv_at hl 0 rfl) ?_
  refine lv_iconst (v := 0) hx hb dX5_init_5 (by decide) ?_
  replace h := b1_some h
  obtain ⟨s1, gs1, h⟩ := h
  refine z_putI X hW hS gs1 kX5 (by decide) (by decide) rfl (Or.inl rfl) kf_X5_9 dX5_init_6 (fun H locs hW hS => ?_)
  refine lv_aload_n hx hb dX5_init_9 rfl (lv_at hl 0 rfl) ?_
  refine lv_null hx hb dX5_init_10 ?_
  replace h := b1_some h
  obtain ⟨s2, gs2, h⟩ := h
  refine z_putP X hW hS gs2 kX5 (by decide) (by decide) (Or.inl ⟨_, rfl⟩) (Or.inl rfl) kf_X5_15 dX5_init_11 (fun H locs hW hS => ?_)
  refine lv_aload_n hx hb dX5_init_14 rfl (lv_at hl 0 rfl) ?_
  refine lv_iconst (v := 0) hx hb dX5_init_15 (by decide) ?_
  replace h := b1_some h
  obtain ⟨s3, gs3, h⟩ := h
  refine z_putI X hW hS gs3 kX5 (by decide) (by decide) rfl (Or.inl rfl) kf_X5_19 dX5_init_16 (fun H locs hW hS => ?_)
  refine lv_aload_n hx hb dX5_init_19 rfl (lv_at hl 0 rfl) ?_
  refine lv_iconst (v := 0) hx hb dX5_init_20 (by decide) ?_
  replace h := b1_some h
  obtain ⟨s4, gs4, h⟩ := h
  refine z_putI X hW hS gs4 kX5 (by decide) (by decide) rfl (Or.inl rfl) kf_X5_22 dX5_init_21 (fun H locs hW hS => ?_)
  refine lv_aload_n hx hb dX5_init_24 rfl (lv_at hl 0 rfl) ?_
  refine lv_iconst (v := 0) hx hb dX5_init_25 (by decide) ?_
  replace h := b1_some h
  obtain ⟨s5, gs5, h⟩ := h
  refine z_putZ X hW hS gs5 kX5 (by decide) (by decide) rfl (Or.inl rfl) kf_X5_25 dX5_init_26 (fun H locs hW hS => ?_)
  refine lv_aload_n hx hb dX5_init_29 rfl (lv_at hl 0 rfl) ?_
  refine lv_iconst (v := 1) hx hb dX5_init_30 (by decide) ?_
  replace h := b1_some h
  obtain ⟨s6, gs6, h⟩ := h
  refine z_putZ X hW hS gs6 kX5 (by decide) (by decide) rfl (Or.inl rfl) kf_X5_29 dX5_init_31 (fun H locs hW hS => ?_)
  refine lv_iconst (v := 0) hx hb dX5_init_34 (by decide) ?_
  refine lv_iload hx hb dX5_init_35 (lv_at hl 4 rfl) ?_
  refine lv_bipush (v := 8) hx hb dX5_init_37 (by decide) ?_
  refine va_mmin hx hb (hml.trans hl.1.symm) hown (hts _ kl_X5_32) (hts _ ks_J9_min_7cf53) (hts _ ki_9) (hts _ kq_J9_min_7cf53) (Nat.le_of_ble_eq_true rfl) (Nat.le_of_ble_eq_true rfl) (by decide) (by decide) dX5_init_39 ?_
  refine va_mmax hx hb (hml.trans hl.1.symm) hown (hts _ kl_X5_38) (hts _ ks_J9_max_7cf53) (hts _ ki_9) (hts _ kq_J9_max_7cf53) (Nat.le_of_ble_eq_true rfl) (Nat.le_of_ble_eq_true rfl) (by decide) (by decide) dX5_init_42 ?_
  refine lv_istore (lv' := [(5, .int (if (0 : Int32) < (if (8 : Int32) < v4 then 8 else v4) then (if (8 : Int32) < v4 then 8 else v4) else 0)), (0, .ref o), (1, .int v1), (2, .int v2), (3, .int v3), (4, .int v4)]) hx hb dX5_init_45 hl (by decide) rfl (fun ls hl => ?_)
  refine lv_aload_n hx hb dX5_init_47 rfl (lv_at hl 1 rfl) ?_
  refine lv_iload_n hx hb dX5_init_48 rfl (lv_at hl 2 rfl) ?_
  replace h := b1_some h
  obtain ⟨s9, gs9, h⟩ := h
  refine z_putI X hW hS gs9 kX5 (by decide) (by decide) rfl (Or.inr ⟨rfl, hin, rfl⟩) kf_X5_41 dX5_init_49 (fun H locs hW hS => ?_)
  refine lv_aload_n hx hb dX5_init_52 rfl (lv_at hl 1 rfl) ?_
  refine lv_iload_n hx hb dX5_init_53 rfl (lv_at hl 3 rfl) ?_
  replace h := b1_some h
  obtain ⟨s10, gs10, h⟩ := h
  refine z_putI X hW hS gs10 kX5 (by decide) (by decide) rfl (Or.inr ⟨rfl, hin, rfl⟩) kf_X5_44 dX5_init_54 (fun H locs hW hS => ?_)
  refine lv_aload_n hx hb dX5_init_57 rfl (lv_at hl 1 rfl) ?_
  refine lv_iload_n hx hb dX5_init_58 rfl (lv_at hl 4 rfl) ?_
  replace h := b1_some h
  obtain ⟨s11, gs11, h⟩ := h
  refine z_putI X hW hS gs11 kX5 (by decide) (by decide) rfl (Or.inr ⟨rfl, hin, rfl⟩) kf_X5_47 dX5_init_59 (fun H locs hW hS => ?_)
  refine lv_aload_n hx hb dX5_init_62 rfl (lv_at hl 1 rfl) ?_
  refine lv_iload hx hb dX5_init_63 (lv_at hl 0 rfl) ?_
  replace h := b2_some h
  obtain ⟨a12, s13, ga12, h⟩ := h
  refine z_newP X hW hS ga12 (by decide) (by decide) rfl kc_X5_10 hN9.2.2.2.1 (by decide) dX5_init_65 (by decide) (by decide) (fun H hW hS => ?_)
  replace h := b1_some h
  obtain ⟨s14, gs14, h⟩ := h
  refine z_putP X hW hS gs14 kX5 (by decide) (by decide) (Or.inr ⟨_, rfl⟩) (Or.inr ⟨rfl, hin, rfl⟩) kf_X5_50 dX5_init_68 (fun H locs hW hS => ?_)
  refine lv_aload_n hx hb dX5_init_71 rfl (lv_at hl 1 rfl) ?_
  refine lv_iload hx hb dX5_init_72 (lv_at hl 0 rfl) ?_
  replace h := b2_some h
  obtain ⟨a15, s16, ga15, h⟩ := h
  refine z_newP X hW hS ga15 (by decide) (by decide) rfl kc_X5_54 hN9.2.2.1 (by decide) dX5_init_74 (by decide) (by decide) (fun H hW hS => ?_)
  replace h := b1_some h
  obtain ⟨s17, gs17, h⟩ := h
  refine z_putP X hW hS gs17 kX5 (by decide) (by decide) (Or.inr ⟨_, rfl⟩) (Or.inr ⟨rfl, hin, rfl⟩) kf_X5_56 dX5_init_77 (fun H locs hW hS => ?_)
  exact z_etv X hlk hr hW hS h (by decide) (by decide) dX5_init_80

set_option maxHeartbeats 4000000 in
set_option maxRecDepth 100000 in
theorem cX5_init_met {l : Launch} {A : Nat → Prop} {D : va_G} {cy : Nat → ClassId} {r0 : Unit} {h0 : Hz} {o : Nat} {v1 : Int32} {v2 : Int32} {v3 : Int32} {v4 : Int32} {h : Hz} (g : fX5_init o v1 v2 v3 v4 h = some (r0, h0)) : Met l yX5_init (Cond.code yX5_init cX5_init 6 none :: wT) ({ frames := 1, cells := 2, slots := 16, locals := 14 } : Room) (va_Pc [.ref o, .int v1, .int v2, .int v3, .int v4] (zS A D cy h)) (va_Qv (fun u => u = h0) (zB A D cy) A) 2 16 A := by
  refine Met.ofW (cc := cX5_init) (maxL := 6) (ret := none) (by decide) rfl ?_
  intro p e s m args below meth c s₁ B hml hv
  obtain ⟨rfl, hW, hK, hN, hA⟩ := hv
  have X : zX A D cy p s m _ c cX5_init RX5 6 := ⟨B.exec, B.bytes, fun w hw => atoms_spec (ws := Cond.code yX5_init cX5_init 6 none :: wT) B.pre w (List.mem_cons_of_mem _ hw), findClass_of_methodNamed B.named, hK, hml, hN, hA⟩
  have hin : meth.name = "<init>" := (name_of_methodNamed B.named B.method).1
  have hl := lv_entry [.ref o, .int v1, .int v2, .int v3, .int v4] (n := 6) (Nat.le_of_ble_eq_true rfl)
  rw [lg_entry_eq]
  generalize (lg_sl [.ref o, .int v1, .int v2, .int v3, .int v4] ++ List.replicate (6 - (lg_sl [.ref o, .int v1, .int v2, .int v3, .int v4]).length) Slot.unset).toArray = ls at hl ⊢
  have hl : lv_has ls 6 [(0, .ref o), (1, .int v1), (2, .int v2), (3, .int v3), (4, .int v4)] := hl
  exact wX5_init_0 X B.notSynchronized B.returns hin o v1 v2 v3 v4 _ _ _ _ (lv_sub hl [0, 1, 2, 3, 4] rfl) hW va_S.rf g

theorem dX5_hasPlaces_0 : decode cX5_hasPlaces 0 = .ok (.aload_n 0, 1) := by decide +kernel
theorem dX5_hasPlaces_1 : decode cX5_hasPlaces 1 = .ok (.getfield 44, 3) := by decide +kernel
theorem dX5_hasPlaces_4 : decode cX5_hasPlaces 4 = .ok (.iconst 1, 1) := by decide +kernel
theorem dX5_hasPlaces_5 : decode cX5_hasPlaces 5 = .ok (.if_icmp .eq 11, 3) := by decide +kernel
theorem dX5_hasPlaces_8 : decode cX5_hasPlaces 8 = .ok (.aload_n 0, 1) := by decide +kernel
theorem dX5_hasPlaces_9 : decode cX5_hasPlaces 9 = .ok (.getfield 44, 3) := by decide +kernel
theorem dX5_hasPlaces_12 : decode cX5_hasPlaces 12 = .ok (.iconst 2, 1) := by decide +kernel
theorem dX5_hasPlaces_13 : decode cX5_hasPlaces 13 = .ok (.if_icmp .ne 7, 3) := by decide +kernel
theorem dX5_hasPlaces_16 : decode cX5_hasPlaces 16 = .ok (.iconst 1, 1) := by decide +kernel
theorem dX5_hasPlaces_17 : decode cX5_hasPlaces 17 = .ok (.goto 4, 3) := by decide +kernel
theorem dX5_hasPlaces_20 : decode cX5_hasPlaces 20 = .ok (.iconst 0, 1) := by decide +kernel
theorem dX5_hasPlaces_21 : decode cX5_hasPlaces 21 = .ok (.ireturn, 1) := by decide +kernel
def fX5_hasPlaces (o : Nat) (h : Hz) : Option (Int32 × Hz) := (b1 (gI 5 1 o h) fun x1 => (if x1 = 1 then rz 1 h else (b1 (gI 5 1 o h) fun x3 => (if x3 = 2 then rz 1 h else rz 0 h))))
set_option maxHeartbeats 4000000 in
set_option maxRecDepth 100000 in
theorem wX5_hasPlaces_0 {r0 : Int32} {h0 : Hz} (X : zX A D cy p s m args c cX5_hasPlaces RX5 1) (hlk : meth.locks = false) (hr : meth.sig.returnType = (some .boolean)) (o : Nat) (h : Hz) (H : Heap) (locs : List Loc) (ls : Array Slot) (hl : lv_has ls 1 [(0, .ref o)]) (hW : zW A cy D h H) (hS : va_S A s.heap H locs) (h : fX5_hasPlaces o h = some (r0, h0)) : W p l e ({ frames := 0, cells := 0, slots := 0, locals := 0 } : Room) s m args below meth c H locs 0 0 (MQ below (va_Qi (fun r1 u => r1 = r0 ∧ u = h0) (zB A D cy) A) args s 0 0 A) (F0 m 0 ls []) := by
  obtain ⟨hx, hb, hts, hown, hK9, hml, hN9, hA9⟩ := id X
  unfold fX5_hasPlaces at h
  refine lv_aload_n hx hb dX5_hasPlaces_0 rfl (lv_at hl 0 rfl) ?_
  replace h := b1_some h
  obtain ⟨x1, gx1, h⟩ := h
  refine z_getI X hW gx1 kX5 (by decide) (by decide) kf_X5_44 dX5_hasPlaces_1 ?_
  refine lv_iconst (v := 1) hx hb dX5_hasPlaces_4 (by decide) ?_
  refine lv_icmp_eq (tgt := 16) hx hb dX5_hasPlaces_5 (by decide) (fun c2 => ?_) (fun c2 => ?_)
  · replace h := it_t h c2
    refine lv_iconst (v := 1) hx hb dX5_hasPlaces_16 (by decide) ?_
    refine lv_goto (tgt := 21) hx hb dX5_hasPlaces_17 (by decide) ?_
    exact z_etz X hlk hr hW hS h (by decide) (by decide) dX5_hasPlaces_21
  · replace h := it_f h c2
    refine lv_aload_n hx hb dX5_hasPlaces_8 rfl (lv_at hl 0 rfl) ?_
    replace h := b1_some h
    obtain ⟨x3, gx3, h⟩ := h
    refine z_getI X hW gx3 kX5 (by decide) (by decide) kf_X5_44 dX5_hasPlaces_9 ?_
    refine lv_iconst (v := 2) hx hb dX5_hasPlaces_12 (by decide) ?_
    refine lv_icmp_ne (tgt := 20) hx hb dX5_hasPlaces_13 (by decide) (fun c4 => ?_) (fun c4 => ?_)
    · replace h := it_f h c4
      refine lv_iconst (v := 0) hx hb dX5_hasPlaces_20 (by decide) ?_
      exact z_etz X hlk hr hW hS h (by decide) (by decide) dX5_hasPlaces_21
    · replace h := it_t h c4
      refine lv_iconst (v := 1) hx hb dX5_hasPlaces_16 (by decide) ?_
      refine lv_goto (tgt := 21) hx hb dX5_hasPlaces_17 (by decide) ?_
      exact z_etz X hlk hr hW hS h (by decide) (by decide) dX5_hasPlaces_21

set_option maxHeartbeats 4000000 in
set_option maxRecDepth 100000 in
theorem cX5_hasPlaces_met {l : Launch} {A : Nat → Prop} {D : va_G} {cy : Nat → ClassId} {r0 : Int32} {h0 : Hz} {o : Nat} {h : Hz} (g : fX5_hasPlaces o h = some (r0, h0)) : Met l yX5_hasPlaces (Cond.code yX5_hasPlaces cX5_hasPlaces 1 (some .boolean) :: wT) ({ frames := 0, cells := 0, slots := 0, locals := 0 } : Room) (va_Pc [.ref o] (zS A D cy h)) (va_Qi (fun r1 u => r1 = r0 ∧ u = h0) (zB A D cy) A) 0 0 A := by
  refine Met.ofW (cc := cX5_hasPlaces) (maxL := 1) (ret := (some .boolean)) (by decide) rfl ?_
  intro p e s m args below meth c s₁ B hml hv
  obtain ⟨rfl, hW, hK, hN, hA⟩ := hv
  have X : zX A D cy p s m _ c cX5_hasPlaces RX5 1 := ⟨B.exec, B.bytes, fun w hw => atoms_spec (ws := Cond.code yX5_hasPlaces cX5_hasPlaces 1 (some .boolean) :: wT) B.pre w (List.mem_cons_of_mem _ hw), findClass_of_methodNamed B.named, hK, hml, hN, hA⟩
  have hl := lv_entry [.ref o] (n := 1) (Nat.le_of_ble_eq_true rfl)
  rw [lg_entry_eq]
  generalize (lg_sl [.ref o] ++ List.replicate (1 - (lg_sl [.ref o]).length) Slot.unset).toArray = ls at hl ⊢
  have hl : lv_has ls 1 [(0, .ref o)] := hl
  exact wX5_hasPlaces_0 X B.notSynchronized B.returns o _ _ _ _ (lv_sub hl [0] rfl) hW va_S.rf g

theorem dX5_rowAt_0 : decode cX5_rowAt 0 = .ok (.aload_n 0, 1) := by decide +kernel
theorem dX5_rowAt_1 : decode cX5_rowAt 1 = .ok (.iload_n 1, 1) := by decide +kernel
theorem dX5_rowAt_2 : decode cX5_rowAt 2 = .ok (.invokevirtual 60, 3) := by decide +kernel
theorem dX5_rowAt_5 : decode cX5_rowAt 5 = .ok (.ifCond .eq 12, 3) := by decide +kernel
theorem dX5_rowAt_8 : decode cX5_rowAt 8 = .ok (.aload_n 0, 1) := by decide +kernel
theorem dX5_rowAt_9 : decode cX5_rowAt 9 = .ok (.getfield 56, 3) := by decide +kernel
theorem dX5_rowAt_12 : decode cX5_rowAt 12 = .ok (.iload_n 1, 1) := by decide +kernel
theorem dX5_rowAt_13 : decode cX5_rowAt 13 = .ok (.aaload, 1) := by decide +kernel
theorem dX5_rowAt_14 : decode cX5_rowAt 14 = .ok (.goto 4, 3) := by decide +kernel
theorem dX5_rowAt_17 : decode cX5_rowAt 17 = .ok (.aconst_null, 1) := by decide +kernel
theorem dX5_rowAt_18 : decode cX5_rowAt 18 = .ok (.areturn, 1) := by decide +kernel
def fX5_rowAt (o : Nat) (v1 : Int32) (h : Hz) : Option (Option Nat × Hz) := (b1 (tg 5 o h) fun _ => (b2 (fX5_hasPlace o v1 h) fun x2 s3 => (if x2 = 0 then some (none, s3) else (b1 (gA 5 4 o s3) fun a5 => (b1 (xP 16 a5 v1 s3) fun r6 => some (r6, s3))))))
set_option maxHeartbeats 4000000 in
set_option maxRecDepth 100000 in
theorem wX5_rowAt_0 {r0 : Option Nat} {h0 : Hz} (X : zX A D cy p s m args c cX5_rowAt RX5 2) (hlk : meth.locks = false) (hr : meth.sig.returnType = (some (.object "FarHold$Row"))) (o : Nat) (v1 : Int32) (h : Hz) (H : Heap) (locs : List Loc) (ls : Array Slot) (hl : lv_has ls 2 [(0, .ref o), (1, .int v1)]) (hW : zW A cy D h H) (hS : va_S A s.heap H locs) (h : fX5_rowAt o v1 h = some (r0, h0)) : W p l e ({ frames := 1, cells := 0, slots := 0, locals := 21 } : Room) s m args below meth c H locs 0 0 (MQ below (va_Qq (fun r1 u => r1 = r0 ∧ u = h0) (zB A D cy) A) args s 0 0 A) (F0 m 0 ls []) := by
  obtain ⟨hx, hb, hts, hown, hK9, hml, hN9, hA9⟩ := id X
  unfold fX5_rowAt at h
  refine lv_aload_n hx hb dX5_rowAt_0 rfl (lv_at hl 0 rfl) ?_
  refine lv_iload_n hx hb dX5_rowAt_1 rfl (lv_at hl 1 rfl) ?_
  replace h := b1_some h
  obtain ⟨q1, gq1, h⟩ := h
  replace h := b2_some h
  obtain ⟨x2, s3, gs3, h⟩ := h
  refine z_callVi (rest := []) X hW hS (cX5_hasPlace_met gs3) kb_X5_hasPlace kv_X5_hasPlace kl_X5_60 (it_v gq1).1 kX5 rfl rfl ⟨Nat.le_of_ble_eq_true rfl, Nat.le_of_ble_eq_true rfl⟩ rfl rfl (by decide) hl.1 dX5_rowAt_2 ⟨(by decide), (by decide)⟩ (fun H locs hW hS => ?_)
  refine lv_if_eq (tgt := 17) hx hb dX5_rowAt_5 (by decide) (fun c4 => ?_) (fun c4 => ?_)
  · replace h := it_t h c4
    refine lv_null hx hb dX5_rowAt_17 ?_
    exact z_eta (v := none) X hlk hr hW hS h (by decide) (by decide) dX5_rowAt_18
  · replace h := it_f h c4
    refine lv_aload_n hx hb dX5_rowAt_8 rfl (lv_at hl 0 rfl) ?_
    replace h := b1_some h
    obtain ⟨a5, ga5, h⟩ := h
    refine z_getA X hW ga5 kX5 (by decide) (by decide) kf_X5_56 dX5_rowAt_9 ?_
    refine lv_iload_n hx hb dX5_rowAt_12 rfl (lv_at hl 1 rfl) ?_
    replace h := b1_some h
    obtain ⟨r6, gr6, h⟩ := h
    refine z_aldP X hW gr6 (by decide) (by decide) rfl dX5_rowAt_13 ?_
    refine lv_goto (tgt := 18) hx hb dX5_rowAt_14 (by decide) ?_
    exact z_eta (v := r6) X hlk hr hW hS h (by decide) (by decide) dX5_rowAt_18

set_option maxHeartbeats 4000000 in
set_option maxRecDepth 100000 in
theorem cX5_rowAt_met {l : Launch} {A : Nat → Prop} {D : va_G} {cy : Nat → ClassId} {r0 : Option Nat} {h0 : Hz} {o : Nat} {v1 : Int32} {h : Hz} (g : fX5_rowAt o v1 h = some (r0, h0)) : Met l yX5_rowAt (Cond.code yX5_rowAt cX5_rowAt 2 (some (.object "FarHold$Row")) :: wT) ({ frames := 1, cells := 0, slots := 0, locals := 21 } : Room) (va_Pc [.ref o, .int v1] (zS A D cy h)) (va_Qq (fun r1 u => r1 = r0 ∧ u = h0) (zB A D cy) A) 0 0 A := by
  refine Met.ofW (cc := cX5_rowAt) (maxL := 2) (ret := (some (.object "FarHold$Row"))) (by decide) rfl ?_
  intro p e s m args below meth c s₁ B hml hv
  obtain ⟨rfl, hW, hK, hN, hA⟩ := hv
  have X : zX A D cy p s m _ c cX5_rowAt RX5 2 := ⟨B.exec, B.bytes, fun w hw => atoms_spec (ws := Cond.code yX5_rowAt cX5_rowAt 2 (some (.object "FarHold$Row")) :: wT) B.pre w (List.mem_cons_of_mem _ hw), findClass_of_methodNamed B.named, hK, hml, hN, hA⟩
  have hl := lv_entry [.ref o, .int v1] (n := 2) (Nat.le_of_ble_eq_true rfl)
  rw [lg_entry_eq]
  generalize (lg_sl [.ref o, .int v1] ++ List.replicate (2 - (lg_sl [.ref o, .int v1]).length) Slot.unset).toArray = ls at hl ⊢
  have hl : lv_has ls 2 [(0, .ref o), (1, .int v1)] := hl
  exact wX5_rowAt_0 X B.notSynchronized B.returns o v1 _ _ _ _ (lv_sub hl [0, 1] rfl) hW va_S.rf g

theorem dX5_holdsNothing_0 : decode cX5_holdsNothing 0 = .ok (.aload_n 0, 1) := by decide +kernel
theorem dX5_holdsNothing_1 : decode cX5_holdsNothing 1 = .ok (.iload_n 1, 1) := by decide +kernel
theorem dX5_holdsNothing_2 : decode cX5_holdsNothing 2 = .ok (.invokevirtual 64, 3) := by decide +kernel
theorem dX5_holdsNothing_5 : decode cX5_holdsNothing 5 = .ok (.ifnonnull 15, 3) := by decide +kernel
theorem dX5_holdsNothing_8 : decode cX5_holdsNothing 8 = .ok (.aload_n 0, 1) := by decide +kernel
theorem dX5_holdsNothing_9 : decode cX5_holdsNothing 9 = .ok (.iload_n 1, 1) := by decide +kernel
theorem dX5_holdsNothing_10 : decode cX5_holdsNothing 10 = .ok (.invokevirtual 68, 3) := by decide +kernel
theorem dX5_holdsNothing_13 : decode cX5_holdsNothing 13 = .ok (.ifnonnull 7, 3) := by decide +kernel
theorem dX5_holdsNothing_16 : decode cX5_holdsNothing 16 = .ok (.iconst 1, 1) := by decide +kernel
theorem dX5_holdsNothing_17 : decode cX5_holdsNothing 17 = .ok (.goto 4, 3) := by decide +kernel
theorem dX5_holdsNothing_20 : decode cX5_holdsNothing 20 = .ok (.iconst 0, 1) := by decide +kernel
theorem dX5_holdsNothing_21 : decode cX5_holdsNothing 21 = .ok (.ireturn, 1) := by decide +kernel
def fX5_holdsNothing (o : Nat) (v1 : Int32) (h : Hz) : Option (Int32 × Hz) := (b1 (tg 5 o h) fun _ => (b2 (fX5_thingAt o v1 h) fun r2 s3 => (oe r2 ((b1 (tg 5 o s3) fun _ => (b2 (fX5_rowAt o v1 s3) fun r6 s7 => (oe r6 (rz 1 s7) fun a8 => rz 0 s7)))) fun a4 => rz 0 s3)))
set_option maxHeartbeats 4000000 in
set_option maxRecDepth 100000 in
theorem wX5_holdsNothing_0 {r0 : Int32} {h0 : Hz} (X : zX A D cy p s m args c cX5_holdsNothing RX5 2) (hlk : meth.locks = false) (hr : meth.sig.returnType = (some .boolean)) (o : Nat) (v1 : Int32) (h : Hz) (H : Heap) (locs : List Loc) (ls : Array Slot) (hl : lv_has ls 2 [(0, .ref o), (1, .int v1)]) (hW : zW A cy D h H) (hS : va_S A s.heap H locs) (h : fX5_holdsNothing o v1 h = some (r0, h0)) : W p l e ({ frames := 2, cells := 0, slots := 0, locals := 42 } : Room) s m args below meth c H locs 0 0 (MQ below (va_Qi (fun r1 u => r1 = r0 ∧ u = h0) (zB A D cy) A) args s 0 0 A) (F0 m 0 ls []) := by
  obtain ⟨hx, hb, hts, hown, hK9, hml, hN9, hA9⟩ := id X
  unfold fX5_holdsNothing at h
  refine lv_aload_n hx hb dX5_holdsNothing_0 rfl (lv_at hl 0 rfl) ?_
  refine lv_iload_n hx hb dX5_holdsNothing_1 rfl (lv_at hl 1 rfl) ?_
  replace h := b1_some h
  obtain ⟨q1, gq1, h⟩ := h
  replace h := b2_some h
  obtain ⟨r2, s3, gs3, h⟩ := h
  refine z_callVq (rest := []) X hW hS (cX5_thingAt_met gs3) kb_X5_thingAt kv_X5_thingAt kl_X5_64 (it_v gq1).1 kX5 rfl rfl ⟨Nat.le_of_ble_eq_true rfl, Nat.le_of_ble_eq_true rfl⟩ rfl rfl (by decide) hl.1 dX5_holdsNothing_2 ⟨(by decide), (by decide)⟩ (fun H locs hW hS => ?_)
  cases r2 with
  | none =>
    replace h := oe_n h
    have hl : lv_has ls 2 [(0, .ref o), (1, .int v1)] := hl
    refine lv_ifnonnullN hx hb dX5_holdsNothing_5 ?_
    refine lv_aload_n hx hb dX5_holdsNothing_8 rfl (lv_at hl 0 rfl) ?_
    refine lv_iload_n hx hb dX5_holdsNothing_9 rfl (lv_at hl 1 rfl) ?_
    replace h := b1_some h
    obtain ⟨q5, gq5, h⟩ := h
    replace h := b2_some h
    obtain ⟨r6, s7, gs7, h⟩ := h
    refine z_callVq (rest := []) X hW hS (cX5_rowAt_met gs7) kb_X5_rowAt kv_X5_rowAt kl_X5_68 (it_v gq5).1 kX5 rfl rfl ⟨Nat.le_of_ble_eq_true rfl, Nat.le_of_ble_eq_true rfl⟩ rfl rfl (by decide) hl.1 dX5_holdsNothing_10 ⟨(by decide), (by decide)⟩ (fun H locs hW hS => ?_)
    cases r6 with
    | none =>
      replace h := oe_n h
      have hl : lv_has ls 2 [(0, .ref o), (1, .int v1)] := hl
      refine lv_ifnonnullN hx hb dX5_holdsNothing_13 ?_
      refine lv_iconst (v := 1) hx hb dX5_holdsNothing_16 (by decide) ?_
      refine lv_goto (tgt := 21) hx hb dX5_holdsNothing_17 (by decide) ?_
      exact z_etz X hlk hr hW hS h (by decide) (by decide) dX5_holdsNothing_21
    | some a8 =>
      replace h := oe_s h
      have hl : lv_has ls 2 [(0, .ref o), (1, .int v1)] := hl
      refine lv_ifnonnull (tgt := 20) hx hb dX5_holdsNothing_13 (by decide) ?_
      refine lv_iconst (v := 0) hx hb dX5_holdsNothing_20 (by decide) ?_
      exact z_etz X hlk hr hW hS h (by decide) (by decide) dX5_holdsNothing_21
  | some a4 =>
    replace h := oe_s h
    have hl : lv_has ls 2 [(0, .ref o), (1, .int v1)] := hl
    refine lv_ifnonnull (tgt := 20) hx hb dX5_holdsNothing_5 (by decide) ?_
    refine lv_iconst (v := 0) hx hb dX5_holdsNothing_20 (by decide) ?_
    exact z_etz X hlk hr hW hS h (by decide) (by decide) dX5_holdsNothing_21

set_option maxHeartbeats 4000000 in
set_option maxRecDepth 100000 in
theorem cX5_holdsNothing_met {l : Launch} {A : Nat → Prop} {D : va_G} {cy : Nat → ClassId} {r0 : Int32} {h0 : Hz} {o : Nat} {v1 : Int32} {h : Hz} (g : fX5_holdsNothing o v1 h = some (r0, h0)) : Met l yX5_holdsNothing (Cond.code yX5_holdsNothing cX5_holdsNothing 2 (some .boolean) :: wT) ({ frames := 2, cells := 0, slots := 0, locals := 42 } : Room) (va_Pc [.ref o, .int v1] (zS A D cy h)) (va_Qi (fun r1 u => r1 = r0 ∧ u = h0) (zB A D cy) A) 0 0 A := by
  refine Met.ofW (cc := cX5_holdsNothing) (maxL := 2) (ret := (some .boolean)) (by decide) rfl ?_
  intro p e s m args below meth c s₁ B hml hv
  obtain ⟨rfl, hW, hK, hN, hA⟩ := hv
  have X : zX A D cy p s m _ c cX5_holdsNothing RX5 2 := ⟨B.exec, B.bytes, fun w hw => atoms_spec (ws := Cond.code yX5_holdsNothing cX5_holdsNothing 2 (some .boolean) :: wT) B.pre w (List.mem_cons_of_mem _ hw), findClass_of_methodNamed B.named, hK, hml, hN, hA⟩
  have hl := lv_entry [.ref o, .int v1] (n := 2) (Nat.le_of_ble_eq_true rfl)
  rw [lg_entry_eq]
  generalize (lg_sl [.ref o, .int v1] ++ List.replicate (2 - (lg_sl [.ref o, .int v1]).length) Slot.unset).toArray = ls at hl ⊢
  have hl : lv_has ls 2 [(0, .ref o), (1, .int v1)] := hl
  exact wX5_holdsNothing_0 X B.notSynchronized B.returns o v1 _ _ _ _ (lv_sub hl [0, 1] rfl) hW va_S.rf g

theorem dX5_holdThing_0 : decode cX5_holdThing 0 = .ok (.aload_n 0, 1) := by decide +kernel
theorem dX5_holdThing_1 : decode cX5_holdThing 1 = .ok (.iload_n 1, 1) := by decide +kernel
theorem dX5_holdThing_2 : decode cX5_holdThing 2 = .ok (.invokevirtual 60, 3) := by decide +kernel
theorem dX5_holdThing_5 : decode cX5_holdThing 5 = .ok (.ifCond .ne 4, 3) := by decide +kernel
theorem dX5_holdThing_8 : decode cX5_holdThing 8 = .ok (.return_, 1) := by decide +kernel
theorem dX5_holdThing_9 : decode cX5_holdThing 9 = .ok (.aload_n 0, 1) := by decide +kernel
theorem dX5_holdThing_10 : decode cX5_holdThing 10 = .ok (.getfield 50, 3) := by decide +kernel
theorem dX5_holdThing_13 : decode cX5_holdThing 13 = .ok (.iload_n 1, 1) := by decide +kernel
theorem dX5_holdThing_14 : decode cX5_holdThing 14 = .ok (.aload_n 2, 1) := by decide +kernel
theorem dX5_holdThing_15 : decode cX5_holdThing 15 = .ok (.aastore, 1) := by decide +kernel
theorem dX5_holdThing_16 : decode cX5_holdThing 16 = .ok (.aload_n 0, 1) := by decide +kernel
theorem dX5_holdThing_17 : decode cX5_holdThing 17 = .ok (.getfield 56, 3) := by decide +kernel
theorem dX5_holdThing_20 : decode cX5_holdThing 20 = .ok (.iload_n 1, 1) := by decide +kernel
theorem dX5_holdThing_21 : decode cX5_holdThing 21 = .ok (.aconst_null, 1) := by decide +kernel
theorem dX5_holdThing_22 : decode cX5_holdThing 22 = .ok (.aastore, 1) := by decide +kernel
theorem dX5_holdThing_23 : decode cX5_holdThing 23 = .ok (.return_, 1) := by decide +kernel
def fX5_holdThing (o : Nat) (v1 : Int32) (v2 : Option Nat) (h : Hz) : Option (Unit × Hz) := (b1 (tg 5 o h) fun _ => (b2 (fX5_hasPlace o v1 h) fun x2 s3 => (if x2 = 0 then some ((), s3) else (b1 (gA 5 3 o s3) fun a5 => (b1 (yP 17 5 a5 v1 v2 s3) fun s6 => (b1 (gA 5 4 o s6) fun a7 => (b1 (yP 16 4 a7 v1 none s6) fun s8 => some ((), s8))))))))
set_option maxHeartbeats 4000000 in
set_option maxRecDepth 100000 in
theorem wX5_holdThing_0 {r0 : Unit} {h0 : Hz} (X : zX A D cy p s m args c cX5_holdThing RX5 3) (hlk : meth.locks = false) (hr : meth.sig.returnType = none) (o : Nat) (v1 : Int32) (v2 : Option Nat) (h : Hz) (H : Heap) (locs : List Loc) (ls : Array Slot) (hl : lv_has ls 3 [(0, .ref o), (1, .int v1), (2, va_rf v2)]) (hW : zW A cy D h H) (hS : va_S A s.heap H locs) (h : fX5_holdThing o v1 v2 h = some (r0, h0)) : W p l e ({ frames := 1, cells := 0, slots := 0, locals := 21 } : Room) s m args below meth c H locs 0 0 (MQ below (va_Qv (fun u => u = h0) (zB A D cy) A) args s 0 0 A) (F0 m 0 ls []) := by
  obtain ⟨hx, hb, hts, hown, hK9, hml, hN9, hA9⟩ := id X
  unfold fX5_holdThing at h
  refine lv_aload_n hx hb dX5_holdThing_0 rfl (lv_at hl 0 rfl) ?_
  refine lv_iload_n hx hb dX5_holdThing_1 rfl (lv_at hl 1 rfl) ?_
  replace h := b1_some h
  obtain ⟨q1, gq1, h⟩ := h
  replace h := b2_some h
  obtain ⟨x2, s3, gs3, h⟩ := h
  refine z_callVi (rest := []) X hW hS (cX5_hasPlace_met gs3) kb_X5_hasPlace kv_X5_hasPlace kl_X5_60 (it_v gq1).1 kX5 rfl rfl ⟨Nat.le_of_ble_eq_true rfl, Nat.le_of_ble_eq_true rfl⟩ rfl rfl (by decide) hl.1 dX5_holdThing_2 ⟨(by decide), (by decide)⟩ (fun H locs hW hS => ?_)
  refine lv_if_ne (tgt := 9) hx hb dX5_holdThing_5 (by decide) (fun c4 => ?_) (fun c4 => ?_)
  · replace h := it_f h c4
    refine lv_aload_n hx hb dX5_holdThing_9 rfl (lv_at hl 0 rfl) ?_
    replace h := b1_some h
    obtain ⟨a5, ga5, h⟩ := h
    refine z_getA X hW ga5 kX5 (by decide) (by decide) kf_X5_50 dX5_holdThing_10 ?_
    refine lv_iload_n hx hb dX5_holdThing_13 rfl (lv_at hl 1 rfl) ?_
    refine z_aload_n hx hb dX5_holdThing_14 rfl (lv_at hl 2 rfl) ?_
    replace h := b1_some h
    obtain ⟨s6, gs6, h⟩ := h
    refine z_astP X hW hS gs6 (by decide) (by decide) kX5 rfl dX5_holdThing_15 (fun H locs hW hS => ?_)
    refine lv_aload_n hx hb dX5_holdThing_16 rfl (lv_at hl 0 rfl) ?_
    replace h := b1_some h
    obtain ⟨a7, ga7, h⟩ := h
    refine z_getA X hW ga7 kX5 (by decide) (by decide) kf_X5_56 dX5_holdThing_17 ?_
    refine lv_iload_n hx hb dX5_holdThing_20 rfl (lv_at hl 1 rfl) ?_
    refine lv_null hx hb dX5_holdThing_21 ?_
    replace h := b1_some h
    obtain ⟨s8, gs8, h⟩ := h
    refine z_astP X hW hS gs8 (by decide) (by decide) kX4 rfl dX5_holdThing_22 (fun H locs hW hS => ?_)
    exact z_etv X hlk hr hW hS h (by decide) (by decide) dX5_holdThing_23
  · replace h := it_t h c4
    exact z_etv X hlk hr hW hS h (by decide) (by decide) dX5_holdThing_8

set_option maxHeartbeats 4000000 in
set_option maxRecDepth 100000 in
theorem cX5_holdThing_met {l : Launch} {A : Nat → Prop} {D : va_G} {cy : Nat → ClassId} {r0 : Unit} {h0 : Hz} {o : Nat} {v1 : Int32} {v2 : Option Nat} {h : Hz} (g : fX5_holdThing o v1 v2 h = some (r0, h0)) : Met l yX5_holdThing (Cond.code yX5_holdThing cX5_holdThing 3 none :: wT) ({ frames := 1, cells := 0, slots := 0, locals := 21 } : Room) (va_Pc [.ref o, .int v1, va_rf v2] (zS A D cy h)) (va_Qv (fun u => u = h0) (zB A D cy) A) 0 0 A := by
  refine Met.ofW (cc := cX5_holdThing) (maxL := 3) (ret := none) (by decide) rfl ?_
  intro p e s m args below meth c s₁ B hml hv
  obtain ⟨rfl, hW, hK, hN, hA⟩ := hv
  have X : zX A D cy p s m _ c cX5_holdThing RX5 3 := ⟨B.exec, B.bytes, fun w hw => atoms_spec (ws := Cond.code yX5_holdThing cX5_holdThing 3 none :: wT) B.pre w (List.mem_cons_of_mem _ hw), findClass_of_methodNamed B.named, hK, hml, hN, hA⟩
  cases v2 with
  | none =>
    have hl := lv_entry [.ref o, .int v1, va_rf none] (n := 3) (Nat.le_of_ble_eq_true rfl)
    rw [lg_entry_eq]
    generalize (lg_sl [.ref o, .int v1, va_rf none] ++ List.replicate (3 - (lg_sl [.ref o, .int v1, va_rf none]).length) Slot.unset).toArray = ls at hl ⊢
    have hl : lv_has ls 3 [(0, .ref o), (1, .int v1), (2, va_rf none)] := hl
    exact wX5_holdThing_0 X B.notSynchronized B.returns o v1 none _ _ _ _ (lv_sub hl [0, 1, 2] rfl) hW va_S.rf g
  | some v2 =>
    have hl := lv_entry [.ref o, .int v1, va_rf (some v2)] (n := 3) (Nat.le_of_ble_eq_true rfl)
    rw [lg_entry_eq]
    generalize (lg_sl [.ref o, .int v1, va_rf (some v2)] ++ List.replicate (3 - (lg_sl [.ref o, .int v1, va_rf (some v2)]).length) Slot.unset).toArray = ls at hl ⊢
    have hl : lv_has ls 3 [(0, .ref o), (1, .int v1), (2, va_rf (some v2))] := hl
    exact wX5_holdThing_0 X B.notSynchronized B.returns o v1 (some v2) _ _ _ _ (lv_sub hl [0, 1, 2] rfl) hW va_S.rf g

theorem dX5_holdRow_0 : decode cX5_holdRow 0 = .ok (.aload_n 0, 1) := by decide +kernel
theorem dX5_holdRow_1 : decode cX5_holdRow 1 = .ok (.iload_n 1, 1) := by decide +kernel
theorem dX5_holdRow_2 : decode cX5_holdRow 2 = .ok (.invokevirtual 60, 3) := by decide +kernel
theorem dX5_holdRow_5 : decode cX5_holdRow 5 = .ok (.ifCond .ne 4, 3) := by decide +kernel
theorem dX5_holdRow_8 : decode cX5_holdRow 8 = .ok (.return_, 1) := by decide +kernel
theorem dX5_holdRow_9 : decode cX5_holdRow 9 = .ok (.aload_n 0, 1) := by decide +kernel
theorem dX5_holdRow_10 : decode cX5_holdRow 10 = .ok (.getfield 50, 3) := by decide +kernel
theorem dX5_holdRow_13 : decode cX5_holdRow 13 = .ok (.iload_n 1, 1) := by decide +kernel
theorem dX5_holdRow_14 : decode cX5_holdRow 14 = .ok (.aconst_null, 1) := by decide +kernel
theorem dX5_holdRow_15 : decode cX5_holdRow 15 = .ok (.aastore, 1) := by decide +kernel
theorem dX5_holdRow_16 : decode cX5_holdRow 16 = .ok (.aload_n 0, 1) := by decide +kernel
theorem dX5_holdRow_17 : decode cX5_holdRow 17 = .ok (.getfield 56, 3) := by decide +kernel
theorem dX5_holdRow_20 : decode cX5_holdRow 20 = .ok (.iload_n 1, 1) := by decide +kernel
theorem dX5_holdRow_21 : decode cX5_holdRow 21 = .ok (.aload_n 2, 1) := by decide +kernel
theorem dX5_holdRow_22 : decode cX5_holdRow 22 = .ok (.aastore, 1) := by decide +kernel
theorem dX5_holdRow_23 : decode cX5_holdRow 23 = .ok (.return_, 1) := by decide +kernel
def fX5_holdRow (o : Nat) (v1 : Int32) (v2 : Option Nat) (h : Hz) : Option (Unit × Hz) := (b1 (tg 5 o h) fun _ => (b2 (fX5_hasPlace o v1 h) fun x2 s3 => (if x2 = 0 then some ((), s3) else (b1 (gA 5 3 o s3) fun a5 => (b1 (yP 17 5 a5 v1 none s3) fun s6 => (b1 (gA 5 4 o s6) fun a7 => (b1 (yP 16 4 a7 v1 v2 s6) fun s8 => some ((), s8))))))))
set_option maxHeartbeats 4000000 in
set_option maxRecDepth 100000 in
theorem wX5_holdRow_0 {r0 : Unit} {h0 : Hz} (X : zX A D cy p s m args c cX5_holdRow RX5 3) (hlk : meth.locks = false) (hr : meth.sig.returnType = none) (o : Nat) (v1 : Int32) (v2 : Option Nat) (h : Hz) (H : Heap) (locs : List Loc) (ls : Array Slot) (hl : lv_has ls 3 [(0, .ref o), (1, .int v1), (2, va_rf v2)]) (hW : zW A cy D h H) (hS : va_S A s.heap H locs) (h : fX5_holdRow o v1 v2 h = some (r0, h0)) : W p l e ({ frames := 1, cells := 0, slots := 0, locals := 21 } : Room) s m args below meth c H locs 0 0 (MQ below (va_Qv (fun u => u = h0) (zB A D cy) A) args s 0 0 A) (F0 m 0 ls []) := by
  obtain ⟨hx, hb, hts, hown, hK9, hml, hN9, hA9⟩ := id X
  unfold fX5_holdRow at h
  refine lv_aload_n hx hb dX5_holdRow_0 rfl (lv_at hl 0 rfl) ?_
  refine lv_iload_n hx hb dX5_holdRow_1 rfl (lv_at hl 1 rfl) ?_
  replace h := b1_some h
  obtain ⟨q1, gq1, h⟩ := h
  replace h := b2_some h
  obtain ⟨x2, s3, gs3, h⟩ := h
  refine z_callVi (rest := []) X hW hS (cX5_hasPlace_met gs3) kb_X5_hasPlace kv_X5_hasPlace kl_X5_60 (it_v gq1).1 kX5 rfl rfl ⟨Nat.le_of_ble_eq_true rfl, Nat.le_of_ble_eq_true rfl⟩ rfl rfl (by decide) hl.1 dX5_holdRow_2 ⟨(by decide), (by decide)⟩ (fun H locs hW hS => ?_)
  refine lv_if_ne (tgt := 9) hx hb dX5_holdRow_5 (by decide) (fun c4 => ?_) (fun c4 => ?_)
  · replace h := it_f h c4
    refine lv_aload_n hx hb dX5_holdRow_9 rfl (lv_at hl 0 rfl) ?_
    replace h := b1_some h
    obtain ⟨a5, ga5, h⟩ := h
    refine z_getA X hW ga5 kX5 (by decide) (by decide) kf_X5_50 dX5_holdRow_10 ?_
    refine lv_iload_n hx hb dX5_holdRow_13 rfl (lv_at hl 1 rfl) ?_
    refine lv_null hx hb dX5_holdRow_14 ?_
    replace h := b1_some h
    obtain ⟨s6, gs6, h⟩ := h
    refine z_astP X hW hS gs6 (by decide) (by decide) kX5 rfl dX5_holdRow_15 (fun H locs hW hS => ?_)
    refine lv_aload_n hx hb dX5_holdRow_16 rfl (lv_at hl 0 rfl) ?_
    replace h := b1_some h
    obtain ⟨a7, ga7, h⟩ := h
    refine z_getA X hW ga7 kX5 (by decide) (by decide) kf_X5_56 dX5_holdRow_17 ?_
    refine lv_iload_n hx hb dX5_holdRow_20 rfl (lv_at hl 1 rfl) ?_
    refine z_aload_n hx hb dX5_holdRow_21 rfl (lv_at hl 2 rfl) ?_
    replace h := b1_some h
    obtain ⟨s8, gs8, h⟩ := h
    refine z_astP X hW hS gs8 (by decide) (by decide) kX4 rfl dX5_holdRow_22 (fun H locs hW hS => ?_)
    exact z_etv X hlk hr hW hS h (by decide) (by decide) dX5_holdRow_23
  · replace h := it_t h c4
    exact z_etv X hlk hr hW hS h (by decide) (by decide) dX5_holdRow_8

set_option maxHeartbeats 4000000 in
set_option maxRecDepth 100000 in
theorem cX5_holdRow_met {l : Launch} {A : Nat → Prop} {D : va_G} {cy : Nat → ClassId} {r0 : Unit} {h0 : Hz} {o : Nat} {v1 : Int32} {v2 : Option Nat} {h : Hz} (g : fX5_holdRow o v1 v2 h = some (r0, h0)) : Met l yX5_holdRow (Cond.code yX5_holdRow cX5_holdRow 3 none :: wT) ({ frames := 1, cells := 0, slots := 0, locals := 21 } : Room) (va_Pc [.ref o, .int v1, va_rf v2] (zS A D cy h)) (va_Qv (fun u => u = h0) (zB A D cy) A) 0 0 A := by
  refine Met.ofW (cc := cX5_holdRow) (maxL := 3) (ret := none) (by decide) rfl ?_
  intro p e s m args below meth c s₁ B hml hv
  obtain ⟨rfl, hW, hK, hN, hA⟩ := hv
  have X : zX A D cy p s m _ c cX5_holdRow RX5 3 := ⟨B.exec, B.bytes, fun w hw => atoms_spec (ws := Cond.code yX5_holdRow cX5_holdRow 3 none :: wT) B.pre w (List.mem_cons_of_mem _ hw), findClass_of_methodNamed B.named, hK, hml, hN, hA⟩
  cases v2 with
  | none =>
    have hl := lv_entry [.ref o, .int v1, va_rf none] (n := 3) (Nat.le_of_ble_eq_true rfl)
    rw [lg_entry_eq]
    generalize (lg_sl [.ref o, .int v1, va_rf none] ++ List.replicate (3 - (lg_sl [.ref o, .int v1, va_rf none]).length) Slot.unset).toArray = ls at hl ⊢
    have hl : lv_has ls 3 [(0, .ref o), (1, .int v1), (2, va_rf none)] := hl
    exact wX5_holdRow_0 X B.notSynchronized B.returns o v1 none _ _ _ _ (lv_sub hl [0, 1, 2] rfl) hW va_S.rf g
  | some v2 =>
    have hl := lv_entry [.ref o, .int v1, va_rf (some v2)] (n := 3) (Nat.le_of_ble_eq_true rfl)
    rw [lg_entry_eq]
    generalize (lg_sl [.ref o, .int v1, va_rf (some v2)] ++ List.replicate (3 - (lg_sl [.ref o, .int v1, va_rf (some v2)]).length) Slot.unset).toArray = ls at hl ⊢
    have hl : lv_has ls 3 [(0, .ref o), (1, .int v1), (2, va_rf (some v2))] := hl
    exact wX5_holdRow_0 X B.notSynchronized B.returns o v1 (some v2) _ _ _ _ (lv_sub hl [0, 1, 2] rfl) hW va_S.rf g

theorem dX5_isAnchor_0 : decode cX5_isAnchor 0 = .ok (.aload_n 0, 1) := by decide +kernel
theorem dX5_isAnchor_1 : decode cX5_isAnchor 1 = .ok (.getfield 22, 3) := by decide +kernel
theorem dX5_isAnchor_4 : decode cX5_isAnchor 4 = .ok (.ifCond .le 14, 3) := by decide +kernel
theorem dX5_isAnchor_7 : decode cX5_isAnchor 7 = .ok (.aload_n 0, 1) := by decide +kernel
theorem dX5_isAnchor_8 : decode cX5_isAnchor 8 = .ok (.getfield 25, 3) := by decide +kernel
theorem dX5_isAnchor_11 : decode cX5_isAnchor 11 = .ok (.ifCond .ne 7, 3) := by decide +kernel
theorem dX5_isAnchor_14 : decode cX5_isAnchor 14 = .ok (.iconst 1, 1) := by decide +kernel
theorem dX5_isAnchor_15 : decode cX5_isAnchor 15 = .ok (.goto 4, 3) := by decide +kernel
theorem dX5_isAnchor_18 : decode cX5_isAnchor 18 = .ok (.iconst 0, 1) := by decide +kernel
theorem dX5_isAnchor_19 : decode cX5_isAnchor 19 = .ok (.ireturn, 1) := by decide +kernel
def fX5_isAnchor (o : Nat) (h : Hz) : Option (Int32 × Hz) := (b1 (gI 5 8 o h) fun x1 => (if x1 ≤ 0 then rz 0 h else (b1 (gI 5 9 o h) fun x3 => (if x3 = 0 then rz 1 h else rz 0 h))))
set_option maxHeartbeats 4000000 in
set_option maxRecDepth 100000 in
theorem wX5_isAnchor_0 {r0 : Int32} {h0 : Hz} (X : zX A D cy p s m args c cX5_isAnchor RX5 1) (hlk : meth.locks = false) (hr : meth.sig.returnType = (some .boolean)) (o : Nat) (h : Hz) (H : Heap) (locs : List Loc) (ls : Array Slot) (hl : lv_has ls 1 [(0, .ref o)]) (hW : zW A cy D h H) (hS : va_S A s.heap H locs) (h : fX5_isAnchor o h = some (r0, h0)) : W p l e ({ frames := 0, cells := 0, slots := 0, locals := 0 } : Room) s m args below meth c H locs 0 0 (MQ below (va_Qi (fun r1 u => r1 = r0 ∧ u = h0) (zB A D cy) A) args s 0 0 A) (F0 m 0 ls []) := by
  obtain ⟨hx, hb, hts, hown, hK9, hml, hN9, hA9⟩ := id X
  unfold fX5_isAnchor at h
  refine lv_aload_n hx hb dX5_isAnchor_0 rfl (lv_at hl 0 rfl) ?_
  replace h := b1_some h
  obtain ⟨x1, gx1, h⟩ := h
  refine z_getI X hW gx1 kX5 (by decide) (by decide) kf_X5_22 dX5_isAnchor_1 ?_
  refine lv_if_le (tgt := 18) hx hb dX5_isAnchor_4 (by decide) (fun c2 => ?_) (fun c2 => ?_)
  · replace h := it_t h c2
    refine lv_iconst (v := 0) hx hb dX5_isAnchor_18 (by decide) ?_
    exact z_etz X hlk hr hW hS h (by decide) (by decide) dX5_isAnchor_19
  · replace h := it_f h c2
    refine lv_aload_n hx hb dX5_isAnchor_7 rfl (lv_at hl 0 rfl) ?_
    replace h := b1_some h
    obtain ⟨x3, gx3, h⟩ := h
    refine z_getI X hW gx3 kX5 (by decide) (by decide) kf_X5_25 dX5_isAnchor_8 ?_
    refine lv_if_ne (tgt := 18) hx hb dX5_isAnchor_11 (by decide) (fun c4 => ?_) (fun c4 => ?_)
    · replace h := it_f h c4
      refine lv_iconst (v := 0) hx hb dX5_isAnchor_18 (by decide) ?_
      exact z_etz X hlk hr hW hS h (by decide) (by decide) dX5_isAnchor_19
    · replace h := it_t h c4
      refine lv_iconst (v := 1) hx hb dX5_isAnchor_14 (by decide) ?_
      refine lv_goto (tgt := 19) hx hb dX5_isAnchor_15 (by decide) ?_
      exact z_etz X hlk hr hW hS h (by decide) (by decide) dX5_isAnchor_19

set_option maxHeartbeats 4000000 in
set_option maxRecDepth 100000 in
theorem cX5_isAnchor_met {l : Launch} {A : Nat → Prop} {D : va_G} {cy : Nat → ClassId} {r0 : Int32} {h0 : Hz} {o : Nat} {h : Hz} (g : fX5_isAnchor o h = some (r0, h0)) : Met l yX5_isAnchor (Cond.code yX5_isAnchor cX5_isAnchor 1 (some .boolean) :: wT) ({ frames := 0, cells := 0, slots := 0, locals := 0 } : Room) (va_Pc [.ref o] (zS A D cy h)) (va_Qi (fun r1 u => r1 = r0 ∧ u = h0) (zB A D cy) A) 0 0 A := by
  refine Met.ofW (cc := cX5_isAnchor) (maxL := 1) (ret := (some .boolean)) (by decide) rfl ?_
  intro p e s m args below meth c s₁ B hml hv
  obtain ⟨rfl, hW, hK, hN, hA⟩ := hv
  have X : zX A D cy p s m _ c cX5_isAnchor RX5 1 := ⟨B.exec, B.bytes, fun w hw => atoms_spec (ws := Cond.code yX5_isAnchor cX5_isAnchor 1 (some .boolean) :: wT) B.pre w (List.mem_cons_of_mem _ hw), findClass_of_methodNamed B.named, hK, hml, hN, hA⟩
  have hl := lv_entry [.ref o] (n := 1) (Nat.le_of_ble_eq_true rfl)
  rw [lg_entry_eq]
  generalize (lg_sl [.ref o] ++ List.replicate (1 - (lg_sl [.ref o]).length) Slot.unset).toArray = ls at hl ⊢
  have hl : lv_has ls 1 [(0, .ref o)] := hl
  exact wX5_isAnchor_0 X B.notSynchronized B.returns o _ _ _ _ (lv_sub hl [0] rfl) hW va_S.rf g

theorem dX5_takeFromExit_0 : decode cX5_takeFromExit 0 = .ok (.aload_n 0, 1) := by decide +kernel
theorem dX5_takeFromExit_1 : decode cX5_takeFromExit 1 = .ok (.dup, 1) := by decide +kernel
theorem dX5_takeFromExit_2 : decode cX5_takeFromExit 2 = .ok (.getfield 22, 3) := by decide +kernel
theorem dX5_takeFromExit_5 : decode cX5_takeFromExit 5 = .ok (.iload_n 1, 1) := by decide +kernel
theorem dX5_takeFromExit_6 : decode cX5_takeFromExit 6 = .ok (.isub, 1) := by decide +kernel
theorem dX5_takeFromExit_7 : decode cX5_takeFromExit 7 = .ok (.putfield 22, 3) := by decide +kernel
theorem dX5_takeFromExit_10 : decode cX5_takeFromExit 10 = .ok (.aload_n 0, 1) := by decide +kernel
theorem dX5_takeFromExit_11 : decode cX5_takeFromExit 11 = .ok (.getfield 22, 3) := by decide +kernel
theorem dX5_takeFromExit_14 : decode cX5_takeFromExit 14 = .ok (.ifCond .ne 8, 3) := by decide +kernel
theorem dX5_takeFromExit_17 : decode cX5_takeFromExit 17 = .ok (.aload_n 0, 1) := by decide +kernel
theorem dX5_takeFromExit_18 : decode cX5_takeFromExit 18 = .ok (.iconst 0, 1) := by decide +kernel
theorem dX5_takeFromExit_19 : decode cX5_takeFromExit 19 = .ok (.putfield 25, 3) := by decide +kernel
theorem dX5_takeFromExit_22 : decode cX5_takeFromExit 22 = .ok (.return_, 1) := by decide +kernel
def fX5_takeFromExit (o : Nat) (v1 : Int32) (h : Hz) : Option (Unit × Hz) := (b1 (gI 5 8 o h) fun x1 => (b1 (pI 5 8 o (x1 - v1) h) fun s2 => (b1 (gI 5 8 o s2) fun x3 => (if x3 = 0 then (b1 (pZ 5 9 o 0 s2) fun s5 => some ((), s5)) else some ((), s2)))))
set_option maxHeartbeats 4000000 in
set_option maxRecDepth 100000 in
theorem wX5_takeFromExit_0 {r0 : Unit} {h0 : Hz} (X : zX A D cy p s m args c cX5_takeFromExit RX5 2) (hlk : meth.locks = false) (hr : meth.sig.returnType = none) (o : Nat) (v1 : Int32) (h : Hz) (H : Heap) (locs : List Loc) (ls : Array Slot) (hl : lv_has ls 2 [(0, .ref o), (1, .int v1)]) (hW : zW A cy D h H) (hS : va_S A s.heap H locs) (h : fX5_takeFromExit o v1 h = some (r0, h0)) : W p l e ({ frames := 0, cells := 0, slots := 0, locals := 0 } : Room) s m args below meth c H locs 0 0 (MQ below (va_Qv (fun u => u = h0) (zB A D cy) A) args s 0 0 A) (F0 m 0 ls []) := by
  obtain ⟨hx, hb, hts, hown, hK9, hml, hN9, hA9⟩ := id X
  unfold fX5_takeFromExit at h
  refine lv_aload_n hx hb dX5_takeFromExit_0 rfl (lv_at hl 0 rfl) ?_
  refine lv_dup hx hb dX5_takeFromExit_1 rfl ?_
  replace h := b1_some h
  obtain ⟨x1, gx1, h⟩ := h
  refine z_getI X hW gx1 kX5 (by decide) (by decide) kf_X5_22 dX5_takeFromExit_2 ?_
  refine lv_iload_n hx hb dX5_takeFromExit_5 rfl (lv_at hl 1 rfl) ?_
  refine lv_isub hx hb dX5_takeFromExit_6 ?_
  replace h := b1_some h
  obtain ⟨s2, gs2, h⟩ := h
  refine z_putI X hW hS gs2 kX5 (by decide) (by decide) rfl (Or.inl rfl) kf_X5_22 dX5_takeFromExit_7 (fun H locs hW hS => ?_)
  refine lv_aload_n hx hb dX5_takeFromExit_10 rfl (lv_at hl 0 rfl) ?_
  replace h := b1_some h
  obtain ⟨x3, gx3, h⟩ := h
  refine z_getI X hW gx3 kX5 (by decide) (by decide) kf_X5_22 dX5_takeFromExit_11 ?_
  refine lv_if_ne (tgt := 22) hx hb dX5_takeFromExit_14 (by decide) (fun c4 => ?_) (fun c4 => ?_)
  · replace h := it_f h c4
    exact z_etv X hlk hr hW hS h (by decide) (by decide) dX5_takeFromExit_22
  · replace h := it_t h c4
    refine lv_aload_n hx hb dX5_takeFromExit_17 rfl (lv_at hl 0 rfl) ?_
    refine lv_iconst (v := 0) hx hb dX5_takeFromExit_18 (by decide) ?_
    replace h := b1_some h
    obtain ⟨s5, gs5, h⟩ := h
    refine z_putZ X hW hS gs5 kX5 (by decide) (by decide) rfl (Or.inl rfl) kf_X5_25 dX5_takeFromExit_19 (fun H locs hW hS => ?_)
    exact z_etv X hlk hr hW hS h (by decide) (by decide) dX5_takeFromExit_22

set_option maxHeartbeats 4000000 in
set_option maxRecDepth 100000 in
theorem cX5_takeFromExit_met {l : Launch} {A : Nat → Prop} {D : va_G} {cy : Nat → ClassId} {r0 : Unit} {h0 : Hz} {o : Nat} {v1 : Int32} {h : Hz} (g : fX5_takeFromExit o v1 h = some (r0, h0)) : Met l yX5_takeFromExit (Cond.code yX5_takeFromExit cX5_takeFromExit 2 none :: wT) ({ frames := 0, cells := 0, slots := 0, locals := 0 } : Room) (va_Pc [.ref o, .int v1] (zS A D cy h)) (va_Qv (fun u => u = h0) (zB A D cy) A) 0 0 A := by
  refine Met.ofW (cc := cX5_takeFromExit) (maxL := 2) (ret := none) (by decide) rfl ?_
  intro p e s m args below meth c s₁ B hml hv
  obtain ⟨rfl, hW, hK, hN, hA⟩ := hv
  have X : zX A D cy p s m _ c cX5_takeFromExit RX5 2 := ⟨B.exec, B.bytes, fun w hw => atoms_spec (ws := Cond.code yX5_takeFromExit cX5_takeFromExit 2 none :: wT) B.pre w (List.mem_cons_of_mem _ hw), findClass_of_methodNamed B.named, hK, hml, hN, hA⟩
  have hl := lv_entry [.ref o, .int v1] (n := 2) (Nat.le_of_ble_eq_true rfl)
  rw [lg_entry_eq]
  generalize (lg_sl [.ref o, .int v1] ++ List.replicate (2 - (lg_sl [.ref o, .int v1]).length) Slot.unset).toArray = ls at hl ⊢
  have hl : lv_has ls 2 [(0, .ref o), (1, .int v1)] := hl
  exact wX5_takeFromExit_0 X B.notSynchronized B.returns o v1 _ _ _ _ (lv_sub hl [0, 1] rfl) hW va_S.rf g

theorem dX6_init_0 : decode cX6_init 0 = .ok (.aload_n 0, 1) := by decide +kernel
theorem dX6_init_1 : decode cX6_init 1 = .ok (.invokespecial 3, 3) := by decide +kernel
theorem dX6_init_4 : decode cX6_init 4 = .ok (.aload_n 0, 1) := by decide +kernel
theorem dX6_init_5 : decode cX6_init 5 = .ok (.sipush 300, 3) := by decide +kernel
theorem dX6_init_8 : decode cX6_init 8 = .ok (.anewarray 9, 3) := by decide +kernel
theorem dX6_init_11 : decode cX6_init 11 = .ok (.putfield 11, 3) := by decide +kernel
theorem dX6_init_14 : decode cX6_init 14 = .ok (.aload_n 0, 1) := by decide +kernel
theorem dX6_init_15 : decode cX6_init 15 = .ok (.iconst 0, 1) := by decide +kernel
theorem dX6_init_16 : decode cX6_init 16 = .ok (.putfield 17, 3) := by decide +kernel
theorem dX6_init_19 : decode cX6_init 19 = .ok (.return_, 1) := by decide +kernel
def fX6_init (o : Nat) (h : Hz) : Option (Unit × Hz) := (b2 (nA 17 300 300 h) fun a1 s2 => (b1 (pP 6 0 o (some a1) s2) fun s3 => (b1 (pI 6 1 o 0 s3) fun s4 => some ((), s4))))
set_option maxHeartbeats 4000000 in
set_option maxRecDepth 100000 in
theorem wX6_init_0 {r0 : Unit} {h0 : Hz} (X : zX A D cy p s m args c cX6_init RX6 1) (hlk : meth.locks = false) (hr : meth.sig.returnType = none) (hin : meth.name = "<init>") (o : Nat) (h : Hz) (H : Heap) (locs : List Loc) (ls : Array Slot) (hl : lv_has ls 1 [(0, .ref o)]) (hW : zW A cy D h H) (hS : va_S A s.heap H locs) (h : fX6_init o h = some (r0, h0)) : W p l e ({ frames := 1, cells := 1, slots := 300, locals := 12 } : Room) s m args below meth c H locs 0 0 (MQ below (va_Qv (fun u => u = h0) (zB A D cy) A) args s 1 300 A) (F0 m 0 ls []) := by
  obtain ⟨hx, hb, hts, hown, hK9, hml, hN9, hA9⟩ := id X
  unfold fX6_init at h
  refine lv_aload_n hx hb dX6_init_0 rfl (lv_at hl 0 rfl) ?_
  refine W.objInit hx hb hown (hts _ kl_X6_3) (hts _ km_objectInit) (hts _ kco) rfl (by rw [hml]; exact hl.1) rfl dX6_init_1 (Nat.le_of_ble_eq_true rfl) (Nat.le_of_ble_eq_true rfl) ?_
  refine W.eq (g2 := F0 m 4 ls []) rfl ?_
  refine lv_aload_n hx hb dX6_init_4 rfl (lv_at hl 0 rfl) ?_
  refine lv_sipush (v := 300) hx hb dX6_init_5 (by decide) ?_
  replace h := b2_some h
  obtain ⟨a1, s2, ga1, h⟩ := h
  refine z_newP X hW hS ga1 (by decide) (by decide) rfl kc_X6_9 hN9.2.2.2.1 (by decide) dX6_init_8 (by decide) (by decide) (fun H hW hS => ?_)
  replace h := b1_some h
  obtain ⟨s3, gs3, h⟩ := h
  refine z_putP X hW hS gs3 kX6 (by decide) (by decide) (Or.inr ⟨_, rfl⟩) (Or.inr ⟨rfl, hin, rfl⟩) kf_X6_11 dX6_init_11 (fun H locs hW hS => ?_)
  refine lv_aload_n hx hb dX6_init_14 rfl (lv_at hl 0 rfl) ?_
  refine lv_iconst (v := 0) hx hb dX6_init_15 (by decide) ?_
  replace h := b1_some h
  obtain ⟨s4, gs4, h⟩ := h
  refine z_putI X hW hS gs4 kX6 (by decide) (by decide) rfl (Or.inl rfl) kf_X6_17 dX6_init_16 (fun H locs hW hS => ?_)
  exact z_etv X hlk hr hW hS h (by decide) (by decide) dX6_init_19

set_option maxHeartbeats 4000000 in
set_option maxRecDepth 100000 in
theorem cX6_init_met {l : Launch} {A : Nat → Prop} {D : va_G} {cy : Nat → ClassId} {r0 : Unit} {h0 : Hz} {o : Nat} {h : Hz} (g : fX6_init o h = some (r0, h0)) : Met l yX6_init (Cond.code yX6_init cX6_init 1 none :: wT) ({ frames := 1, cells := 1, slots := 300, locals := 12 } : Room) (va_Pc [.ref o] (zS A D cy h)) (va_Qv (fun u => u = h0) (zB A D cy) A) 1 300 A := by
  refine Met.ofW (cc := cX6_init) (maxL := 1) (ret := none) (by decide) rfl ?_
  intro p e s m args below meth c s₁ B hml hv
  obtain ⟨rfl, hW, hK, hN, hA⟩ := hv
  have X : zX A D cy p s m _ c cX6_init RX6 1 := ⟨B.exec, B.bytes, fun w hw => atoms_spec (ws := Cond.code yX6_init cX6_init 1 none :: wT) B.pre w (List.mem_cons_of_mem _ hw), findClass_of_methodNamed B.named, hK, hml, hN, hA⟩
  have hin : meth.name = "<init>" := (name_of_methodNamed B.named B.method).1
  have hl := lv_entry [.ref o] (n := 1) (Nat.le_of_ble_eq_true rfl)
  rw [lg_entry_eq]
  generalize (lg_sl [.ref o] ++ List.replicate (1 - (lg_sl [.ref o]).length) Slot.unset).toArray = ls at hl ⊢
  have hl : lv_has ls 1 [(0, .ref o)] := hl
  exact wX6_init_0 X B.notSynchronized B.returns hin o _ _ _ _ (lv_sub hl [0] rfl) hW va_S.rf g

theorem dX6_sizeThere_0 : decode cX6_sizeThere 0 = .ok (.iconst 0, 1) := by decide +kernel
theorem dX6_sizeThere_1 : decode cX6_sizeThere 1 = .ok (.istore_n 1, 1) := by decide +kernel
theorem dX6_sizeThere_2 : decode cX6_sizeThere 2 = .ok (.iconst 0, 1) := by decide +kernel
theorem dX6_sizeThere_3 : decode cX6_sizeThere 3 = .ok (.istore_n 2, 1) := by decide +kernel
theorem dX6_sizeThere_4 : decode cX6_sizeThere 4 = .ok (.iload_n 2, 1) := by decide +kernel
theorem dX6_sizeThere_5 : decode cX6_sizeThere 5 = .ok (.aload_n 0, 1) := by decide +kernel
theorem dX6_sizeThere_6 : decode cX6_sizeThere 6 = .ok (.getfield 17, 3) := by decide +kernel
theorem dX6_sizeThere_9 : decode cX6_sizeThere 9 = .ok (.if_icmp .ge 20, 3) := by decide +kernel
theorem dX6_sizeThere_12 : decode cX6_sizeThere 12 = .ok (.aload_n 0, 1) := by decide +kernel
theorem dX6_sizeThere_13 : decode cX6_sizeThere 13 = .ok (.iload_n 2, 1) := by decide +kernel
theorem dX6_sizeThere_14 : decode cX6_sizeThere 14 = .ok (.invokevirtual 21, 3) := by decide +kernel
theorem dX6_sizeThere_17 : decode cX6_sizeThere 17 = .ok (.ifnull 6, 3) := by decide +kernel
theorem dX6_sizeThere_20 : decode cX6_sizeThere 20 = .ok (.iinc 1 1, 3) := by decide +kernel
theorem dX6_sizeThere_23 : decode cX6_sizeThere 23 = .ok (.iinc 2 1, 3) := by decide +kernel
theorem dX6_sizeThere_26 : decode cX6_sizeThere 26 = .ok (.goto (-22), 3) := by decide +kernel
theorem dX6_sizeThere_29 : decode cX6_sizeThere 29 = .ok (.iload_n 1, 1) := by decide +kernel
theorem dX6_sizeThere_30 : decode cX6_sizeThere 30 = .ok (.ireturn, 1) := by decide +kernel
def fX6_sizeThere_4 : Nat → Nat → Int32 → Int32 → Hz → Option (Int32 × Hz)
  | 0, _, _, _, _ => none
  | n + 1, o, v1, v2, h => (b1 (gI 6 1 o h) fun x1 => (if x1 ≤ v2 then some (v1, h) else (b1 (tg 6 o h) fun _ => (b2 (fX6_find o v2 h) fun r4 s5 => (oe r4 (fX6_sizeThere_4 n o v1 (v2 + 1) s5) fun a6 => fX6_sizeThere_4 n o (v1 + 1) (v2 + 1) s5)))))
set_option maxHeartbeats 4000000 in
set_option maxRecDepth 100000 in
theorem wX6_sizeThere_4 {r0 : Int32} {h0 : Hz} (X : zX A D cy p s m args c cX6_sizeThere RX6 3) (hlk : meth.locks = false) (hr : meth.sig.returnType = (some .int)) : ∀ (n : Nat) (o : Nat) (v1 : Int32) (v2 : Int32) (h : Hz) (H : Heap) (locs : List Loc) (ls : Array Slot) (hl : lv_has ls 3 [(0, .ref o), (1, .int v1), (2, .int v2)]) (hW : zW A cy D h H) (hS : va_S A s.heap H locs) (h : fX6_sizeThere_4 n o v1 v2 h = some (r0, h0)), W p l e ({ frames := 1, cells := 0, slots := 0, locals := 22 } : Room) s m args below meth c H locs 0 0 (MQ below (va_Qi (fun r1 u => r1 = r0 ∧ u = h0) (zB A D cy) A) args s 0 0 A) (F0 m 4 ls []) := by
  obtain ⟨hx, hb, hts, hown, hK9, hml, hN9, hA9⟩ := id X
  intro n
  induction n with
  | zero =>
    intro o v1 v2 h H locs ls hl hW hS h
    rw [fX6_sizeThere_4] at h
    cases h
  | succ n ih =>
    intro o v1 v2 h H locs ls hl hW hS h
    rw [fX6_sizeThere_4] at h
    refine lv_iload_n hx hb dX6_sizeThere_4 rfl (lv_at hl 2 rfl) ?_
    refine lv_aload_n hx hb dX6_sizeThere_5 rfl (lv_at hl 0 rfl) ?_
    replace h := b1_some h
    obtain ⟨x1, gx1, h⟩ := h
    refine z_getI X hW gx1 kX6 (by decide) (by decide) kf_X6_17 dX6_sizeThere_6 ?_
    refine lv_icmp_ge (tgt := 29) hx hb dX6_sizeThere_9 (by decide) (fun c2 => ?_) (fun c2 => ?_)
    · replace h := it_t h c2
      refine lv_iload_n hx hb dX6_sizeThere_29 rfl (lv_at hl 1 rfl) ?_
      exact z_eti X hlk hr hW hS h (by decide) (by decide) dX6_sizeThere_30
    · replace h := it_f h c2
      refine lv_aload_n hx hb dX6_sizeThere_12 rfl (lv_at hl 0 rfl) ?_
      refine lv_iload_n hx hb dX6_sizeThere_13 rfl (lv_at hl 2 rfl) ?_
      replace h := b1_some h
      obtain ⟨q3, gq3, h⟩ := h
      replace h := b2_some h
      obtain ⟨r4, s5, gs5, h⟩ := h
      refine z_callVq (rest := []) X hW hS (cX6_find_met gs5) kb_X6_find kv_X6_find kl_X6_21 (it_v gq3).1 kX6 rfl rfl ⟨Nat.le_of_ble_eq_true rfl, Nat.le_of_ble_eq_true rfl⟩ rfl rfl (by decide) hl.1 dX6_sizeThere_14 ⟨(by decide), (by decide)⟩ (fun H locs hW hS => ?_)
      cases r4 with
      | none =>
        replace h := oe_n h
        have hl : lv_has ls 3 [(0, .ref o), (1, .int v1), (2, .int v2)] := hl
        refine lv_ifnullN (tgt := 23) hx hb dX6_sizeThere_17 (by decide) ?_
        refine lv_iinc (v := (v2 + 1)) (lv' := [(2, .int (v2 + 1)), (0, .ref o), (1, .int v1)]) hx hb dX6_sizeThere_23 hl (k := 2) rfl rfl (by decide) rfl (fun ls hl => ?_)
        refine lv_goto (tgt := 4) hx hb dX6_sizeThere_26 (by decide) ?_
        exact ih o v1 (v2 + 1) _ _ _ _ (lv_sub hl [1, 2, 0] rfl) hW hS h
      | some a6 =>
        replace h := oe_s h
        have hl : lv_has ls 3 [(0, .ref o), (1, .int v1), (2, .int v2)] := hl
        refine lv_ifnull hx hb dX6_sizeThere_17 ?_
        refine lv_iinc (v := (v1 + 1)) (lv' := [(1, .int (v1 + 1)), (0, .ref o), (2, .int v2)]) hx hb dX6_sizeThere_20 hl (k := 1) rfl rfl (by decide) rfl (fun ls hl => ?_)
        refine lv_iinc (v := (v2 + 1)) (lv' := [(2, .int (v2 + 1)), (1, .int (v1 + 1)), (0, .ref o)]) hx hb dX6_sizeThere_23 hl (k := 2) rfl rfl (by decide) rfl (fun ls hl => ?_)
        refine lv_goto (tgt := 4) hx hb dX6_sizeThere_26 (by decide) ?_
        exact ih o (v1 + 1) (v2 + 1) _ _ _ _ (lv_sub hl [2, 1, 0] rfl) hW hS h

def fX6_sizeThere (o : Nat) (h : Hz) : Option (Int32 × Hz) := fX6_sizeThere_4 100000 o 0 0 h
set_option maxHeartbeats 4000000 in
set_option maxRecDepth 100000 in
theorem wX6_sizeThere_0 {r0 : Int32} {h0 : Hz} (X : zX A D cy p s m args c cX6_sizeThere RX6 3) (hlk : meth.locks = false) (hr : meth.sig.returnType = (some .int)) (o : Nat) (h : Hz) (H : Heap) (locs : List Loc) (ls : Array Slot) (hl : lv_has ls 3 [(0, .ref o)]) (hW : zW A cy D h H) (hS : va_S A s.heap H locs) (h : fX6_sizeThere o h = some (r0, h0)) : W p l e ({ frames := 1, cells := 0, slots := 0, locals := 22 } : Room) s m args below meth c H locs 0 0 (MQ below (va_Qi (fun r1 u => r1 = r0 ∧ u = h0) (zB A D cy) A) args s 0 0 A) (F0 m 0 ls []) := by
  obtain ⟨hx, hb, hts, hown, hK9, hml, hN9, hA9⟩ := id X
  unfold fX6_sizeThere at h
  refine lv_iconst (v := 0) hx hb dX6_sizeThere_0 (by decide) ?_
  refine lv_istore_n (lv' := [(1, .int 0), (0, .ref o)]) hx hb dX6_sizeThere_1 rfl hl (by decide) rfl (fun ls hl => ?_)
  refine lv_iconst (v := 0) hx hb dX6_sizeThere_2 (by decide) ?_
  refine lv_istore_n (lv' := [(2, .int 0), (1, .int 0), (0, .ref o)]) hx hb dX6_sizeThere_3 rfl hl (by decide) rfl (fun ls hl => ?_)
  exact wX6_sizeThere_4 X hlk hr _ o 0 0 _ _ _ _ (lv_sub hl [2, 1, 0] rfl) hW hS h

set_option maxHeartbeats 4000000 in
set_option maxRecDepth 100000 in
theorem cX6_sizeThere_met {l : Launch} {A : Nat → Prop} {D : va_G} {cy : Nat → ClassId} {r0 : Int32} {h0 : Hz} {o : Nat} {h : Hz} (g : fX6_sizeThere o h = some (r0, h0)) : Met l yX6_sizeThere (Cond.code yX6_sizeThere cX6_sizeThere 3 (some .int) :: wT) ({ frames := 1, cells := 0, slots := 0, locals := 22 } : Room) (va_Pc [.ref o] (zS A D cy h)) (va_Qi (fun r1 u => r1 = r0 ∧ u = h0) (zB A D cy) A) 0 0 A := by
  refine Met.ofW (cc := cX6_sizeThere) (maxL := 3) (ret := (some .int)) (by decide) rfl ?_
  intro p e s m args below meth c s₁ B hml hv
  obtain ⟨rfl, hW, hK, hN, hA⟩ := hv
  have X : zX A D cy p s m _ c cX6_sizeThere RX6 3 := ⟨B.exec, B.bytes, fun w hw => atoms_spec (ws := Cond.code yX6_sizeThere cX6_sizeThere 3 (some .int) :: wT) B.pre w (List.mem_cons_of_mem _ hw), findClass_of_methodNamed B.named, hK, hml, hN, hA⟩
  have hl := lv_entry [.ref o] (n := 3) (Nat.le_of_ble_eq_true rfl)
  rw [lg_entry_eq]
  generalize (lg_sl [.ref o] ++ List.replicate (3 - (lg_sl [.ref o]).length) Slot.unset).toArray = ls at hl ⊢
  have hl : lv_has ls 3 [(0, .ref o)] := hl
  exact wX6_sizeThere_0 X B.notSynchronized B.returns o _ _ _ _ (lv_sub hl [0] rfl) hW va_S.rf g

theorem dX6_make_0 : decode cX6_make 0 = .ok (.aload_n 0, 1) := by decide +kernel
theorem dX6_make_1 : decode cX6_make 1 = .ok (.getfield 17, 3) := by decide +kernel
theorem dX6_make_4 : decode cX6_make 4 = .ok (.aload_n 0, 1) := by decide +kernel
theorem dX6_make_5 : decode cX6_make 5 = .ok (.getfield 11, 3) := by decide +kernel
theorem dX6_make_8 : decode cX6_make 8 = .ok (.arraylength, 1) := by decide +kernel
theorem dX6_make_9 : decode cX6_make 9 = .ok (.if_icmp .lt 5, 3) := by decide +kernel
theorem dX6_make_12 : decode cX6_make 12 = .ok (.aconst_null, 1) := by decide +kernel
theorem dX6_make_13 : decode cX6_make 13 = .ok (.areturn, 1) := by decide +kernel
theorem dX6_make_14 : decode cX6_make 14 = .ok (.new 9, 3) := by decide +kernel
theorem dX6_make_17 : decode cX6_make 17 = .ok (.dup, 1) := by decide +kernel
theorem dX6_make_18 : decode cX6_make 18 = .ok (.aload_n 0, 1) := by decide +kernel
theorem dX6_make_19 : decode cX6_make 19 = .ok (.getfield 17, 3) := by decide +kernel
theorem dX6_make_22 : decode cX6_make 22 = .ok (.iload_n 1, 1) := by decide +kernel
theorem dX6_make_23 : decode cX6_make 23 = .ok (.iload_n 2, 1) := by decide +kernel
theorem dX6_make_24 : decode cX6_make 24 = .ok (.iload_n 3, 1) := by decide +kernel
theorem dX6_make_25 : decode cX6_make 25 = .ok (.invokespecial 25, 3) := by decide +kernel
theorem dX6_make_28 : decode cX6_make 28 = .ok (.astore 4, 2) := by decide +kernel
theorem dX6_make_30 : decode cX6_make 30 = .ok (.aload_n 0, 1) := by decide +kernel
theorem dX6_make_31 : decode cX6_make 31 = .ok (.getfield 11, 3) := by decide +kernel
theorem dX6_make_34 : decode cX6_make 34 = .ok (.aload_n 0, 1) := by decide +kernel
theorem dX6_make_35 : decode cX6_make 35 = .ok (.getfield 17, 3) := by decide +kernel
theorem dX6_make_38 : decode cX6_make 38 = .ok (.aload 4, 2) := by decide +kernel
theorem dX6_make_40 : decode cX6_make 40 = .ok (.aastore, 1) := by decide +kernel
theorem dX6_make_41 : decode cX6_make 41 = .ok (.aload_n 0, 1) := by decide +kernel
theorem dX6_make_42 : decode cX6_make 42 = .ok (.dup, 1) := by decide +kernel
theorem dX6_make_43 : decode cX6_make 43 = .ok (.getfield 17, 3) := by decide +kernel
theorem dX6_make_46 : decode cX6_make 46 = .ok (.iconst 1, 1) := by decide +kernel
theorem dX6_make_47 : decode cX6_make 47 = .ok (.iadd, 1) := by decide +kernel
theorem dX6_make_48 : decode cX6_make 48 = .ok (.putfield 17, 3) := by decide +kernel
theorem dX6_make_51 : decode cX6_make 51 = .ok (.aload 4, 2) := by decide +kernel
theorem dX6_make_53 : decode cX6_make 53 = .ok (.areturn, 1) := by decide +kernel
def fX6_make (o : Nat) (v1 : Int32) (v2 : Int32) (v3 : Int32) (h : Hz) : Option (Option Nat × Hz) := (b1 (gI 6 1 o h) fun x1 => (b1 (gA 6 0 o h) fun a2 => (b1 (xN 17 a2 h) fun x3 => (if x1 < x3 then (b2 (nO 5 h) fun a5 s6 => (b1 (gI 6 1 o s6) fun x7 => (b2 (fX5_init a5 x7 v1 v2 v3 s6) fun _ s9 => (b1 (gA 6 0 o s9) fun a10 => (b1 (gI 6 1 o s9) fun x11 => (b1 (yP 17 5 a10 x11 (some a5) s9) fun s12 => (b1 (gI 6 1 o s12) fun x13 => (b1 (pI 6 1 o (x13 + 1) s12) fun s14 => some ((some a5), s14))))))))) else some (none, h)))))
set_option maxHeartbeats 4000000 in
set_option maxRecDepth 100000 in
theorem wX6_make_0 {r0 : Option Nat} {h0 : Hz} (X : zX A D cy p s m args c cX6_make RX6 5) (hlk : meth.locks = false) (hr : meth.sig.returnType = (some (.object "FarHold$Thing"))) (o : Nat) (v1 : Int32) (v2 : Int32) (v3 : Int32) (h : Hz) (H : Heap) (locs : List Loc) (ls : Array Slot) (hl : lv_has ls 5 [(0, .ref o), (1, .int v1), (2, .int v2), (3, .int v3)]) (hW : zW A cy D h H) (hS : va_S A s.heap H locs) (h : fX6_make o v1 v2 v3 h = some (r0, h0)) : W p l e ({ frames := 2, cells := 3, slots := 27, locals := 39 } : Room) s m args below meth c H locs 0 0 (MQ below (va_Qq (fun r1 u => r1 = r0 ∧ u = h0) (zB A D cy) A) args s 3 27 A) (F0 m 0 ls []) := by
  obtain ⟨hx, hb, hts, hown, hK9, hml, hN9, hA9⟩ := id X
  unfold fX6_make at h
  refine lv_aload_n hx hb dX6_make_0 rfl (lv_at hl 0 rfl) ?_
  replace h := b1_some h
  obtain ⟨x1, gx1, h⟩ := h
  refine z_getI X hW gx1 kX6 (by decide) (by decide) kf_X6_17 dX6_make_1 ?_
  refine lv_aload_n hx hb dX6_make_4 rfl (lv_at hl 0 rfl) ?_
  replace h := b1_some h
  obtain ⟨a2, ga2, h⟩ := h
  refine z_getA X hW ga2 kX6 (by decide) (by decide) kf_X6_11 dX6_make_5 ?_
  replace h := b1_some h
  obtain ⟨x3, gx3, h⟩ := h
  refine z_alenP X hW gx3 (by decide) (by decide) rfl dX6_make_8 ?_
  refine lv_icmp_lt (tgt := 14) hx hb dX6_make_9 (by decide) (fun c4 => ?_) (fun c4 => ?_)
  · replace h := it_t h c4
    replace h := b2_some h
    obtain ⟨a5, s6, ga5, h⟩ := h
    refine z_new X hW hS ga5 kX5 kd_X5 kc_X6_9 kn_X5 ki_8 dX6_make_14 (by decide) (by decide) (fun H hW hS => ?_)
    refine lv_dup hx hb dX6_make_17 rfl ?_
    refine lv_aload_n hx hb dX6_make_18 rfl (lv_at hl 0 rfl) ?_
    replace h := b1_some h
    obtain ⟨x7, gx7, h⟩ := h
    refine z_getI X hW gx7 kX6 (by decide) (by decide) kf_X6_17 dX6_make_19 ?_
    refine lv_iload_n hx hb dX6_make_22 rfl (lv_at hl 1 rfl) ?_
    refine lv_iload_n hx hb dX6_make_23 rfl (lv_at hl 2 rfl) ?_
    refine lv_iload_n hx hb dX6_make_24 rfl (lv_at hl 3 rfl) ?_
    replace h := b2_some h
    obtain ⟨_ur8, s9, gs9, h⟩ := h
    refine z_callIv (rest := [.ref a5]) X hW hS (cX5_init_met gs9) kb_X5_init km_X5_init rfl kl_X6_25 rfl rfl ⟨Nat.le_of_ble_eq_true rfl, Nat.le_of_ble_eq_true rfl⟩ rfl rfl (Nat.le_of_ble_eq_true rfl) hl.1 dX6_make_25 ⟨(by decide), (by decide)⟩ (fun H locs hW hS => ?_)
    refine lv_astore (lv' := [(4, .ref a5), (0, .ref o), (1, .int v1), (2, .int v2), (3, .int v3)]) hx hb dX6_make_28 hl (by decide) rfl (fun ls hl => ?_)
    refine lv_aload_n hx hb dX6_make_30 rfl (lv_at hl 1 rfl) ?_
    replace h := b1_some h
    obtain ⟨a10, ga10, h⟩ := h
    refine z_getA X hW ga10 kX6 (by decide) (by decide) kf_X6_11 dX6_make_31 ?_
    refine lv_aload_n hx hb dX6_make_34 rfl (lv_at hl 1 rfl) ?_
    replace h := b1_some h
    obtain ⟨x11, gx11, h⟩ := h
    refine z_getI X hW gx11 kX6 (by decide) (by decide) kf_X6_17 dX6_make_35 ?_
    refine lv_aload hx hb dX6_make_38 (lv_at hl 0 rfl) ?_
    replace h := b1_some h
    obtain ⟨s12, gs12, h⟩ := h
    refine z_astP X hW hS gs12 (by decide) (by decide) kX5 rfl dX6_make_40 (fun H locs hW hS => ?_)
    refine lv_aload_n hx hb dX6_make_41 rfl (lv_at hl 1 rfl) ?_
    refine lv_dup hx hb dX6_make_42 rfl ?_
    replace h := b1_some h
    obtain ⟨x13, gx13, h⟩ := h
    refine z_getI X hW gx13 kX6 (by decide) (by decide) kf_X6_17 dX6_make_43 ?_
    refine lv_iconst (v := 1) hx hb dX6_make_46 (by decide) ?_
    refine lv_iadd hx hb dX6_make_47 ?_
    replace h := b1_some h
    obtain ⟨s14, gs14, h⟩ := h
    refine z_putI X hW hS gs14 kX6 (by decide) (by decide) rfl (Or.inl rfl) kf_X6_17 dX6_make_48 (fun H locs hW hS => ?_)
    refine lv_aload hx hb dX6_make_51 (lv_at hl 0 rfl) ?_
    exact z_eta (v := (some a5)) X hlk hr hW hS h (by decide) (by decide) dX6_make_53
  · replace h := it_f h c4
    refine lv_null hx hb dX6_make_12 ?_
    exact z_eta (v := none) X hlk hr hW hS h (by decide) (by decide) dX6_make_13

set_option maxHeartbeats 4000000 in
set_option maxRecDepth 100000 in
theorem cX6_make_met {l : Launch} {A : Nat → Prop} {D : va_G} {cy : Nat → ClassId} {r0 : Option Nat} {h0 : Hz} {o : Nat} {v1 : Int32} {v2 : Int32} {v3 : Int32} {h : Hz} (g : fX6_make o v1 v2 v3 h = some (r0, h0)) : Met l yX6_make (Cond.code yX6_make cX6_make 5 (some (.object "FarHold$Thing")) :: wT) ({ frames := 2, cells := 3, slots := 27, locals := 39 } : Room) (va_Pc [.ref o, .int v1, .int v2, .int v3] (zS A D cy h)) (va_Qq (fun r1 u => r1 = r0 ∧ u = h0) (zB A D cy) A) 3 27 A := by
  refine Met.ofW (cc := cX6_make) (maxL := 5) (ret := (some (.object "FarHold$Thing"))) (by decide) rfl ?_
  intro p e s m args below meth c s₁ B hml hv
  obtain ⟨rfl, hW, hK, hN, hA⟩ := hv
  have X : zX A D cy p s m _ c cX6_make RX6 5 := ⟨B.exec, B.bytes, fun w hw => atoms_spec (ws := Cond.code yX6_make cX6_make 5 (some (.object "FarHold$Thing")) :: wT) B.pre w (List.mem_cons_of_mem _ hw), findClass_of_methodNamed B.named, hK, hml, hN, hA⟩
  have hl := lv_entry [.ref o, .int v1, .int v2, .int v3] (n := 5) (Nat.le_of_ble_eq_true rfl)
  rw [lg_entry_eq]
  generalize (lg_sl [.ref o, .int v1, .int v2, .int v3] ++ List.replicate (5 - (lg_sl [.ref o, .int v1, .int v2, .int v3]).length) Slot.unset).toArray = ls at hl ⊢
  have hl : lv_has ls 5 [(0, .ref o), (1, .int v1), (2, .int v2), (3, .int v3)] := hl
  exact wX6_make_0 X B.notSynchronized B.returns o v1 v2 v3 _ _ _ _ (lv_sub hl [0, 1, 2, 3] rfl) hW va_S.rf g

theorem dX6_ever_0 : decode cX6_ever 0 = .ok (.iload_n 1, 1) := by decide +kernel
theorem dX6_ever_1 : decode cX6_ever 1 = .ok (.ifCond .lt 29, 3) := by decide +kernel
theorem dX6_ever_4 : decode cX6_ever 4 = .ok (.iload_n 1, 1) := by decide +kernel
theorem dX6_ever_5 : decode cX6_ever 5 = .ok (.aload_n 0, 1) := by decide +kernel
theorem dX6_ever_6 : decode cX6_ever 6 = .ok (.getfield 17, 3) := by decide +kernel
theorem dX6_ever_9 : decode cX6_ever 9 = .ok (.if_icmp .ge 21, 3) := by decide +kernel
theorem dX6_ever_12 : decode cX6_ever 12 = .ok (.iload_n 1, 1) := by decide +kernel
theorem dX6_ever_13 : decode cX6_ever 13 = .ok (.aload_n 0, 1) := by decide +kernel
theorem dX6_ever_14 : decode cX6_ever 14 = .ok (.getfield 11, 3) := by decide +kernel
theorem dX6_ever_17 : decode cX6_ever 17 = .ok (.arraylength, 1) := by decide +kernel
theorem dX6_ever_18 : decode cX6_ever 18 = .ok (.if_icmp .ge 12, 3) := by decide +kernel
theorem dX6_ever_21 : decode cX6_ever 21 = .ok (.aload_n 0, 1) := by decide +kernel
theorem dX6_ever_22 : decode cX6_ever 22 = .ok (.getfield 11, 3) := by decide +kernel
theorem dX6_ever_25 : decode cX6_ever 25 = .ok (.iload_n 1, 1) := by decide +kernel
theorem dX6_ever_26 : decode cX6_ever 26 = .ok (.aaload, 1) := by decide +kernel
theorem dX6_ever_27 : decode cX6_ever 27 = .ok (.goto 4, 3) := by decide +kernel
theorem dX6_ever_30 : decode cX6_ever 30 = .ok (.aconst_null, 1) := by decide +kernel
theorem dX6_ever_31 : decode cX6_ever 31 = .ok (.areturn, 1) := by decide +kernel
def fX6_ever (o : Nat) (v1 : Int32) (h : Hz) : Option (Option Nat × Hz) := (if v1 < 0 then some (none, h) else (b1 (gI 6 1 o h) fun x2 => (if x2 ≤ v1 then some (none, h) else (b1 (gA 6 0 o h) fun a4 => (b1 (xN 17 a4 h) fun x5 => (if x5 ≤ v1 then some (none, h) else (b1 (gA 6 0 o h) fun a7 => (b1 (xP 17 a7 v1 h) fun r8 => some (r8, h)))))))))
set_option maxHeartbeats 4000000 in
set_option maxRecDepth 100000 in
theorem wX6_ever_0 {r0 : Option Nat} {h0 : Hz} (X : zX A D cy p s m args c cX6_ever RX6 2) (hlk : meth.locks = false) (hr : meth.sig.returnType = (some (.object "FarHold$Thing"))) (o : Nat) (v1 : Int32) (h : Hz) (H : Heap) (locs : List Loc) (ls : Array Slot) (hl : lv_has ls 2 [(0, .ref o), (1, .int v1)]) (hW : zW A cy D h H) (hS : va_S A s.heap H locs) (h : fX6_ever o v1 h = some (r0, h0)) : W p l e ({ frames := 0, cells := 0, slots := 0, locals := 0 } : Room) s m args below meth c H locs 0 0 (MQ below (va_Qq (fun r1 u => r1 = r0 ∧ u = h0) (zB A D cy) A) args s 0 0 A) (F0 m 0 ls []) := by
  obtain ⟨hx, hb, hts, hown, hK9, hml, hN9, hA9⟩ := id X
  unfold fX6_ever at h
  refine lv_iload_n hx hb dX6_ever_0 rfl (lv_at hl 1 rfl) ?_
  refine lv_if_lt (tgt := 30) hx hb dX6_ever_1 (by decide) (fun c1 => ?_) (fun c1 => ?_)
  · replace h := it_t h c1
    refine lv_null hx hb dX6_ever_30 ?_
    exact z_eta (v := none) X hlk hr hW hS h (by decide) (by decide) dX6_ever_31
  · replace h := it_f h c1
    refine lv_iload_n hx hb dX6_ever_4 rfl (lv_at hl 1 rfl) ?_
    refine lv_aload_n hx hb dX6_ever_5 rfl (lv_at hl 0 rfl) ?_
    replace h := b1_some h
    obtain ⟨x2, gx2, h⟩ := h
    refine z_getI X hW gx2 kX6 (by decide) (by decide) kf_X6_17 dX6_ever_6 ?_
    refine lv_icmp_ge (tgt := 30) hx hb dX6_ever_9 (by decide) (fun c3 => ?_) (fun c3 => ?_)
    · replace h := it_t h c3
      refine lv_null hx hb dX6_ever_30 ?_
      exact z_eta (v := none) X hlk hr hW hS h (by decide) (by decide) dX6_ever_31
    · replace h := it_f h c3
      refine lv_iload_n hx hb dX6_ever_12 rfl (lv_at hl 1 rfl) ?_
      refine lv_aload_n hx hb dX6_ever_13 rfl (lv_at hl 0 rfl) ?_
      replace h := b1_some h
      obtain ⟨a4, ga4, h⟩ := h
      refine z_getA X hW ga4 kX6 (by decide) (by decide) kf_X6_11 dX6_ever_14 ?_
      replace h := b1_some h
      obtain ⟨x5, gx5, h⟩ := h
      refine z_alenP X hW gx5 (by decide) (by decide) rfl dX6_ever_17 ?_
      refine lv_icmp_ge (tgt := 30) hx hb dX6_ever_18 (by decide) (fun c6 => ?_) (fun c6 => ?_)
      · replace h := it_t h c6
        refine lv_null hx hb dX6_ever_30 ?_
        exact z_eta (v := none) X hlk hr hW hS h (by decide) (by decide) dX6_ever_31
      · replace h := it_f h c6
        refine lv_aload_n hx hb dX6_ever_21 rfl (lv_at hl 0 rfl) ?_
        replace h := b1_some h
        obtain ⟨a7, ga7, h⟩ := h
        refine z_getA X hW ga7 kX6 (by decide) (by decide) kf_X6_11 dX6_ever_22 ?_
        refine lv_iload_n hx hb dX6_ever_25 rfl (lv_at hl 1 rfl) ?_
        replace h := b1_some h
        obtain ⟨r8, gr8, h⟩ := h
        refine z_aldP X hW gr8 (by decide) (by decide) rfl dX6_ever_26 ?_
        refine lv_goto (tgt := 31) hx hb dX6_ever_27 (by decide) ?_
        exact z_eta (v := r8) X hlk hr hW hS h (by decide) (by decide) dX6_ever_31

set_option maxHeartbeats 4000000 in
set_option maxRecDepth 100000 in
theorem cX6_ever_met {l : Launch} {A : Nat → Prop} {D : va_G} {cy : Nat → ClassId} {r0 : Option Nat} {h0 : Hz} {o : Nat} {v1 : Int32} {h : Hz} (g : fX6_ever o v1 h = some (r0, h0)) : Met l yX6_ever (Cond.code yX6_ever cX6_ever 2 (some (.object "FarHold$Thing")) :: wT) ({ frames := 0, cells := 0, slots := 0, locals := 0 } : Room) (va_Pc [.ref o, .int v1] (zS A D cy h)) (va_Qq (fun r1 u => r1 = r0 ∧ u = h0) (zB A D cy) A) 0 0 A := by
  refine Met.ofW (cc := cX6_ever) (maxL := 2) (ret := (some (.object "FarHold$Thing"))) (by decide) rfl ?_
  intro p e s m args below meth c s₁ B hml hv
  obtain ⟨rfl, hW, hK, hN, hA⟩ := hv
  have X : zX A D cy p s m _ c cX6_ever RX6 2 := ⟨B.exec, B.bytes, fun w hw => atoms_spec (ws := Cond.code yX6_ever cX6_ever 2 (some (.object "FarHold$Thing")) :: wT) B.pre w (List.mem_cons_of_mem _ hw), findClass_of_methodNamed B.named, hK, hml, hN, hA⟩
  have hl := lv_entry [.ref o, .int v1] (n := 2) (Nat.le_of_ble_eq_true rfl)
  rw [lg_entry_eq]
  generalize (lg_sl [.ref o, .int v1] ++ List.replicate (2 - (lg_sl [.ref o, .int v1]).length) Slot.unset).toArray = ls at hl ⊢
  have hl : lv_has ls 2 [(0, .ref o), (1, .int v1)] := hl
  exact wX6_ever_0 X B.notSynchronized B.returns o v1 _ _ _ _ (lv_sub hl [0, 1] rfl) hW va_S.rf g

theorem dX6_gateAt_0 : decode cX6_gateAt 0 = .ok (.iconst 0, 1) := by decide +kernel
theorem dX6_gateAt_1 : decode cX6_gateAt 1 = .ok (.istore_n 3, 1) := by decide +kernel
theorem dX6_gateAt_2 : decode cX6_gateAt 2 = .ok (.iload_n 3, 1) := by decide +kernel
theorem dX6_gateAt_3 : decode cX6_gateAt 3 = .ok (.aload_n 0, 1) := by decide +kernel
theorem dX6_gateAt_4 : decode cX6_gateAt 4 = .ok (.getfield 17, 3) := by decide +kernel
theorem dX6_gateAt_7 : decode cX6_gateAt 7 = .ok (.if_icmp .ge 51, 3) := by decide +kernel
theorem dX6_gateAt_10 : decode cX6_gateAt 10 = .ok (.aload_n 0, 1) := by decide +kernel
theorem dX6_gateAt_11 : decode cX6_gateAt 11 = .ok (.iload_n 3, 1) := by decide +kernel
theorem dX6_gateAt_12 : decode cX6_gateAt 12 = .ok (.invokevirtual 21, 3) := by decide +kernel
theorem dX6_gateAt_15 : decode cX6_gateAt 15 = .ok (.astore 4, 2) := by decide +kernel
theorem dX6_gateAt_17 : decode cX6_gateAt 17 = .ok (.aload 4, 2) := by decide +kernel
theorem dX6_gateAt_19 : decode cX6_gateAt 19 = .ok (.ifnull 33, 3) := by decide +kernel
theorem dX6_gateAt_22 : decode cX6_gateAt 22 = .ok (.aload 4, 2) := by decide +kernel
theorem dX6_gateAt_24 : decode cX6_gateAt 24 = .ok (.getfield 32, 3) := by decide +kernel
theorem dX6_gateAt_27 : decode cX6_gateAt 27 = .ok (.iconst 3, 1) := by decide +kernel
theorem dX6_gateAt_28 : decode cX6_gateAt 28 = .ok (.if_icmp .ne 24, 3) := by decide +kernel
theorem dX6_gateAt_31 : decode cX6_gateAt 31 = .ok (.aload 4, 2) := by decide +kernel
theorem dX6_gateAt_33 : decode cX6_gateAt 33 = .ok (.getfield 35, 3) := by decide +kernel
theorem dX6_gateAt_36 : decode cX6_gateAt 36 = .ok (.iload_n 1, 1) := by decide +kernel
theorem dX6_gateAt_37 : decode cX6_gateAt 37 = .ok (.if_icmp .ne 15, 3) := by decide +kernel
theorem dX6_gateAt_40 : decode cX6_gateAt 40 = .ok (.aload 4, 2) := by decide +kernel
theorem dX6_gateAt_42 : decode cX6_gateAt 42 = .ok (.getfield 38, 3) := by decide +kernel
theorem dX6_gateAt_45 : decode cX6_gateAt 45 = .ok (.aload_n 2, 1) := by decide +kernel
theorem dX6_gateAt_46 : decode cX6_gateAt 46 = .ok (.if_acmp .ne 6, 3) := by decide +kernel
theorem dX6_gateAt_49 : decode cX6_gateAt 49 = .ok (.aload 4, 2) := by decide +kernel
theorem dX6_gateAt_51 : decode cX6_gateAt 51 = .ok (.areturn, 1) := by decide +kernel
theorem dX6_gateAt_52 : decode cX6_gateAt 52 = .ok (.iinc 3 1, 3) := by decide +kernel
theorem dX6_gateAt_55 : decode cX6_gateAt 55 = .ok (.goto (-53), 3) := by decide +kernel
theorem dX6_gateAt_58 : decode cX6_gateAt 58 = .ok (.aconst_null, 1) := by decide +kernel
theorem dX6_gateAt_59 : decode cX6_gateAt 59 = .ok (.areturn, 1) := by decide +kernel
def fX6_gateAt_2 : Nat → Nat → Int32 → Option Nat → Int32 → Hz → Option (Option Nat × Hz)
  | 0, _, _, _, _, _ => none
  | n + 1, o, v1, v2, v3, h => (b1 (gI 6 1 o h) fun x1 => (if x1 ≤ v3 then some (none, h) else (b1 (tg 6 o h) fun _ => (b2 (fX6_find o v3 h) fun r4 s5 => (oe r4 (fX6_gateAt_2 n o v1 v2 (v3 + 1) s5) fun a6 => (b1 (gI 5 1 a6 s5) fun x7 => (if x7 = 3 then (b1 (gI 5 2 a6 s5) fun x9 => (if x9 = v1 then (b1 (gP 5 6 a6 s5) fun r11 => (if r11 = v2 then some ((some a6), s5) else fX6_gateAt_2 n o v1 v2 (v3 + 1) s5)) else fX6_gateAt_2 n o v1 v2 (v3 + 1) s5)) else fX6_gateAt_2 n o v1 v2 (v3 + 1) s5)))))))
set_option maxHeartbeats 4000000 in
set_option maxRecDepth 100000 in
theorem wX6_gateAt_2 {r0 : Option Nat} {h0 : Hz} (X : zX A D cy p s m args c cX6_gateAt RX6 5) (hlk : meth.locks = false) (hr : meth.sig.returnType = (some (.object "FarHold$Thing"))) : ∀ (n : Nat) (o : Nat) (v1 : Int32) (v2 : Option Nat) (v3 : Int32) (h : Hz) (H : Heap) (locs : List Loc) (ls : Array Slot) (hl : lv_has ls 5 [(0, .ref o), (1, .int v1), (2, va_rf v2), (3, .int v3)]) (hW : zW A cy D h H) (hS : va_S A s.heap H locs) (h : fX6_gateAt_2 n o v1 v2 v3 h = some (r0, h0)), W p l e ({ frames := 1, cells := 0, slots := 0, locals := 22 } : Room) s m args below meth c H locs 0 0 (MQ below (va_Qq (fun r1 u => r1 = r0 ∧ u = h0) (zB A D cy) A) args s 0 0 A) (F0 m 2 ls []) := by
  obtain ⟨hx, hb, hts, hown, hK9, hml, hN9, hA9⟩ := id X
  intro n
  induction n with
  | zero =>
    intro o v1 v2 v3 h H locs ls hl hW hS h
    rw [fX6_gateAt_2] at h
    cases h
  | succ n ih =>
    intro o v1 v2 v3 h H locs ls hl hW hS h
    rw [fX6_gateAt_2] at h
    refine lv_iload_n hx hb dX6_gateAt_2 rfl (lv_at hl 3 rfl) ?_
    refine lv_aload_n hx hb dX6_gateAt_3 rfl (lv_at hl 0 rfl) ?_
    replace h := b1_some h
    obtain ⟨x1, gx1, h⟩ := h
    refine z_getI X hW gx1 kX6 (by decide) (by decide) kf_X6_17 dX6_gateAt_4 ?_
    refine lv_icmp_ge (tgt := 58) hx hb dX6_gateAt_7 (by decide) (fun c2 => ?_) (fun c2 => ?_)
    · replace h := it_t h c2
      refine lv_null hx hb dX6_gateAt_58 ?_
      exact z_eta (v := none) X hlk hr hW hS h (by decide) (by decide) dX6_gateAt_59
    · replace h := it_f h c2
      refine lv_aload_n hx hb dX6_gateAt_10 rfl (lv_at hl 0 rfl) ?_
      refine lv_iload_n hx hb dX6_gateAt_11 rfl (lv_at hl 3 rfl) ?_
      replace h := b1_some h
      obtain ⟨q3, gq3, h⟩ := h
      replace h := b2_some h
      obtain ⟨r4, s5, gs5, h⟩ := h
      refine z_callVq (rest := []) X hW hS (cX6_find_met gs5) kb_X6_find kv_X6_find kl_X6_21 (it_v gq3).1 kX6 rfl rfl ⟨Nat.le_of_ble_eq_true rfl, Nat.le_of_ble_eq_true rfl⟩ rfl rfl (by decide) hl.1 dX6_gateAt_12 ⟨(by decide), (by decide)⟩ (fun H locs hW hS => ?_)
      refine z_astore (lv' := [(4, va_rf r4), (0, .ref o), (1, .int v1), (2, va_rf v2), (3, .int v3)]) hx hb dX6_gateAt_15 hl (by decide) rfl (fun ls hl => ?_)
      refine z_aload hx hb dX6_gateAt_17 (lv_at hl 0 rfl) ?_
      cases r4 with
      | none =>
        replace h := oe_n h
        have hl : lv_has ls 5 [(4, .null), (0, .ref o), (1, .int v1), (2, va_rf v2), (3, .int v3)] := hl
        refine lv_ifnullN (tgt := 52) hx hb dX6_gateAt_19 (by decide) ?_
        refine lv_iinc (v := (v3 + 1)) (lv' := [(3, .int (v3 + 1)), (4, .null), (0, .ref o), (1, .int v1), (2, va_rf v2)]) hx hb dX6_gateAt_52 hl (k := 4) rfl rfl (by decide) (by cases v2 <;> rfl) (fun ls hl => ?_)
        refine lv_goto (tgt := 2) hx hb dX6_gateAt_55 (by decide) ?_
        exact ih o v1 v2 (v3 + 1) _ _ _ _ (lv_sub hl [2, 3, 4, 0] rfl) hW hS h
      | some a6 =>
        replace h := oe_s h
        have hl : lv_has ls 5 [(4, .ref a6), (0, .ref o), (1, .int v1), (2, va_rf v2), (3, .int v3)] := hl
        refine lv_ifnull hx hb dX6_gateAt_19 ?_
        refine lv_aload hx hb dX6_gateAt_22 (lv_at hl 0 rfl) ?_
        replace h := b1_some h
        obtain ⟨x7, gx7, h⟩ := h
        refine z_getI X hW gx7 kX5 (by decide) (by decide) kf_X6_32 dX6_gateAt_24 ?_
        refine lv_iconst (v := 3) hx hb dX6_gateAt_27 (by decide) ?_
        refine lv_icmp_ne (tgt := 52) hx hb dX6_gateAt_28 (by decide) (fun c8 => ?_) (fun c8 => ?_)
        · replace h := it_f h c8
          refine lv_iinc (v := (v3 + 1)) (lv' := [(3, .int (v3 + 1)), (4, .ref a6), (0, .ref o), (1, .int v1), (2, va_rf v2)]) hx hb dX6_gateAt_52 hl (k := 4) rfl rfl (by decide) (by cases v2 <;> rfl) (fun ls hl => ?_)
          refine lv_goto (tgt := 2) hx hb dX6_gateAt_55 (by decide) ?_
          exact ih o v1 v2 (v3 + 1) _ _ _ _ (lv_sub hl [2, 3, 4, 0] rfl) hW hS h
        · replace h := it_t h c8
          refine lv_aload hx hb dX6_gateAt_31 (lv_at hl 0 rfl) ?_
          replace h := b1_some h
          obtain ⟨x9, gx9, h⟩ := h
          refine z_getI X hW gx9 kX5 (by decide) (by decide) kf_X6_35 dX6_gateAt_33 ?_
          refine lv_iload_n hx hb dX6_gateAt_36 rfl (lv_at hl 2 rfl) ?_
          refine lv_icmp_ne (tgt := 52) hx hb dX6_gateAt_37 (by decide) (fun c10 => ?_) (fun c10 => ?_)
          · replace h := it_f h c10
            refine lv_iinc (v := (v3 + 1)) (lv' := [(3, .int (v3 + 1)), (4, .ref a6), (0, .ref o), (1, .int v1), (2, va_rf v2)]) hx hb dX6_gateAt_52 hl (k := 4) rfl rfl (by decide) (by cases v2 <;> rfl) (fun ls hl => ?_)
            refine lv_goto (tgt := 2) hx hb dX6_gateAt_55 (by decide) ?_
            exact ih o v1 v2 (v3 + 1) _ _ _ _ (lv_sub hl [2, 3, 4, 0] rfl) hW hS h
          · replace h := it_t h c10
            refine lv_aload hx hb dX6_gateAt_40 (lv_at hl 0 rfl) ?_
            replace h := b1_some h
            obtain ⟨r11, gr11, h⟩ := h
            refine z_getP X hW gr11 kX5 (by decide) (by decide) kf_X6_38 dX6_gateAt_42 ?_
            refine z_aload_n hx hb dX6_gateAt_45 rfl (lv_at hl 3 rfl) ?_
            refine lv_acmp_ne (rx := r11) (ry := v2) (tgt := 52) hx hb dX6_gateAt_46 (by decide) (fun c12 => ?_) (fun c12 => ?_)
            · replace h := it_f h c12
              refine lv_iinc (v := (v3 + 1)) (lv' := [(3, .int (v3 + 1)), (4, .ref a6), (0, .ref o), (1, .int v1), (2, va_rf v2)]) hx hb dX6_gateAt_52 hl (k := 4) rfl rfl (by decide) (by cases v2 <;> rfl) (fun ls hl => ?_)
              refine lv_goto (tgt := 2) hx hb dX6_gateAt_55 (by decide) ?_
              exact ih o v1 v2 (v3 + 1) _ _ _ _ (lv_sub hl [2, 3, 4, 0] rfl) hW hS h
            · replace h := it_t h c12
              refine lv_aload hx hb dX6_gateAt_49 (lv_at hl 0 rfl) ?_
              exact z_eta (v := (some a6)) X hlk hr hW hS h (by decide) (by decide) dX6_gateAt_51

def fX6_gateAt (o : Nat) (v1 : Int32) (v2 : Option Nat) (h : Hz) : Option (Option Nat × Hz) := fX6_gateAt_2 100000 o v1 v2 0 h
set_option maxHeartbeats 4000000 in
set_option maxRecDepth 100000 in
theorem wX6_gateAt_0 {r0 : Option Nat} {h0 : Hz} (X : zX A D cy p s m args c cX6_gateAt RX6 5) (hlk : meth.locks = false) (hr : meth.sig.returnType = (some (.object "FarHold$Thing"))) (o : Nat) (v1 : Int32) (v2 : Option Nat) (h : Hz) (H : Heap) (locs : List Loc) (ls : Array Slot) (hl : lv_has ls 5 [(0, .ref o), (1, .int v1), (2, va_rf v2)]) (hW : zW A cy D h H) (hS : va_S A s.heap H locs) (h : fX6_gateAt o v1 v2 h = some (r0, h0)) : W p l e ({ frames := 1, cells := 0, slots := 0, locals := 22 } : Room) s m args below meth c H locs 0 0 (MQ below (va_Qq (fun r1 u => r1 = r0 ∧ u = h0) (zB A D cy) A) args s 0 0 A) (F0 m 0 ls []) := by
  obtain ⟨hx, hb, hts, hown, hK9, hml, hN9, hA9⟩ := id X
  unfold fX6_gateAt at h
  refine lv_iconst (v := 0) hx hb dX6_gateAt_0 (by decide) ?_
  refine lv_istore_n (lv' := [(3, .int 0), (0, .ref o), (1, .int v1), (2, va_rf v2)]) hx hb dX6_gateAt_1 rfl hl (by decide) (by cases v2 <;> rfl) (fun ls hl => ?_)
  exact wX6_gateAt_2 X hlk hr _ o v1 v2 0 _ _ _ _ (lv_sub hl [1, 2, 3, 0] rfl) hW hS h

set_option maxHeartbeats 4000000 in
set_option maxRecDepth 100000 in
theorem cX6_gateAt_met {l : Launch} {A : Nat → Prop} {D : va_G} {cy : Nat → ClassId} {r0 : Option Nat} {h0 : Hz} {o : Nat} {v1 : Int32} {v2 : Option Nat} {h : Hz} (g : fX6_gateAt o v1 v2 h = some (r0, h0)) : Met l yX6_gateAt (Cond.code yX6_gateAt cX6_gateAt 5 (some (.object "FarHold$Thing")) :: wT) ({ frames := 1, cells := 0, slots := 0, locals := 22 } : Room) (va_Pc [.ref o, .int v1, va_rf v2] (zS A D cy h)) (va_Qq (fun r1 u => r1 = r0 ∧ u = h0) (zB A D cy) A) 0 0 A := by
  refine Met.ofW (cc := cX6_gateAt) (maxL := 5) (ret := (some (.object "FarHold$Thing"))) (by decide) rfl ?_
  intro p e s m args below meth c s₁ B hml hv
  obtain ⟨rfl, hW, hK, hN, hA⟩ := hv
  have X : zX A D cy p s m _ c cX6_gateAt RX6 5 := ⟨B.exec, B.bytes, fun w hw => atoms_spec (ws := Cond.code yX6_gateAt cX6_gateAt 5 (some (.object "FarHold$Thing")) :: wT) B.pre w (List.mem_cons_of_mem _ hw), findClass_of_methodNamed B.named, hK, hml, hN, hA⟩
  cases v2 with
  | none =>
    have hl := lv_entry [.ref o, .int v1, va_rf none] (n := 5) (Nat.le_of_ble_eq_true rfl)
    rw [lg_entry_eq]
    generalize (lg_sl [.ref o, .int v1, va_rf none] ++ List.replicate (5 - (lg_sl [.ref o, .int v1, va_rf none]).length) Slot.unset).toArray = ls at hl ⊢
    have hl : lv_has ls 5 [(0, .ref o), (1, .int v1), (2, va_rf none)] := hl
    exact wX6_gateAt_0 X B.notSynchronized B.returns o v1 none _ _ _ _ (lv_sub hl [0, 1, 2] rfl) hW va_S.rf g
  | some v2 =>
    have hl := lv_entry [.ref o, .int v1, va_rf (some v2)] (n := 5) (Nat.le_of_ble_eq_true rfl)
    rw [lg_entry_eq]
    generalize (lg_sl [.ref o, .int v1, va_rf (some v2)] ++ List.replicate (5 - (lg_sl [.ref o, .int v1, va_rf (some v2)]).length) Slot.unset).toArray = ls at hl ⊢
    have hl : lv_has ls 5 [(0, .ref o), (1, .int v1), (2, va_rf (some v2))] := hl
    exact wX6_gateAt_0 X B.notSynchronized B.returns o v1 (some v2) _ _ _ _ (lv_sub hl [0, 1, 2] rfl) hW va_S.rf g

theorem dX6_weightOfGates_0 : decode cX6_weightOfGates 0 = .ok (.iconst 0, 1) := by decide +kernel
theorem dX6_weightOfGates_1 : decode cX6_weightOfGates 1 = .ok (.istore_n 2, 1) := by decide +kernel
theorem dX6_weightOfGates_2 : decode cX6_weightOfGates 2 = .ok (.iconst 0, 1) := by decide +kernel
theorem dX6_weightOfGates_3 : decode cX6_weightOfGates 3 = .ok (.istore_n 3, 1) := by decide +kernel
theorem dX6_weightOfGates_4 : decode cX6_weightOfGates 4 = .ok (.iload_n 3, 1) := by decide +kernel
theorem dX6_weightOfGates_5 : decode cX6_weightOfGates 5 = .ok (.aload_n 0, 1) := by decide +kernel
theorem dX6_weightOfGates_6 : decode cX6_weightOfGates 6 = .ok (.getfield 17, 3) := by decide +kernel
theorem dX6_weightOfGates_9 : decode cX6_weightOfGates 9 = .ok (.if_icmp .ge 38, 3) := by decide +kernel
theorem dX6_weightOfGates_12 : decode cX6_weightOfGates 12 = .ok (.aload_n 0, 1) := by decide +kernel
theorem dX6_weightOfGates_13 : decode cX6_weightOfGates 13 = .ok (.iload_n 3, 1) := by decide +kernel
theorem dX6_weightOfGates_14 : decode cX6_weightOfGates 14 = .ok (.invokevirtual 21, 3) := by decide +kernel
theorem dX6_weightOfGates_17 : decode cX6_weightOfGates 17 = .ok (.astore 4, 2) := by decide +kernel
theorem dX6_weightOfGates_19 : decode cX6_weightOfGates 19 = .ok (.aload 4, 2) := by decide +kernel
theorem dX6_weightOfGates_21 : decode cX6_weightOfGates 21 = .ok (.ifnull 20, 3) := by decide +kernel
theorem dX6_weightOfGates_24 : decode cX6_weightOfGates 24 = .ok (.aload 4, 2) := by decide +kernel
theorem dX6_weightOfGates_26 : decode cX6_weightOfGates 26 = .ok (.getfield 38, 3) := by decide +kernel
theorem dX6_weightOfGates_29 : decode cX6_weightOfGates 29 = .ok (.aload_n 1, 1) := by decide +kernel
theorem dX6_weightOfGates_30 : decode cX6_weightOfGates 30 = .ok (.if_acmp .ne 11, 3) := by decide +kernel
theorem dX6_weightOfGates_33 : decode cX6_weightOfGates 33 = .ok (.iload_n 2, 1) := by decide +kernel
theorem dX6_weightOfGates_34 : decode cX6_weightOfGates 34 = .ok (.aload 4, 2) := by decide +kernel
theorem dX6_weightOfGates_36 : decode cX6_weightOfGates 36 = .ok (.getfield 42, 3) := by decide +kernel
theorem dX6_weightOfGates_39 : decode cX6_weightOfGates 39 = .ok (.iadd, 1) := by decide +kernel
theorem dX6_weightOfGates_40 : decode cX6_weightOfGates 40 = .ok (.istore_n 2, 1) := by decide +kernel
theorem dX6_weightOfGates_41 : decode cX6_weightOfGates 41 = .ok (.iinc 3 1, 3) := by decide +kernel
theorem dX6_weightOfGates_44 : decode cX6_weightOfGates 44 = .ok (.goto (-40), 3) := by decide +kernel
theorem dX6_weightOfGates_47 : decode cX6_weightOfGates 47 = .ok (.iload_n 2, 1) := by decide +kernel
theorem dX6_weightOfGates_48 : decode cX6_weightOfGates 48 = .ok (.ireturn, 1) := by decide +kernel
def fX6_weightOfGates_4 : Nat → Nat → Option Nat → Int32 → Int32 → Hz → Option (Int32 × Hz)
  | 0, _, _, _, _, _ => none
  | n + 1, o, v1, v2, v3, h => (b1 (gI 6 1 o h) fun x1 => (if x1 ≤ v3 then some (v2, h) else (b1 (tg 6 o h) fun _ => (b2 (fX6_find o v3 h) fun r4 s5 => (oe r4 (fX6_weightOfGates_4 n o v1 v2 (v3 + 1) s5) fun a6 => (b1 (gP 5 6 a6 s5) fun r7 => (if r7 = v1 then (b1 (gI 5 7 a6 s5) fun x9 => fX6_weightOfGates_4 n o v1 (v2 + x9) (v3 + 1) s5) else fX6_weightOfGates_4 n o v1 v2 (v3 + 1) s5)))))))
set_option maxHeartbeats 4000000 in
set_option maxRecDepth 100000 in
theorem wX6_weightOfGates_4 {r0 : Int32} {h0 : Hz} (X : zX A D cy p s m args c cX6_weightOfGates RX6 5) (hlk : meth.locks = false) (hr : meth.sig.returnType = (some .int)) : ∀ (n : Nat) (o : Nat) (v1 : Option Nat) (v2 : Int32) (v3 : Int32) (h : Hz) (H : Heap) (locs : List Loc) (ls : Array Slot) (hl : lv_has ls 5 [(0, .ref o), (1, va_rf v1), (2, .int v2), (3, .int v3)]) (hW : zW A cy D h H) (hS : va_S A s.heap H locs) (h : fX6_weightOfGates_4 n o v1 v2 v3 h = some (r0, h0)), W p l e ({ frames := 1, cells := 0, slots := 0, locals := 22 } : Room) s m args below meth c H locs 0 0 (MQ below (va_Qi (fun r1 u => r1 = r0 ∧ u = h0) (zB A D cy) A) args s 0 0 A) (F0 m 4 ls []) := by
  obtain ⟨hx, hb, hts, hown, hK9, hml, hN9, hA9⟩ := id X
  intro n
  induction n with
  | zero =>
    intro o v1 v2 v3 h H locs ls hl hW hS h
    rw [fX6_weightOfGates_4] at h
    cases h
  | succ n ih =>
    intro o v1 v2 v3 h H locs ls hl hW hS h
    rw [fX6_weightOfGates_4] at h
    refine lv_iload_n hx hb dX6_weightOfGates_4 rfl (lv_at hl 3 rfl) ?_
    refine lv_aload_n hx hb dX6_weightOfGates_5 rfl (lv_at hl 0 rfl) ?_
    replace h := b1_some h
    obtain ⟨x1, gx1, h⟩ := h
    refine z_getI X hW gx1 kX6 (by decide) (by decide) kf_X6_17 dX6_weightOfGates_6 ?_
    refine lv_icmp_ge (tgt := 47) hx hb dX6_weightOfGates_9 (by decide) (fun c2 => ?_) (fun c2 => ?_)
    · replace h := it_t h c2
      refine lv_iload_n hx hb dX6_weightOfGates_47 rfl (lv_at hl 2 rfl) ?_
      exact z_eti X hlk hr hW hS h (by decide) (by decide) dX6_weightOfGates_48
    · replace h := it_f h c2
      refine lv_aload_n hx hb dX6_weightOfGates_12 rfl (lv_at hl 0 rfl) ?_
      refine lv_iload_n hx hb dX6_weightOfGates_13 rfl (lv_at hl 3 rfl) ?_
      replace h := b1_some h
      obtain ⟨q3, gq3, h⟩ := h
      replace h := b2_some h
      obtain ⟨r4, s5, gs5, h⟩ := h
      refine z_callVq (rest := []) X hW hS (cX6_find_met gs5) kb_X6_find kv_X6_find kl_X6_21 (it_v gq3).1 kX6 rfl rfl ⟨Nat.le_of_ble_eq_true rfl, Nat.le_of_ble_eq_true rfl⟩ rfl rfl (by decide) hl.1 dX6_weightOfGates_14 ⟨(by decide), (by decide)⟩ (fun H locs hW hS => ?_)
      refine z_astore (lv' := [(4, va_rf r4), (0, .ref o), (1, va_rf v1), (2, .int v2), (3, .int v3)]) hx hb dX6_weightOfGates_17 hl (by decide) rfl (fun ls hl => ?_)
      refine z_aload hx hb dX6_weightOfGates_19 (lv_at hl 0 rfl) ?_
      cases r4 with
      | none =>
        replace h := oe_n h
        have hl : lv_has ls 5 [(4, .null), (0, .ref o), (1, va_rf v1), (2, .int v2), (3, .int v3)] := hl
        refine lv_ifnullN (tgt := 41) hx hb dX6_weightOfGates_21 (by decide) ?_
        refine lv_iinc (v := (v3 + 1)) (lv' := [(3, .int (v3 + 1)), (4, .null), (0, .ref o), (1, va_rf v1), (2, .int v2)]) hx hb dX6_weightOfGates_41 hl (k := 4) rfl rfl (by decide) rfl (fun ls hl => ?_)
        refine lv_goto (tgt := 4) hx hb dX6_weightOfGates_44 (by decide) ?_
        exact ih o v1 v2 (v3 + 1) _ _ _ _ (lv_sub hl [2, 3, 4, 0] rfl) hW hS h
      | some a6 =>
        replace h := oe_s h
        have hl : lv_has ls 5 [(4, .ref a6), (0, .ref o), (1, va_rf v1), (2, .int v2), (3, .int v3)] := hl
        refine lv_ifnull hx hb dX6_weightOfGates_21 ?_
        refine lv_aload hx hb dX6_weightOfGates_24 (lv_at hl 0 rfl) ?_
        replace h := b1_some h
        obtain ⟨r7, gr7, h⟩ := h
        refine z_getP X hW gr7 kX5 (by decide) (by decide) kf_X6_38 dX6_weightOfGates_26 ?_
        refine z_aload_n hx hb dX6_weightOfGates_29 rfl (lv_at hl 2 rfl) ?_
        refine lv_acmp_ne (rx := r7) (ry := v1) (tgt := 41) hx hb dX6_weightOfGates_30 (by decide) (fun c8 => ?_) (fun c8 => ?_)
        · replace h := it_f h c8
          refine lv_iinc (v := (v3 + 1)) (lv' := [(3, .int (v3 + 1)), (4, .ref a6), (0, .ref o), (1, va_rf v1), (2, .int v2)]) hx hb dX6_weightOfGates_41 hl (k := 4) rfl rfl (by decide) rfl (fun ls hl => ?_)
          refine lv_goto (tgt := 4) hx hb dX6_weightOfGates_44 (by decide) ?_
          exact ih o v1 v2 (v3 + 1) _ _ _ _ (lv_sub hl [2, 3, 4, 0] rfl) hW hS h
        · replace h := it_t h c8
          refine lv_iload_n hx hb dX6_weightOfGates_33 rfl (lv_at hl 3 rfl) ?_
          refine lv_aload hx hb dX6_weightOfGates_34 (lv_at hl 0 rfl) ?_
          replace h := b1_some h
          obtain ⟨x9, gx9, h⟩ := h
          refine z_getI X hW gx9 kX5 (by decide) (by decide) kf_X6_42 dX6_weightOfGates_36 ?_
          refine lv_iadd hx hb dX6_weightOfGates_39 ?_
          refine lv_istore_n (lv' := [(2, .int (v2 + x9)), (4, .ref a6), (0, .ref o), (1, va_rf v1), (3, .int v3)]) hx hb dX6_weightOfGates_40 rfl hl (by decide) (by cases v1 <;> rfl) (fun ls hl => ?_)
          refine lv_iinc (v := (v3 + 1)) (lv' := [(3, .int (v3 + 1)), (2, .int (v2 + x9)), (4, .ref a6), (0, .ref o), (1, va_rf v1)]) hx hb dX6_weightOfGates_41 hl (k := 4) rfl rfl (by decide) rfl (fun ls hl => ?_)
          refine lv_goto (tgt := 4) hx hb dX6_weightOfGates_44 (by decide) ?_
          exact ih o v1 (v2 + x9) (v3 + 1) _ _ _ _ (lv_sub hl [3, 4, 1, 0] rfl) hW hS h

def fX6_weightOfGates (o : Nat) (v1 : Option Nat) (h : Hz) : Option (Int32 × Hz) := fX6_weightOfGates_4 100000 o v1 0 0 h
set_option maxHeartbeats 4000000 in
set_option maxRecDepth 100000 in
theorem wX6_weightOfGates_0 {r0 : Int32} {h0 : Hz} (X : zX A D cy p s m args c cX6_weightOfGates RX6 5) (hlk : meth.locks = false) (hr : meth.sig.returnType = (some .int)) (o : Nat) (v1 : Option Nat) (h : Hz) (H : Heap) (locs : List Loc) (ls : Array Slot) (hl : lv_has ls 5 [(0, .ref o), (1, va_rf v1)]) (hW : zW A cy D h H) (hS : va_S A s.heap H locs) (h : fX6_weightOfGates o v1 h = some (r0, h0)) : W p l e ({ frames := 1, cells := 0, slots := 0, locals := 22 } : Room) s m args below meth c H locs 0 0 (MQ below (va_Qi (fun r1 u => r1 = r0 ∧ u = h0) (zB A D cy) A) args s 0 0 A) (F0 m 0 ls []) := by
  obtain ⟨hx, hb, hts, hown, hK9, hml, hN9, hA9⟩ := id X
  unfold fX6_weightOfGates at h
  refine lv_iconst (v := 0) hx hb dX6_weightOfGates_0 (by decide) ?_
  refine lv_istore_n (lv' := [(2, .int 0), (0, .ref o), (1, va_rf v1)]) hx hb dX6_weightOfGates_1 rfl hl (by decide) (by cases v1 <;> rfl) (fun ls hl => ?_)
  refine lv_iconst (v := 0) hx hb dX6_weightOfGates_2 (by decide) ?_
  refine lv_istore_n (lv' := [(3, .int 0), (2, .int 0), (0, .ref o), (1, va_rf v1)]) hx hb dX6_weightOfGates_3 rfl hl (by decide) rfl (fun ls hl => ?_)
  exact wX6_weightOfGates_4 X hlk hr _ o v1 0 0 _ _ _ _ (lv_sub hl [2, 3, 1, 0] rfl) hW hS h

set_option maxHeartbeats 4000000 in
set_option maxRecDepth 100000 in
theorem cX6_weightOfGates_met {l : Launch} {A : Nat → Prop} {D : va_G} {cy : Nat → ClassId} {r0 : Int32} {h0 : Hz} {o : Nat} {v1 : Option Nat} {h : Hz} (g : fX6_weightOfGates o v1 h = some (r0, h0)) : Met l yX6_weightOfGates (Cond.code yX6_weightOfGates cX6_weightOfGates 5 (some .int) :: wT) ({ frames := 1, cells := 0, slots := 0, locals := 22 } : Room) (va_Pc [.ref o, va_rf v1] (zS A D cy h)) (va_Qi (fun r1 u => r1 = r0 ∧ u = h0) (zB A D cy) A) 0 0 A := by
  refine Met.ofW (cc := cX6_weightOfGates) (maxL := 5) (ret := (some .int)) (by decide) rfl ?_
  intro p e s m args below meth c s₁ B hml hv
  obtain ⟨rfl, hW, hK, hN, hA⟩ := hv
  have X : zX A D cy p s m _ c cX6_weightOfGates RX6 5 := ⟨B.exec, B.bytes, fun w hw => atoms_spec (ws := Cond.code yX6_weightOfGates cX6_weightOfGates 5 (some .int) :: wT) B.pre w (List.mem_cons_of_mem _ hw), findClass_of_methodNamed B.named, hK, hml, hN, hA⟩
  cases v1 with
  | none =>
    have hl := lv_entry [.ref o, va_rf none] (n := 5) (Nat.le_of_ble_eq_true rfl)
    rw [lg_entry_eq]
    generalize (lg_sl [.ref o, va_rf none] ++ List.replicate (5 - (lg_sl [.ref o, va_rf none]).length) Slot.unset).toArray = ls at hl ⊢
    have hl : lv_has ls 5 [(0, .ref o), (1, va_rf none)] := hl
    exact wX6_weightOfGates_0 X B.notSynchronized B.returns o none _ _ _ _ (lv_sub hl [0, 1] rfl) hW va_S.rf g
  | some v1 =>
    have hl := lv_entry [.ref o, va_rf (some v1)] (n := 5) (Nat.le_of_ble_eq_true rfl)
    rw [lg_entry_eq]
    generalize (lg_sl [.ref o, va_rf (some v1)] ++ List.replicate (5 - (lg_sl [.ref o, va_rf (some v1)]).length) Slot.unset).toArray = ls at hl ⊢
    have hl : lv_has ls 5 [(0, .ref o), (1, va_rf (some v1))] := hl
    exact wX6_weightOfGates_0 X B.notSynchronized B.returns o (some v1) _ _ _ _ (lv_sub hl [0, 1] rfl) hW va_S.rf g

theorem dX7_init_0 : decode cX7_init 0 = .ok (.aload_n 0, 1) := by decide +kernel
theorem dX7_init_1 : decode cX7_init 1 = .ok (.invokespecial 3, 3) := by decide +kernel
theorem dX7_init_4 : decode cX7_init 4 = .ok (.aload_n 0, 1) := by decide +kernel
theorem dX7_init_5 : decode cX7_init 5 = .ok (.bipush 16, 2) := by decide +kernel
theorem dX7_init_7 : decode cX7_init 7 = .ok (.anewarray 9, 3) := by decide +kernel
theorem dX7_init_10 : decode cX7_init 10 = .ok (.putfield 11, 3) := by decide +kernel
theorem dX7_init_13 : decode cX7_init 13 = .ok (.aload_n 0, 1) := by decide +kernel
theorem dX7_init_14 : decode cX7_init 14 = .ok (.iconst 0, 1) := by decide +kernel
theorem dX7_init_15 : decode cX7_init 15 = .ok (.putfield 17, 3) := by decide +kernel
theorem dX7_init_18 : decode cX7_init 18 = .ok (.return_, 1) := by decide +kernel
def fX7_init (o : Nat) (h : Hz) : Option (Unit × Hz) := (b2 (nA 18 16 16 h) fun a1 s2 => (b1 (pP 7 0 o (some a1) s2) fun s3 => (b1 (pI 7 1 o 0 s3) fun s4 => some ((), s4))))
set_option maxHeartbeats 4000000 in
set_option maxRecDepth 100000 in
theorem wX7_init_0 {r0 : Unit} {h0 : Hz} (X : zX A D cy p s m args c cX7_init RX7 1) (hlk : meth.locks = false) (hr : meth.sig.returnType = none) (hin : meth.name = "<init>") (o : Nat) (h : Hz) (H : Heap) (locs : List Loc) (ls : Array Slot) (hl : lv_has ls 1 [(0, .ref o)]) (hW : zW A cy D h H) (hS : va_S A s.heap H locs) (h : fX7_init o h = some (r0, h0)) : W p l e ({ frames := 1, cells := 1, slots := 16, locals := 12 } : Room) s m args below meth c H locs 0 0 (MQ below (va_Qv (fun u => u = h0) (zB A D cy) A) args s 1 16 A) (F0 m 0 ls []) := by
  obtain ⟨hx, hb, hts, hown, hK9, hml, hN9, hA9⟩ := id X
  unfold fX7_init at h
  refine lv_aload_n hx hb dX7_init_0 rfl (lv_at hl 0 rfl) ?_
  refine W.objInit hx hb hown (hts _ kl_X7_3) (hts _ km_objectInit) (hts _ kco) rfl (by rw [hml]; exact hl.1) rfl dX7_init_1 (Nat.le_of_ble_eq_true rfl) (Nat.le_of_ble_eq_true rfl) ?_
  refine W.eq (g2 := F0 m 4 ls []) rfl ?_
  refine lv_aload_n hx hb dX7_init_4 rfl (lv_at hl 0 rfl) ?_
  refine lv_bipush (v := 16) hx hb dX7_init_5 (by decide) ?_
  replace h := b2_some h
  obtain ⟨a1, s2, ga1, h⟩ := h
  refine z_newP X hW hS ga1 (by decide) (by decide) rfl kc_X7_9 hN9.2.2.2.2.1 (by decide) dX7_init_7 (by decide) (by decide) (fun H hW hS => ?_)
  replace h := b1_some h
  obtain ⟨s3, gs3, h⟩ := h
  refine z_putP X hW hS gs3 kX7 (by decide) (by decide) (Or.inr ⟨_, rfl⟩) (Or.inr ⟨rfl, hin, rfl⟩) kf_X7_11 dX7_init_10 (fun H locs hW hS => ?_)
  refine lv_aload_n hx hb dX7_init_13 rfl (lv_at hl 0 rfl) ?_
  refine lv_iconst (v := 0) hx hb dX7_init_14 (by decide) ?_
  replace h := b1_some h
  obtain ⟨s4, gs4, h⟩ := h
  refine z_putI X hW hS gs4 kX7 (by decide) (by decide) rfl (Or.inl rfl) kf_X7_17 dX7_init_15 (fun H locs hW hS => ?_)
  exact z_etv X hlk hr hW hS h (by decide) (by decide) dX7_init_18

set_option maxHeartbeats 4000000 in
set_option maxRecDepth 100000 in
theorem cX7_init_met {l : Launch} {A : Nat → Prop} {D : va_G} {cy : Nat → ClassId} {r0 : Unit} {h0 : Hz} {o : Nat} {h : Hz} (g : fX7_init o h = some (r0, h0)) : Met l yX7_init (Cond.code yX7_init cX7_init 1 none :: wT) ({ frames := 1, cells := 1, slots := 16, locals := 12 } : Room) (va_Pc [.ref o] (zS A D cy h)) (va_Qv (fun u => u = h0) (zB A D cy) A) 1 16 A := by
  refine Met.ofW (cc := cX7_init) (maxL := 1) (ret := none) (by decide) rfl ?_
  intro p e s m args below meth c s₁ B hml hv
  obtain ⟨rfl, hW, hK, hN, hA⟩ := hv
  have X : zX A D cy p s m _ c cX7_init RX7 1 := ⟨B.exec, B.bytes, fun w hw => atoms_spec (ws := Cond.code yX7_init cX7_init 1 none :: wT) B.pre w (List.mem_cons_of_mem _ hw), findClass_of_methodNamed B.named, hK, hml, hN, hA⟩
  have hin : meth.name = "<init>" := (name_of_methodNamed B.named B.method).1
  have hl := lv_entry [.ref o] (n := 1) (Nat.le_of_ble_eq_true rfl)
  rw [lg_entry_eq]
  generalize (lg_sl [.ref o] ++ List.replicate (1 - (lg_sl [.ref o]).length) Slot.unset).toArray = ls at hl ⊢
  have hl : lv_has ls 1 [(0, .ref o)] := hl
  exact wX7_init_0 X B.notSynchronized B.returns hin o _ _ _ _ (lv_sub hl [0] rfl) hW va_S.rf g

theorem dX8_init_0 : decode cX8_init 0 = .ok (.aload_n 0, 1) := by decide +kernel
theorem dX8_init_1 : decode cX8_init 1 = .ok (.invokespecial 1, 3) := by decide +kernel
theorem dX8_init_4 : decode cX8_init 4 = .ok (.aload_n 0, 1) := by decide +kernel
theorem dX8_init_5 : decode cX8_init 5 = .ok (.aload_n 1, 1) := by decide +kernel
theorem dX8_init_6 : decode cX8_init 6 = .ok (.putfield 7, 3) := by decide +kernel
theorem dX8_init_9 : decode cX8_init 9 = .ok (.aload_n 0, 1) := by decide +kernel
theorem dX8_init_10 : decode cX8_init 10 = .ok (.aload_n 2, 1) := by decide +kernel
theorem dX8_init_11 : decode cX8_init 11 = .ok (.putfield 13, 3) := by decide +kernel
theorem dX8_init_14 : decode cX8_init 14 = .ok (.aload_n 0, 1) := by decide +kernel
theorem dX8_init_15 : decode cX8_init 15 = .ok (.iload_n 3, 1) := by decide +kernel
theorem dX8_init_16 : decode cX8_init 16 = .ok (.putfield 16, 3) := by decide +kernel
theorem dX8_init_19 : decode cX8_init 19 = .ok (.return_, 1) := by decide +kernel
def fX8_init (o : Nat) (v1 : Option Nat) (v2 : Option Nat) (v3 : Int32) (h : Hz) : Option (Unit × Hz) := (b1 (pP 8 0 o v1 h) fun s1 => (b1 (pP 8 1 o v2 s1) fun s2 => (b1 (pI 8 2 o v3 s2) fun s3 => some ((), s3))))
set_option maxHeartbeats 4000000 in
set_option maxRecDepth 100000 in
theorem wX8_init_0 {r0 : Unit} {h0 : Hz} (X : zX A D cy p s m args c cX8_init RX8 4) (hlk : meth.locks = false) (hr : meth.sig.returnType = none) (hin : meth.name = "<init>") (o : Nat) (v1 : Option Nat) (v2 : Option Nat) (v3 : Int32) (h : Hz) (H : Heap) (locs : List Loc) (ls : Array Slot) (hl : lv_has ls 4 [(0, .ref o), (1, va_rf v1), (2, va_rf v2), (3, .int v3)]) (hW : zW A cy D h H) (hS : va_S A s.heap H locs) (h : fX8_init o v1 v2 v3 h = some (r0, h0)) : W p l e ({ frames := 1, cells := 0, slots := 0, locals := 12 } : Room) s m args below meth c H locs 0 0 (MQ below (va_Qv (fun u => u = h0) (zB A D cy) A) args s 0 0 A) (F0 m 0 ls []) := by
  obtain ⟨hx, hb, hts, hown, hK9, hml, hN9, hA9⟩ := id X
  unfold fX8_init at h
  refine lv_aload_n hx hb dX8_init_0 rfl (lv_at hl 0 rfl) ?_
  refine W.objInit hx hb hown (hts _ kl_X8_1) (hts _ km_objectInit) (hts _ kco) rfl (by rw [hml]; exact hl.1) rfl dX8_init_1 (Nat.le_of_ble_eq_true rfl) (Nat.le_of_ble_eq_true rfl) ?_
  refine W.eq (g2 := F0 m 4 ls []) rfl ?_
  refine lv_aload_n hx hb dX8_init_4 rfl (lv_at hl 0 rfl) ?_
  refine z_aload_n hx hb dX8_init_5 rfl (lv_at hl 1 rfl) ?_
  replace h := b1_some h
  obtain ⟨s1, gs1, h⟩ := h
  refine z_putP X hW hS gs1 kX8 (by decide) (by decide) (Or.inl ⟨_, rfl⟩) (Or.inr ⟨rfl, hin, rfl⟩) kf_X8_7 dX8_init_6 (fun H locs hW hS => ?_)
  refine lv_aload_n hx hb dX8_init_9 rfl (lv_at hl 0 rfl) ?_
  refine z_aload_n hx hb dX8_init_10 rfl (lv_at hl 2 rfl) ?_
  replace h := b1_some h
  obtain ⟨s2, gs2, h⟩ := h
  refine z_putP X hW hS gs2 kX8 (by decide) (by decide) (Or.inl ⟨_, rfl⟩) (Or.inr ⟨rfl, hin, rfl⟩) kf_X8_13 dX8_init_11 (fun H locs hW hS => ?_)
  refine lv_aload_n hx hb dX8_init_14 rfl (lv_at hl 0 rfl) ?_
  refine lv_iload_n hx hb dX8_init_15 rfl (lv_at hl 3 rfl) ?_
  replace h := b1_some h
  obtain ⟨s3, gs3, h⟩ := h
  refine z_putI X hW hS gs3 kX8 (by decide) (by decide) rfl (Or.inr ⟨rfl, hin, rfl⟩) kf_X8_16 dX8_init_16 (fun H locs hW hS => ?_)
  exact z_etv X hlk hr hW hS h (by decide) (by decide) dX8_init_19

set_option maxHeartbeats 4000000 in
set_option maxRecDepth 100000 in
theorem cX8_init_met {l : Launch} {A : Nat → Prop} {D : va_G} {cy : Nat → ClassId} {r0 : Unit} {h0 : Hz} {o : Nat} {v1 : Option Nat} {v2 : Option Nat} {v3 : Int32} {h : Hz} (g : fX8_init o v1 v2 v3 h = some (r0, h0)) : Met l yX8_init (Cond.code yX8_init cX8_init 4 none :: wT) ({ frames := 1, cells := 0, slots := 0, locals := 12 } : Room) (va_Pc [.ref o, va_rf v1, va_rf v2, .int v3] (zS A D cy h)) (va_Qv (fun u => u = h0) (zB A D cy) A) 0 0 A := by
  refine Met.ofW (cc := cX8_init) (maxL := 4) (ret := none) (by decide) rfl ?_
  intro p e s m args below meth c s₁ B hml hv
  obtain ⟨rfl, hW, hK, hN, hA⟩ := hv
  have X : zX A D cy p s m _ c cX8_init RX8 4 := ⟨B.exec, B.bytes, fun w hw => atoms_spec (ws := Cond.code yX8_init cX8_init 4 none :: wT) B.pre w (List.mem_cons_of_mem _ hw), findClass_of_methodNamed B.named, hK, hml, hN, hA⟩
  have hin : meth.name = "<init>" := (name_of_methodNamed B.named B.method).1
  cases v1 with
  | none =>
    cases v2 with
    | none =>
      have hl := lv_entry [.ref o, va_rf none, va_rf none, .int v3] (n := 4) (Nat.le_of_ble_eq_true rfl)
      rw [lg_entry_eq]
      generalize (lg_sl [.ref o, va_rf none, va_rf none, .int v3] ++ List.replicate (4 - (lg_sl [.ref o, va_rf none, va_rf none, .int v3]).length) Slot.unset).toArray = ls at hl ⊢
      have hl : lv_has ls 4 [(0, .ref o), (1, va_rf none), (2, va_rf none), (3, .int v3)] := hl
      exact wX8_init_0 X B.notSynchronized B.returns hin o none none v3 _ _ _ _ (lv_sub hl [0, 1, 2, 3] rfl) hW va_S.rf g
    | some v2 =>
      have hl := lv_entry [.ref o, va_rf none, va_rf (some v2), .int v3] (n := 4) (Nat.le_of_ble_eq_true rfl)
      rw [lg_entry_eq]
      generalize (lg_sl [.ref o, va_rf none, va_rf (some v2), .int v3] ++ List.replicate (4 - (lg_sl [.ref o, va_rf none, va_rf (some v2), .int v3]).length) Slot.unset).toArray = ls at hl ⊢
      have hl : lv_has ls 4 [(0, .ref o), (1, va_rf none), (2, va_rf (some v2)), (3, .int v3)] := hl
      exact wX8_init_0 X B.notSynchronized B.returns hin o none (some v2) v3 _ _ _ _ (lv_sub hl [0, 1, 2, 3] rfl) hW va_S.rf g
  | some v1 =>
    cases v2 with
    | none =>
      have hl := lv_entry [.ref o, va_rf (some v1), va_rf none, .int v3] (n := 4) (Nat.le_of_ble_eq_true rfl)
      rw [lg_entry_eq]
      generalize (lg_sl [.ref o, va_rf (some v1), va_rf none, .int v3] ++ List.replicate (4 - (lg_sl [.ref o, va_rf (some v1), va_rf none, .int v3]).length) Slot.unset).toArray = ls at hl ⊢
      have hl : lv_has ls 4 [(0, .ref o), (1, va_rf (some v1)), (2, va_rf none), (3, .int v3)] := hl
      exact wX8_init_0 X B.notSynchronized B.returns hin o (some v1) none v3 _ _ _ _ (lv_sub hl [0, 1, 2, 3] rfl) hW va_S.rf g
    | some v2 =>
      have hl := lv_entry [.ref o, va_rf (some v1), va_rf (some v2), .int v3] (n := 4) (Nat.le_of_ble_eq_true rfl)
      rw [lg_entry_eq]
      generalize (lg_sl [.ref o, va_rf (some v1), va_rf (some v2), .int v3] ++ List.replicate (4 - (lg_sl [.ref o, va_rf (some v1), va_rf (some v2), .int v3]).length) Slot.unset).toArray = ls at hl ⊢
      have hl : lv_has ls 4 [(0, .ref o), (1, va_rf (some v1)), (2, va_rf (some v2)), (3, .int v3)] := hl
      exact wX8_init_0 X B.notSynchronized B.returns hin o (some v1) (some v2) v3 _ _ _ _ (lv_sub hl [0, 1, 2, 3] rfl) hW va_S.rf g

theorem dX7_add_0 : decode cX7_add 0 = .ok (.aload_n 0, 1) := by decide +kernel
theorem dX7_add_1 : decode cX7_add 1 = .ok (.getfield 17, 3) := by decide +kernel
theorem dX7_add_4 : decode cX7_add 4 = .ok (.aload_n 0, 1) := by decide +kernel
theorem dX7_add_5 : decode cX7_add 5 = .ok (.getfield 11, 3) := by decide +kernel
theorem dX7_add_8 : decode cX7_add 8 = .ok (.arraylength, 1) := by decide +kernel
theorem dX7_add_9 : decode cX7_add 9 = .ok (.if_icmp .lt 5, 3) := by decide +kernel
theorem dX7_add_12 : decode cX7_add 12 = .ok (.iconst 0, 1) := by decide +kernel
theorem dX7_add_13 : decode cX7_add 13 = .ok (.ireturn, 1) := by decide +kernel
theorem dX7_add_14 : decode cX7_add 14 = .ok (.aload_n 0, 1) := by decide +kernel
theorem dX7_add_15 : decode cX7_add 15 = .ok (.getfield 11, 3) := by decide +kernel
theorem dX7_add_18 : decode cX7_add 18 = .ok (.aload_n 0, 1) := by decide +kernel
theorem dX7_add_19 : decode cX7_add 19 = .ok (.getfield 17, 3) := by decide +kernel
theorem dX7_add_22 : decode cX7_add 22 = .ok (.new 9, 3) := by decide +kernel
theorem dX7_add_25 : decode cX7_add 25 = .ok (.dup, 1) := by decide +kernel
theorem dX7_add_26 : decode cX7_add 26 = .ok (.aload_n 1, 1) := by decide +kernel
theorem dX7_add_27 : decode cX7_add 27 = .ok (.aload_n 2, 1) := by decide +kernel
theorem dX7_add_28 : decode cX7_add 28 = .ok (.iload_n 3, 1) := by decide +kernel
theorem dX7_add_29 : decode cX7_add 29 = .ok (.invokespecial 21, 3) := by decide +kernel
theorem dX7_add_32 : decode cX7_add 32 = .ok (.aastore, 1) := by decide +kernel
theorem dX7_add_33 : decode cX7_add 33 = .ok (.aload_n 0, 1) := by decide +kernel
theorem dX7_add_34 : decode cX7_add 34 = .ok (.dup, 1) := by decide +kernel
theorem dX7_add_35 : decode cX7_add 35 = .ok (.getfield 17, 3) := by decide +kernel
theorem dX7_add_38 : decode cX7_add 38 = .ok (.iconst 1, 1) := by decide +kernel
theorem dX7_add_39 : decode cX7_add 39 = .ok (.iadd, 1) := by decide +kernel
theorem dX7_add_40 : decode cX7_add 40 = .ok (.putfield 17, 3) := by decide +kernel
theorem dX7_add_43 : decode cX7_add 43 = .ok (.iconst 1, 1) := by decide +kernel
theorem dX7_add_44 : decode cX7_add 44 = .ok (.ireturn, 1) := by decide +kernel
def fX7_add (o : Nat) (v1 : Option Nat) (v2 : Option Nat) (v3 : Int32) (h : Hz) : Option (Int32 × Hz) := (b1 (gI 7 1 o h) fun x1 => (b1 (gA 7 0 o h) fun a2 => (b1 (xN 18 a2 h) fun x3 => (if x1 < x3 then (b1 (gA 7 0 o h) fun a5 => (b1 (gI 7 1 o h) fun x6 => (b2 (nO 8 h) fun a7 s8 => (b2 (fX8_init a7 v1 v2 v3 s8) fun _ s10 => (b1 (yP 18 8 a5 x6 (some a7) s10) fun s11 => (b1 (gI 7 1 o s11) fun x12 => (b1 (pI 7 1 o (x12 + 1) s11) fun s13 => rz 1 s13))))))) else rz 0 h))))
set_option maxHeartbeats 4000000 in
set_option maxRecDepth 100000 in
theorem wX7_add_0 {r0 : Int32} {h0 : Hz} (X : zX A D cy p s m args c cX7_add RX7 4) (hlk : meth.locks = false) (hr : meth.sig.returnType = (some .boolean)) (o : Nat) (v1 : Option Nat) (v2 : Option Nat) (v3 : Int32) (h : Hz) (H : Heap) (locs : List Loc) (ls : Array Slot) (hl : lv_has ls 4 [(0, .ref o), (1, va_rf v1), (2, va_rf v2), (3, .int v3)]) (hW : zW A cy D h H) (hS : va_S A s.heap H locs) (h : fX7_add o v1 v2 v3 h = some (r0, h0)) : W p l e ({ frames := 2, cells := 1, slots := 3, locals := 35 } : Room) s m args below meth c H locs 0 0 (MQ below (va_Qi (fun r1 u => r1 = r0 ∧ u = h0) (zB A D cy) A) args s 1 3 A) (F0 m 0 ls []) := by
  obtain ⟨hx, hb, hts, hown, hK9, hml, hN9, hA9⟩ := id X
  unfold fX7_add at h
  refine lv_aload_n hx hb dX7_add_0 rfl (lv_at hl 0 rfl) ?_
  replace h := b1_some h
  obtain ⟨x1, gx1, h⟩ := h
  refine z_getI X hW gx1 kX7 (by decide) (by decide) kf_X7_17 dX7_add_1 ?_
  refine lv_aload_n hx hb dX7_add_4 rfl (lv_at hl 0 rfl) ?_
  replace h := b1_some h
  obtain ⟨a2, ga2, h⟩ := h
  refine z_getA X hW ga2 kX7 (by decide) (by decide) kf_X7_11 dX7_add_5 ?_
  replace h := b1_some h
  obtain ⟨x3, gx3, h⟩ := h
  refine z_alenP X hW gx3 (by decide) (by decide) rfl dX7_add_8 ?_
  refine lv_icmp_lt (tgt := 14) hx hb dX7_add_9 (by decide) (fun c4 => ?_) (fun c4 => ?_)
  · replace h := it_t h c4
    refine lv_aload_n hx hb dX7_add_14 rfl (lv_at hl 0 rfl) ?_
    replace h := b1_some h
    obtain ⟨a5, ga5, h⟩ := h
    refine z_getA X hW ga5 kX7 (by decide) (by decide) kf_X7_11 dX7_add_15 ?_
    refine lv_aload_n hx hb dX7_add_18 rfl (lv_at hl 0 rfl) ?_
    replace h := b1_some h
    obtain ⟨x6, gx6, h⟩ := h
    refine z_getI X hW gx6 kX7 (by decide) (by decide) kf_X7_17 dX7_add_19 ?_
    replace h := b2_some h
    obtain ⟨a7, s8, ga7, h⟩ := h
    refine z_new X hW hS ga7 kX8 kd_X8 kc_X7_9 kn_X8 ki_13 dX7_add_22 (by decide) (by decide) (fun H hW hS => ?_)
    refine lv_dup hx hb dX7_add_25 rfl ?_
    refine z_aload_n hx hb dX7_add_26 rfl (lv_at hl 1 rfl) ?_
    refine z_aload_n hx hb dX7_add_27 rfl (lv_at hl 2 rfl) ?_
    refine lv_iload_n hx hb dX7_add_28 rfl (lv_at hl 3 rfl) ?_
    replace h := b2_some h
    obtain ⟨_ur9, s10, gs10, h⟩ := h
    refine z_callIv (rest := [.ref a7, .int x6, .ref a5]) X hW hS (cX8_init_met gs10) kb_X8_init km_X8_init rfl kl_X7_21 rfl rfl ⟨Nat.le_of_ble_eq_true rfl, Nat.le_of_ble_eq_true rfl⟩ rfl rfl (Nat.le_of_ble_eq_true rfl) hl.1 dX7_add_29 ⟨(by decide), (by decide)⟩ (fun H locs hW hS => ?_)
    replace h := b1_some h
    obtain ⟨s11, gs11, h⟩ := h
    refine z_astP X hW hS gs11 (by decide) (by decide) kX8 rfl dX7_add_32 (fun H locs hW hS => ?_)
    refine lv_aload_n hx hb dX7_add_33 rfl (lv_at hl 0 rfl) ?_
    refine lv_dup hx hb dX7_add_34 rfl ?_
    replace h := b1_some h
    obtain ⟨x12, gx12, h⟩ := h
    refine z_getI X hW gx12 kX7 (by decide) (by decide) kf_X7_17 dX7_add_35 ?_
    refine lv_iconst (v := 1) hx hb dX7_add_38 (by decide) ?_
    refine lv_iadd hx hb dX7_add_39 ?_
    replace h := b1_some h
    obtain ⟨s13, gs13, h⟩ := h
    refine z_putI X hW hS gs13 kX7 (by decide) (by decide) rfl (Or.inl rfl) kf_X7_17 dX7_add_40 (fun H locs hW hS => ?_)
    refine lv_iconst (v := 1) hx hb dX7_add_43 (by decide) ?_
    exact z_etz X hlk hr hW hS h (by decide) (by decide) dX7_add_44
  · replace h := it_f h c4
    refine lv_iconst (v := 0) hx hb dX7_add_12 (by decide) ?_
    exact z_etz X hlk hr hW hS h (by decide) (by decide) dX7_add_13

set_option maxHeartbeats 4000000 in
set_option maxRecDepth 100000 in
theorem cX7_add_met {l : Launch} {A : Nat → Prop} {D : va_G} {cy : Nat → ClassId} {r0 : Int32} {h0 : Hz} {o : Nat} {v1 : Option Nat} {v2 : Option Nat} {v3 : Int32} {h : Hz} (g : fX7_add o v1 v2 v3 h = some (r0, h0)) : Met l yX7_add (Cond.code yX7_add cX7_add 4 (some .boolean) :: wT) ({ frames := 2, cells := 1, slots := 3, locals := 35 } : Room) (va_Pc [.ref o, va_rf v1, va_rf v2, .int v3] (zS A D cy h)) (va_Qi (fun r1 u => r1 = r0 ∧ u = h0) (zB A D cy) A) 1 3 A := by
  refine Met.ofW (cc := cX7_add) (maxL := 4) (ret := (some .boolean)) (by decide) rfl ?_
  intro p e s m args below meth c s₁ B hml hv
  obtain ⟨rfl, hW, hK, hN, hA⟩ := hv
  have X : zX A D cy p s m _ c cX7_add RX7 4 := ⟨B.exec, B.bytes, fun w hw => atoms_spec (ws := Cond.code yX7_add cX7_add 4 (some .boolean) :: wT) B.pre w (List.mem_cons_of_mem _ hw), findClass_of_methodNamed B.named, hK, hml, hN, hA⟩
  cases v1 with
  | none =>
    cases v2 with
    | none =>
      have hl := lv_entry [.ref o, va_rf none, va_rf none, .int v3] (n := 4) (Nat.le_of_ble_eq_true rfl)
      rw [lg_entry_eq]
      generalize (lg_sl [.ref o, va_rf none, va_rf none, .int v3] ++ List.replicate (4 - (lg_sl [.ref o, va_rf none, va_rf none, .int v3]).length) Slot.unset).toArray = ls at hl ⊢
      have hl : lv_has ls 4 [(0, .ref o), (1, va_rf none), (2, va_rf none), (3, .int v3)] := hl
      exact wX7_add_0 X B.notSynchronized B.returns o none none v3 _ _ _ _ (lv_sub hl [0, 1, 2, 3] rfl) hW va_S.rf g
    | some v2 =>
      have hl := lv_entry [.ref o, va_rf none, va_rf (some v2), .int v3] (n := 4) (Nat.le_of_ble_eq_true rfl)
      rw [lg_entry_eq]
      generalize (lg_sl [.ref o, va_rf none, va_rf (some v2), .int v3] ++ List.replicate (4 - (lg_sl [.ref o, va_rf none, va_rf (some v2), .int v3]).length) Slot.unset).toArray = ls at hl ⊢
      have hl : lv_has ls 4 [(0, .ref o), (1, va_rf none), (2, va_rf (some v2)), (3, .int v3)] := hl
      exact wX7_add_0 X B.notSynchronized B.returns o none (some v2) v3 _ _ _ _ (lv_sub hl [0, 1, 2, 3] rfl) hW va_S.rf g
  | some v1 =>
    cases v2 with
    | none =>
      have hl := lv_entry [.ref o, va_rf (some v1), va_rf none, .int v3] (n := 4) (Nat.le_of_ble_eq_true rfl)
      rw [lg_entry_eq]
      generalize (lg_sl [.ref o, va_rf (some v1), va_rf none, .int v3] ++ List.replicate (4 - (lg_sl [.ref o, va_rf (some v1), va_rf none, .int v3]).length) Slot.unset).toArray = ls at hl ⊢
      have hl : lv_has ls 4 [(0, .ref o), (1, va_rf (some v1)), (2, va_rf none), (3, .int v3)] := hl
      exact wX7_add_0 X B.notSynchronized B.returns o (some v1) none v3 _ _ _ _ (lv_sub hl [0, 1, 2, 3] rfl) hW va_S.rf g
    | some v2 =>
      have hl := lv_entry [.ref o, va_rf (some v1), va_rf (some v2), .int v3] (n := 4) (Nat.le_of_ble_eq_true rfl)
      rw [lg_entry_eq]
      generalize (lg_sl [.ref o, va_rf (some v1), va_rf (some v2), .int v3] ++ List.replicate (4 - (lg_sl [.ref o, va_rf (some v1), va_rf (some v2), .int v3]).length) Slot.unset).toArray = ls at hl ⊢
      have hl : lv_has ls 4 [(0, .ref o), (1, va_rf (some v1)), (2, va_rf (some v2)), (3, .int v3)] := hl
      exact wX7_add_0 X B.notSynchronized B.returns o (some v1) (some v2) v3 _ _ _ _ (lv_sub hl [0, 1, 2, 3] rfl) hW va_S.rf g

theorem dX7_firstFor_0 : decode cX7_firstFor 0 = .ok (.iconst 0, 1) := by decide +kernel
theorem dX7_firstFor_1 : decode cX7_firstFor 1 = .ok (.istore_n 2, 1) := by decide +kernel
theorem dX7_firstFor_2 : decode cX7_firstFor 2 = .ok (.iload_n 2, 1) := by decide +kernel
theorem dX7_firstFor_3 : decode cX7_firstFor 3 = .ok (.aload_n 0, 1) := by decide +kernel
theorem dX7_firstFor_4 : decode cX7_firstFor 4 = .ok (.getfield 17, 3) := by decide +kernel
theorem dX7_firstFor_7 : decode cX7_firstFor 7 = .ok (.if_icmp .ge 39, 3) := by decide +kernel
theorem dX7_firstFor_10 : decode cX7_firstFor 10 = .ok (.iload_n 2, 1) := by decide +kernel
theorem dX7_firstFor_11 : decode cX7_firstFor 11 = .ok (.aload_n 0, 1) := by decide +kernel
theorem dX7_firstFor_12 : decode cX7_firstFor 12 = .ok (.getfield 11, 3) := by decide +kernel
theorem dX7_firstFor_15 : decode cX7_firstFor 15 = .ok (.arraylength, 1) := by decide +kernel
theorem dX7_firstFor_16 : decode cX7_firstFor 16 = .ok (.if_icmp .ge 30, 3) := by decide +kernel
theorem dX7_firstFor_19 : decode cX7_firstFor 19 = .ok (.aload_n 0, 1) := by decide +kernel
theorem dX7_firstFor_20 : decode cX7_firstFor 20 = .ok (.getfield 11, 3) := by decide +kernel
theorem dX7_firstFor_23 : decode cX7_firstFor 23 = .ok (.iload_n 2, 1) := by decide +kernel
theorem dX7_firstFor_24 : decode cX7_firstFor 24 = .ok (.aaload, 1) := by decide +kernel
theorem dX7_firstFor_25 : decode cX7_firstFor 25 = .ok (.astore_n 3, 1) := by decide +kernel
theorem dX7_firstFor_26 : decode cX7_firstFor 26 = .ok (.aload_n 3, 1) := by decide +kernel
theorem dX7_firstFor_27 : decode cX7_firstFor 27 = .ok (.ifnull 13, 3) := by decide +kernel
theorem dX7_firstFor_30 : decode cX7_firstFor 30 = .ok (.aload_n 3, 1) := by decide +kernel
theorem dX7_firstFor_31 : decode cX7_firstFor 31 = .ok (.getfield 24, 3) := by decide +kernel
theorem dX7_firstFor_34 : decode cX7_firstFor 34 = .ok (.aload_n 1, 1) := by decide +kernel
theorem dX7_firstFor_35 : decode cX7_firstFor 35 = .ok (.if_acmp .ne 5, 3) := by decide +kernel
theorem dX7_firstFor_38 : decode cX7_firstFor 38 = .ok (.iload_n 2, 1) := by decide +kernel
theorem dX7_firstFor_39 : decode cX7_firstFor 39 = .ok (.ireturn, 1) := by decide +kernel
theorem dX7_firstFor_40 : decode cX7_firstFor 40 = .ok (.iinc 2 1, 3) := by decide +kernel
theorem dX7_firstFor_43 : decode cX7_firstFor 43 = .ok (.goto (-41), 3) := by decide +kernel
theorem dX7_firstFor_46 : decode cX7_firstFor 46 = .ok (.iconst (-1), 1) := by decide +kernel
theorem dX7_firstFor_47 : decode cX7_firstFor 47 = .ok (.ireturn, 1) := by decide +kernel
def fX7_firstFor_2 : Nat → Nat → Option Nat → Int32 → Hz → Option (Int32 × Hz)
  | 0, _, _, _, _ => none
  | n + 1, o, v1, v2, h => (b1 (gI 7 1 o h) fun x1 => (if x1 ≤ v2 then some ((-1), h) else (b1 (gA 7 0 o h) fun a3 => (b1 (xN 18 a3 h) fun x4 => (if x4 ≤ v2 then some ((-1), h) else (b1 (gA 7 0 o h) fun a6 => (b1 (xP 18 a6 v2 h) fun r7 => (oe r7 (fX7_firstFor_2 n o v1 (v2 + 1) h) fun a8 => (b1 (gA 8 0 a8 h) fun a9 => (if (some a9) = v1 then some (v2, h) else fX7_firstFor_2 n o v1 (v2 + 1) h))))))))))
set_option maxHeartbeats 4000000 in
set_option maxRecDepth 100000 in
theorem wX7_firstFor_2 {r0 : Int32} {h0 : Hz} (X : zX A D cy p s m args c cX7_firstFor RX7 4) (hlk : meth.locks = false) (hr : meth.sig.returnType = (some .int)) : ∀ (n : Nat) (o : Nat) (v1 : Option Nat) (v2 : Int32) (h : Hz) (H : Heap) (locs : List Loc) (ls : Array Slot) (hl : lv_has ls 4 [(0, .ref o), (1, va_rf v1), (2, .int v2)]) (hW : zW A cy D h H) (hS : va_S A s.heap H locs) (h : fX7_firstFor_2 n o v1 v2 h = some (r0, h0)), W p l e ({ frames := 0, cells := 0, slots := 0, locals := 0 } : Room) s m args below meth c H locs 0 0 (MQ below (va_Qi (fun r1 u => r1 = r0 ∧ u = h0) (zB A D cy) A) args s 0 0 A) (F0 m 2 ls []) := by
  obtain ⟨hx, hb, hts, hown, hK9, hml, hN9, hA9⟩ := id X
  intro n
  induction n with
  | zero =>
    intro o v1 v2 h H locs ls hl hW hS h
    rw [fX7_firstFor_2] at h
    cases h
  | succ n ih =>
    intro o v1 v2 h H locs ls hl hW hS h
    rw [fX7_firstFor_2] at h
    refine lv_iload_n hx hb dX7_firstFor_2 rfl (lv_at hl 2 rfl) ?_
    refine lv_aload_n hx hb dX7_firstFor_3 rfl (lv_at hl 0 rfl) ?_
    replace h := b1_some h
    obtain ⟨x1, gx1, h⟩ := h
    refine z_getI X hW gx1 kX7 (by decide) (by decide) kf_X7_17 dX7_firstFor_4 ?_
    refine lv_icmp_ge (tgt := 46) hx hb dX7_firstFor_7 (by decide) (fun c2 => ?_) (fun c2 => ?_)
    · replace h := it_t h c2
      refine lv_iconst (v := (-1)) hx hb dX7_firstFor_46 (by decide) ?_
      exact z_eti X hlk hr hW hS h (by decide) (by decide) dX7_firstFor_47
    · replace h := it_f h c2
      refine lv_iload_n hx hb dX7_firstFor_10 rfl (lv_at hl 2 rfl) ?_
      refine lv_aload_n hx hb dX7_firstFor_11 rfl (lv_at hl 0 rfl) ?_
      replace h := b1_some h
      obtain ⟨a3, ga3, h⟩ := h
      refine z_getA X hW ga3 kX7 (by decide) (by decide) kf_X7_11 dX7_firstFor_12 ?_
      replace h := b1_some h
      obtain ⟨x4, gx4, h⟩ := h
      refine z_alenP X hW gx4 (by decide) (by decide) rfl dX7_firstFor_15 ?_
      refine lv_icmp_ge (tgt := 46) hx hb dX7_firstFor_16 (by decide) (fun c5 => ?_) (fun c5 => ?_)
      · replace h := it_t h c5
        refine lv_iconst (v := (-1)) hx hb dX7_firstFor_46 (by decide) ?_
        exact z_eti X hlk hr hW hS h (by decide) (by decide) dX7_firstFor_47
      · replace h := it_f h c5
        refine lv_aload_n hx hb dX7_firstFor_19 rfl (lv_at hl 0 rfl) ?_
        replace h := b1_some h
        obtain ⟨a6, ga6, h⟩ := h
        refine z_getA X hW ga6 kX7 (by decide) (by decide) kf_X7_11 dX7_firstFor_20 ?_
        refine lv_iload_n hx hb dX7_firstFor_23 rfl (lv_at hl 2 rfl) ?_
        replace h := b1_some h
        obtain ⟨r7, gr7, h⟩ := h
        refine z_aldP X hW gr7 (by decide) (by decide) rfl dX7_firstFor_24 ?_
        refine z_astore_n (lv' := [(3, va_rf r7), (0, .ref o), (1, va_rf v1), (2, .int v2)]) hx hb dX7_firstFor_25 rfl hl (by decide) rfl (fun ls hl => ?_)
        refine z_aload_n hx hb dX7_firstFor_26 rfl (lv_at hl 0 rfl) ?_
        cases r7 with
        | none =>
          replace h := oe_n h
          have hl : lv_has ls 4 [(3, .null), (0, .ref o), (1, va_rf v1), (2, .int v2)] := hl
          refine lv_ifnullN (tgt := 40) hx hb dX7_firstFor_27 (by decide) ?_
          refine lv_iinc (v := (v2 + 1)) (lv' := [(2, .int (v2 + 1)), (3, .null), (0, .ref o), (1, va_rf v1)]) hx hb dX7_firstFor_40 hl (k := 3) rfl rfl (by decide) (by cases v1 <;> rfl) (fun ls hl => ?_)
          refine lv_goto (tgt := 2) hx hb dX7_firstFor_43 (by decide) ?_
          exact ih o v1 (v2 + 1) _ _ _ _ (lv_sub hl [2, 3, 0] rfl) hW hS h
        | some a8 =>
          replace h := oe_s h
          have hl : lv_has ls 4 [(3, .ref a8), (0, .ref o), (1, va_rf v1), (2, .int v2)] := hl
          refine lv_ifnull hx hb dX7_firstFor_27 ?_
          refine lv_aload_n hx hb dX7_firstFor_30 rfl (lv_at hl 0 rfl) ?_
          replace h := b1_some h
          obtain ⟨a9, ga9, h⟩ := h
          refine z_getA X hW ga9 kX8 (by decide) (by decide) kf_X7_24 dX7_firstFor_31 ?_
          refine z_aload_n hx hb dX7_firstFor_34 rfl (lv_at hl 2 rfl) ?_
          refine lv_acmp_ne (rx := (some a9)) (ry := v1) (tgt := 40) hx hb dX7_firstFor_35 (by decide) (fun c10 => ?_) (fun c10 => ?_)
          · replace h := it_f h c10
            refine lv_iinc (v := (v2 + 1)) (lv' := [(2, .int (v2 + 1)), (3, .ref a8), (0, .ref o), (1, va_rf v1)]) hx hb dX7_firstFor_40 hl (k := 3) rfl rfl (by decide) (by cases v1 <;> rfl) (fun ls hl => ?_)
            refine lv_goto (tgt := 2) hx hb dX7_firstFor_43 (by decide) ?_
            exact ih o v1 (v2 + 1) _ _ _ _ (lv_sub hl [2, 3, 0] rfl) hW hS h
          · replace h := it_t h c10
            refine lv_iload_n hx hb dX7_firstFor_38 rfl (lv_at hl 3 rfl) ?_
            exact z_eti X hlk hr hW hS h (by decide) (by decide) dX7_firstFor_39

def fX7_firstFor (o : Nat) (v1 : Option Nat) (h : Hz) : Option (Int32 × Hz) := fX7_firstFor_2 100000 o v1 0 h
set_option maxHeartbeats 4000000 in
set_option maxRecDepth 100000 in
theorem wX7_firstFor_0 {r0 : Int32} {h0 : Hz} (X : zX A D cy p s m args c cX7_firstFor RX7 4) (hlk : meth.locks = false) (hr : meth.sig.returnType = (some .int)) (o : Nat) (v1 : Option Nat) (h : Hz) (H : Heap) (locs : List Loc) (ls : Array Slot) (hl : lv_has ls 4 [(0, .ref o), (1, va_rf v1)]) (hW : zW A cy D h H) (hS : va_S A s.heap H locs) (h : fX7_firstFor o v1 h = some (r0, h0)) : W p l e ({ frames := 0, cells := 0, slots := 0, locals := 0 } : Room) s m args below meth c H locs 0 0 (MQ below (va_Qi (fun r1 u => r1 = r0 ∧ u = h0) (zB A D cy) A) args s 0 0 A) (F0 m 0 ls []) := by
  obtain ⟨hx, hb, hts, hown, hK9, hml, hN9, hA9⟩ := id X
  unfold fX7_firstFor at h
  refine lv_iconst (v := 0) hx hb dX7_firstFor_0 (by decide) ?_
  refine lv_istore_n (lv' := [(2, .int 0), (0, .ref o), (1, va_rf v1)]) hx hb dX7_firstFor_1 rfl hl (by decide) (by cases v1 <;> rfl) (fun ls hl => ?_)
  exact wX7_firstFor_2 X hlk hr _ o v1 0 _ _ _ _ (lv_sub hl [1, 2, 0] rfl) hW hS h

set_option maxHeartbeats 4000000 in
set_option maxRecDepth 100000 in
theorem cX7_firstFor_met {l : Launch} {A : Nat → Prop} {D : va_G} {cy : Nat → ClassId} {r0 : Int32} {h0 : Hz} {o : Nat} {v1 : Option Nat} {h : Hz} (g : fX7_firstFor o v1 h = some (r0, h0)) : Met l yX7_firstFor (Cond.code yX7_firstFor cX7_firstFor 4 (some .int) :: wT) ({ frames := 0, cells := 0, slots := 0, locals := 0 } : Room) (va_Pc [.ref o, va_rf v1] (zS A D cy h)) (va_Qi (fun r1 u => r1 = r0 ∧ u = h0) (zB A D cy) A) 0 0 A := by
  refine Met.ofW (cc := cX7_firstFor) (maxL := 4) (ret := (some .int)) (by decide) rfl ?_
  intro p e s m args below meth c s₁ B hml hv
  obtain ⟨rfl, hW, hK, hN, hA⟩ := hv
  have X : zX A D cy p s m _ c cX7_firstFor RX7 4 := ⟨B.exec, B.bytes, fun w hw => atoms_spec (ws := Cond.code yX7_firstFor cX7_firstFor 4 (some .int) :: wT) B.pre w (List.mem_cons_of_mem _ hw), findClass_of_methodNamed B.named, hK, hml, hN, hA⟩
  cases v1 with
  | none =>
    have hl := lv_entry [.ref o, va_rf none] (n := 4) (Nat.le_of_ble_eq_true rfl)
    rw [lg_entry_eq]
    generalize (lg_sl [.ref o, va_rf none] ++ List.replicate (4 - (lg_sl [.ref o, va_rf none]).length) Slot.unset).toArray = ls at hl ⊢
    have hl : lv_has ls 4 [(0, .ref o), (1, va_rf none)] := hl
    exact wX7_firstFor_0 X B.notSynchronized B.returns o none _ _ _ _ (lv_sub hl [0, 1] rfl) hW va_S.rf g
  | some v1 =>
    have hl := lv_entry [.ref o, va_rf (some v1)] (n := 4) (Nat.le_of_ble_eq_true rfl)
    rw [lg_entry_eq]
    generalize (lg_sl [.ref o, va_rf (some v1)] ++ List.replicate (4 - (lg_sl [.ref o, va_rf (some v1)]).length) Slot.unset).toArray = ls at hl ⊢
    have hl : lv_has ls 4 [(0, .ref o), (1, va_rf (some v1))] := hl
    exact wX7_firstFor_0 X B.notSynchronized B.returns o (some v1) _ _ _ _ (lv_sub hl [0, 1] rfl) hW va_S.rf g

theorem dX7_remove_0 : decode cX7_remove 0 = .ok (.aload_n 0, 1) := by decide +kernel
theorem dX7_remove_1 : decode cX7_remove 1 = .ok (.getfield 17, 3) := by decide +kernel
theorem dX7_remove_4 : decode cX7_remove 4 = .ok (.iconst 1, 1) := by decide +kernel
theorem dX7_remove_5 : decode cX7_remove 5 = .ok (.isub, 1) := by decide +kernel
theorem dX7_remove_6 : decode cX7_remove 6 = .ok (.istore_n 2, 1) := by decide +kernel
theorem dX7_remove_7 : decode cX7_remove 7 = .ok (.iload_n 1, 1) := by decide +kernel
theorem dX7_remove_8 : decode cX7_remove 8 = .ok (.ifCond .lt 17, 3) := by decide +kernel
theorem dX7_remove_11 : decode cX7_remove 11 = .ok (.iload_n 1, 1) := by decide +kernel
theorem dX7_remove_12 : decode cX7_remove 12 = .ok (.iload_n 2, 1) := by decide +kernel
theorem dX7_remove_13 : decode cX7_remove 13 = .ok (.if_icmp .gt 12, 3) := by decide +kernel
theorem dX7_remove_16 : decode cX7_remove 16 = .ok (.iload_n 2, 1) := by decide +kernel
theorem dX7_remove_17 : decode cX7_remove 17 = .ok (.aload_n 0, 1) := by decide +kernel
theorem dX7_remove_18 : decode cX7_remove 18 = .ok (.getfield 11, 3) := by decide +kernel
theorem dX7_remove_21 : decode cX7_remove 21 = .ok (.arraylength, 1) := by decide +kernel
theorem dX7_remove_22 : decode cX7_remove 22 = .ok (.if_icmp .lt 4, 3) := by decide +kernel
theorem dX7_remove_25 : decode cX7_remove 25 = .ok (.return_, 1) := by decide +kernel
theorem dX7_remove_26 : decode cX7_remove 26 = .ok (.iload_n 1, 1) := by decide +kernel
theorem dX7_remove_27 : decode cX7_remove 27 = .ok (.istore_n 3, 1) := by decide +kernel
theorem dX7_remove_28 : decode cX7_remove 28 = .ok (.iload_n 3, 1) := by decide +kernel
theorem dX7_remove_29 : decode cX7_remove 29 = .ok (.iload_n 2, 1) := by decide +kernel
theorem dX7_remove_30 : decode cX7_remove 30 = .ok (.if_icmp .ge 23, 3) := by decide +kernel
theorem dX7_remove_33 : decode cX7_remove 33 = .ok (.aload_n 0, 1) := by decide +kernel
theorem dX7_remove_34 : decode cX7_remove 34 = .ok (.getfield 11, 3) := by decide +kernel
theorem dX7_remove_37 : decode cX7_remove 37 = .ok (.iload_n 3, 1) := by decide +kernel
theorem dX7_remove_38 : decode cX7_remove 38 = .ok (.aload_n 0, 1) := by decide +kernel
theorem dX7_remove_39 : decode cX7_remove 39 = .ok (.getfield 11, 3) := by decide +kernel
theorem dX7_remove_42 : decode cX7_remove 42 = .ok (.iload_n 3, 1) := by decide +kernel
theorem dX7_remove_43 : decode cX7_remove 43 = .ok (.iconst 1, 1) := by decide +kernel
theorem dX7_remove_44 : decode cX7_remove 44 = .ok (.iadd, 1) := by decide +kernel
theorem dX7_remove_45 : decode cX7_remove 45 = .ok (.aaload, 1) := by decide +kernel
theorem dX7_remove_46 : decode cX7_remove 46 = .ok (.aastore, 1) := by decide +kernel
theorem dX7_remove_47 : decode cX7_remove 47 = .ok (.iinc 3 1, 3) := by decide +kernel
theorem dX7_remove_50 : decode cX7_remove 50 = .ok (.goto (-22), 3) := by decide +kernel
theorem dX7_remove_53 : decode cX7_remove 53 = .ok (.aload_n 0, 1) := by decide +kernel
theorem dX7_remove_54 : decode cX7_remove 54 = .ok (.getfield 11, 3) := by decide +kernel
theorem dX7_remove_57 : decode cX7_remove 57 = .ok (.iload_n 2, 1) := by decide +kernel
theorem dX7_remove_58 : decode cX7_remove 58 = .ok (.aconst_null, 1) := by decide +kernel
theorem dX7_remove_59 : decode cX7_remove 59 = .ok (.aastore, 1) := by decide +kernel
theorem dX7_remove_60 : decode cX7_remove 60 = .ok (.aload_n 0, 1) := by decide +kernel
theorem dX7_remove_61 : decode cX7_remove 61 = .ok (.iload_n 2, 1) := by decide +kernel
theorem dX7_remove_62 : decode cX7_remove 62 = .ok (.putfield 17, 3) := by decide +kernel
theorem dX7_remove_65 : decode cX7_remove 65 = .ok (.return_, 1) := by decide +kernel
def fX7_remove_28 : Nat → Nat → Int32 → Int32 → Hz → Option (Unit × Hz)
  | 0, _, _, _, _ => none
  | n + 1, o, v2, v3, h => (if v2 ≤ v3 then (b1 (gA 7 0 o h) fun a2 => (b1 (yP 18 8 a2 v2 none h) fun s3 => (b1 (pI 7 1 o v2 s3) fun s4 => some ((), s4)))) else (b1 (gA 7 0 o h) fun a5 => (b1 (gA 7 0 o h) fun a6 => (b1 (xP 18 a6 (v3 + 1) h) fun r7 => (b1 (yP 18 8 a5 v3 r7 h) fun s8 => fX7_remove_28 n o v2 (v3 + 1) s8)))))
set_option maxHeartbeats 4000000 in
set_option maxRecDepth 100000 in
theorem wX7_remove_28 {r0 : Unit} {h0 : Hz} (X : zX A D cy p s m args c cX7_remove RX7 4) (hlk : meth.locks = false) (hr : meth.sig.returnType = none) : ∀ (n : Nat) (o : Nat) (v2 : Int32) (v3 : Int32) (h : Hz) (H : Heap) (locs : List Loc) (ls : Array Slot) (hl : lv_has ls 4 [(0, .ref o), (2, .int v2), (3, .int v3)]) (hW : zW A cy D h H) (hS : va_S A s.heap H locs) (h : fX7_remove_28 n o v2 v3 h = some (r0, h0)), W p l e ({ frames := 0, cells := 0, slots := 0, locals := 0 } : Room) s m args below meth c H locs 0 0 (MQ below (va_Qv (fun u => u = h0) (zB A D cy) A) args s 0 0 A) (F0 m 28 ls []) := by
  obtain ⟨hx, hb, hts, hown, hK9, hml, hN9, hA9⟩ := id X
  intro n
  induction n with
  | zero =>
    intro o v2 v3 h H locs ls hl hW hS h
    rw [fX7_remove_28] at h
    cases h
  | succ n ih =>
    intro o v2 v3 h H locs ls hl hW hS h
    rw [fX7_remove_28] at h
    refine lv_iload_n hx hb dX7_remove_28 rfl (lv_at hl 2 rfl) ?_
    refine lv_iload_n hx hb dX7_remove_29 rfl (lv_at hl 1 rfl) ?_
    refine lv_icmp_ge (tgt := 53) hx hb dX7_remove_30 (by decide) (fun c1 => ?_) (fun c1 => ?_)
    · replace h := it_t h c1
      refine lv_aload_n hx hb dX7_remove_53 rfl (lv_at hl 0 rfl) ?_
      replace h := b1_some h
      obtain ⟨a2, ga2, h⟩ := h
      refine z_getA X hW ga2 kX7 (by decide) (by decide) kf_X7_11 dX7_remove_54 ?_
      refine lv_iload_n hx hb dX7_remove_57 rfl (lv_at hl 1 rfl) ?_
      refine lv_null hx hb dX7_remove_58 ?_
      replace h := b1_some h
      obtain ⟨s3, gs3, h⟩ := h
      refine z_astP X hW hS gs3 (by decide) (by decide) kX8 rfl dX7_remove_59 (fun H locs hW hS => ?_)
      refine lv_aload_n hx hb dX7_remove_60 rfl (lv_at hl 0 rfl) ?_
      refine lv_iload_n hx hb dX7_remove_61 rfl (lv_at hl 1 rfl) ?_
      replace h := b1_some h
      obtain ⟨s4, gs4, h⟩ := h
      refine z_putI X hW hS gs4 kX7 (by decide) (by decide) rfl (Or.inl rfl) kf_X7_17 dX7_remove_62 (fun H locs hW hS => ?_)
      exact z_etv X hlk hr hW hS h (by decide) (by decide) dX7_remove_65
    · replace h := it_f h c1
      refine lv_aload_n hx hb dX7_remove_33 rfl (lv_at hl 0 rfl) ?_
      replace h := b1_some h
      obtain ⟨a5, ga5, h⟩ := h
      refine z_getA X hW ga5 kX7 (by decide) (by decide) kf_X7_11 dX7_remove_34 ?_
      refine lv_iload_n hx hb dX7_remove_37 rfl (lv_at hl 2 rfl) ?_
      refine lv_aload_n hx hb dX7_remove_38 rfl (lv_at hl 0 rfl) ?_
      replace h := b1_some h
      obtain ⟨a6, ga6, h⟩ := h
      refine z_getA X hW ga6 kX7 (by decide) (by decide) kf_X7_11 dX7_remove_39 ?_
      refine lv_iload_n hx hb dX7_remove_42 rfl (lv_at hl 2 rfl) ?_
      refine lv_iconst (v := 1) hx hb dX7_remove_43 (by decide) ?_
      refine lv_iadd hx hb dX7_remove_44 ?_
      replace h := b1_some h
      obtain ⟨r7, gr7, h⟩ := h
      refine z_aldP X hW gr7 (by decide) (by decide) rfl dX7_remove_45 ?_
      replace h := b1_some h
      obtain ⟨s8, gs8, h⟩ := h
      refine z_astP X hW hS gs8 (by decide) (by decide) kX8 rfl dX7_remove_46 (fun H locs hW hS => ?_)
      refine lv_iinc (v := (v3 + 1)) (lv' := [(3, .int (v3 + 1)), (0, .ref o), (2, .int v2)]) hx hb dX7_remove_47 hl (k := 2) rfl rfl (by decide) rfl (fun ls hl => ?_)
      refine lv_goto (tgt := 28) hx hb dX7_remove_50 (by decide) ?_
      exact ih o v2 (v3 + 1) _ _ _ _ (lv_sub hl [1, 2, 0] rfl) hW hS h

def fX7_remove (o : Nat) (v1 : Int32) (h : Hz) : Option (Unit × Hz) := (b1 (gI 7 1 o h) fun x1 => (if v1 < 0 then some ((), h) else (if (x1 - 1) < v1 then some ((), h) else (b1 (gA 7 0 o h) fun a4 => (b1 (xN 18 a4 h) fun x5 => (if (x1 - 1) < x5 then fX7_remove_28 100000 o (x1 - 1) v1 h else some ((), h)))))))
set_option maxHeartbeats 4000000 in
set_option maxRecDepth 100000 in
theorem wX7_remove_0 {r0 : Unit} {h0 : Hz} (X : zX A D cy p s m args c cX7_remove RX7 4) (hlk : meth.locks = false) (hr : meth.sig.returnType = none) (o : Nat) (v1 : Int32) (h : Hz) (H : Heap) (locs : List Loc) (ls : Array Slot) (hl : lv_has ls 4 [(0, .ref o), (1, .int v1)]) (hW : zW A cy D h H) (hS : va_S A s.heap H locs) (h : fX7_remove o v1 h = some (r0, h0)) : W p l e ({ frames := 0, cells := 0, slots := 0, locals := 0 } : Room) s m args below meth c H locs 0 0 (MQ below (va_Qv (fun u => u = h0) (zB A D cy) A) args s 0 0 A) (F0 m 0 ls []) := by
  obtain ⟨hx, hb, hts, hown, hK9, hml, hN9, hA9⟩ := id X
  unfold fX7_remove at h
  refine lv_aload_n hx hb dX7_remove_0 rfl (lv_at hl 0 rfl) ?_
  replace h := b1_some h
  obtain ⟨x1, gx1, h⟩ := h
  refine z_getI X hW gx1 kX7 (by decide) (by decide) kf_X7_17 dX7_remove_1 ?_
  refine lv_iconst (v := 1) hx hb dX7_remove_4 (by decide) ?_
  refine lv_isub hx hb dX7_remove_5 ?_
  refine lv_istore_n (lv' := [(2, .int (x1 - 1)), (0, .ref o), (1, .int v1)]) hx hb dX7_remove_6 rfl hl (by decide) rfl (fun ls hl => ?_)
  refine lv_iload_n hx hb dX7_remove_7 rfl (lv_at hl 2 rfl) ?_
  refine lv_if_lt (tgt := 25) hx hb dX7_remove_8 (by decide) (fun c2 => ?_) (fun c2 => ?_)
  · replace h := it_t h c2
    exact z_etv X hlk hr hW hS h (by decide) (by decide) dX7_remove_25
  · replace h := it_f h c2
    refine lv_iload_n hx hb dX7_remove_11 rfl (lv_at hl 2 rfl) ?_
    refine lv_iload_n hx hb dX7_remove_12 rfl (lv_at hl 0 rfl) ?_
    refine lv_icmp_gt (tgt := 25) hx hb dX7_remove_13 (by decide) (fun c3 => ?_) (fun c3 => ?_)
    · replace h := it_t h c3
      exact z_etv X hlk hr hW hS h (by decide) (by decide) dX7_remove_25
    · replace h := it_f h c3
      refine lv_iload_n hx hb dX7_remove_16 rfl (lv_at hl 0 rfl) ?_
      refine lv_aload_n hx hb dX7_remove_17 rfl (lv_at hl 1 rfl) ?_
      replace h := b1_some h
      obtain ⟨a4, ga4, h⟩ := h
      refine z_getA X hW ga4 kX7 (by decide) (by decide) kf_X7_11 dX7_remove_18 ?_
      replace h := b1_some h
      obtain ⟨x5, gx5, h⟩ := h
      refine z_alenP X hW gx5 (by decide) (by decide) rfl dX7_remove_21 ?_
      refine lv_icmp_lt (tgt := 26) hx hb dX7_remove_22 (by decide) (fun c6 => ?_) (fun c6 => ?_)
      · replace h := it_t h c6
        refine lv_iload_n hx hb dX7_remove_26 rfl (lv_at hl 2 rfl) ?_
        refine lv_istore_n (lv' := [(3, .int v1), (2, .int (x1 - 1)), (0, .ref o), (1, .int v1)]) hx hb dX7_remove_27 rfl hl (by decide) rfl (fun ls hl => ?_)
        exact wX7_remove_28 X hlk hr _ o (x1 - 1) v1 _ _ _ _ (lv_sub hl [2, 1, 0] rfl) hW hS h
      · replace h := it_f h c6
        exact z_etv X hlk hr hW hS h (by decide) (by decide) dX7_remove_25

set_option maxHeartbeats 4000000 in
set_option maxRecDepth 100000 in
theorem cX7_remove_met {l : Launch} {A : Nat → Prop} {D : va_G} {cy : Nat → ClassId} {r0 : Unit} {h0 : Hz} {o : Nat} {v1 : Int32} {h : Hz} (g : fX7_remove o v1 h = some (r0, h0)) : Met l yX7_remove (Cond.code yX7_remove cX7_remove 4 none :: wT) ({ frames := 0, cells := 0, slots := 0, locals := 0 } : Room) (va_Pc [.ref o, .int v1] (zS A D cy h)) (va_Qv (fun u => u = h0) (zB A D cy) A) 0 0 A := by
  refine Met.ofW (cc := cX7_remove) (maxL := 4) (ret := none) (by decide) rfl ?_
  intro p e s m args below meth c s₁ B hml hv
  obtain ⟨rfl, hW, hK, hN, hA⟩ := hv
  have X : zX A D cy p s m _ c cX7_remove RX7 4 := ⟨B.exec, B.bytes, fun w hw => atoms_spec (ws := Cond.code yX7_remove cX7_remove 4 none :: wT) B.pre w (List.mem_cons_of_mem _ hw), findClass_of_methodNamed B.named, hK, hml, hN, hA⟩
  have hl := lv_entry [.ref o, .int v1] (n := 4) (Nat.le_of_ble_eq_true rfl)
  rw [lg_entry_eq]
  generalize (lg_sl [.ref o, .int v1] ++ List.replicate (4 - (lg_sl [.ref o, .int v1]).length) Slot.unset).toArray = ls at hl ⊢
  have hl : lv_has ls 4 [(0, .ref o), (1, .int v1)] := hl
  exact wX7_remove_0 X B.notSynchronized B.returns o v1 _ _ _ _ (lv_sub hl [0, 1] rfl) hW va_S.rf g

theorem dX9_init_0 : decode cX9_init 0 = .ok (.aload_n 0, 1) := by decide +kernel
theorem dX9_init_1 : decode cX9_init 1 = .ok (.invokespecial 3, 3) := by decide +kernel
theorem dX9_init_4 : decode cX9_init 4 = .ok (.aload_n 0, 1) := by decide +kernel
theorem dX9_init_5 : decode cX9_init 5 = .ok (.sipush 300, 3) := by decide +kernel
theorem dX9_init_8 : decode cX9_init 8 = .ok (.newarray .boolean, 2) := by decide +kernel
theorem dX9_init_10 : decode cX9_init 10 = .ok (.putfield 9, 3) := by decide +kernel
theorem dX9_init_13 : decode cX9_init 13 = .ok (.aload_n 0, 1) := by decide +kernel
theorem dX9_init_14 : decode cX9_init 14 = .ok (.sipush 300, 3) := by decide +kernel
theorem dX9_init_17 : decode cX9_init 17 = .ok (.newarray .boolean, 2) := by decide +kernel
theorem dX9_init_19 : decode cX9_init 19 = .ok (.putfield 15, 3) := by decide +kernel
theorem dX9_init_22 : decode cX9_init 22 = .ok (.aload_n 0, 1) := by decide +kernel
theorem dX9_init_23 : decode cX9_init 23 = .ok (.sipush 300, 3) := by decide +kernel
theorem dX9_init_26 : decode cX9_init 26 = .ok (.newarray .int, 2) := by decide +kernel
theorem dX9_init_28 : decode cX9_init 28 = .ok (.putfield 18, 3) := by decide +kernel
theorem dX9_init_31 : decode cX9_init 31 = .ok (.aload_n 0, 1) := by decide +kernel
theorem dX9_init_32 : decode cX9_init 32 = .ok (.bipush 8, 2) := by decide +kernel
theorem dX9_init_34 : decode cX9_init 34 = .ok (.newarray .int, 2) := by decide +kernel
theorem dX9_init_36 : decode cX9_init 36 = .ok (.putfield 22, 3) := by decide +kernel
theorem dX9_init_39 : decode cX9_init 39 = .ok (.aload_n 0, 1) := by decide +kernel
theorem dX9_init_40 : decode cX9_init 40 = .ok (.iconst 0, 1) := by decide +kernel
theorem dX9_init_41 : decode cX9_init 41 = .ok (.putfield 25, 3) := by decide +kernel
theorem dX9_init_44 : decode cX9_init 44 = .ok (.aload_n 0, 1) := by decide +kernel
theorem dX9_init_45 : decode cX9_init 45 = .ok (.iconst 1, 1) := by decide +kernel
theorem dX9_init_46 : decode cX9_init 46 = .ok (.putfield 29, 3) := by decide +kernel
theorem dX9_init_49 : decode cX9_init 49 = .ok (.aload_n 0, 1) := by decide +kernel
theorem dX9_init_50 : decode cX9_init 50 = .ok (.iconst 0, 1) := by decide +kernel
theorem dX9_init_51 : decode cX9_init 51 = .ok (.putfield 32, 3) := by decide +kernel
theorem dX9_init_54 : decode cX9_init 54 = .ok (.aload_n 0, 1) := by decide +kernel
theorem dX9_init_55 : decode cX9_init 55 = .ok (.iconst 0, 1) := by decide +kernel
theorem dX9_init_56 : decode cX9_init 56 = .ok (.putfield 35, 3) := by decide +kernel
theorem dX9_init_59 : decode cX9_init 59 = .ok (.aload_n 0, 1) := by decide +kernel
theorem dX9_init_60 : decode cX9_init 60 = .ok (.iconst 0, 1) := by decide +kernel
theorem dX9_init_61 : decode cX9_init 61 = .ok (.putfield 38, 3) := by decide +kernel
theorem dX9_init_64 : decode cX9_init 64 = .ok (.aload_n 0, 1) := by decide +kernel
theorem dX9_init_65 : decode cX9_init 65 = .ok (.iload_n 1, 1) := by decide +kernel
theorem dX9_init_66 : decode cX9_init 66 = .ok (.putfield 41, 3) := by decide +kernel
theorem dX9_init_69 : decode cX9_init 69 = .ok (.aload_n 0, 1) := by decide +kernel
theorem dX9_init_70 : decode cX9_init 70 = .ok (.aload_n 2, 1) := by decide +kernel
theorem dX9_init_71 : decode cX9_init 71 = .ok (.putfield 44, 3) := by decide +kernel
theorem dX9_init_74 : decode cX9_init 74 = .ok (.iconst 0, 1) := by decide +kernel
theorem dX9_init_75 : decode cX9_init 75 = .ok (.istore_n 3, 1) := by decide +kernel
theorem dX9_init_76 : decode cX9_init 76 = .ok (.iload_n 3, 1) := by decide +kernel
theorem dX9_init_77 : decode cX9_init 77 = .ok (.aload_n 0, 1) := by decide +kernel
theorem dX9_init_78 : decode cX9_init 78 = .ok (.getfield 22, 3) := by decide +kernel
theorem dX9_init_81 : decode cX9_init 81 = .ok (.arraylength, 1) := by decide +kernel
theorem dX9_init_82 : decode cX9_init 82 = .ok (.if_icmp .ge 16, 3) := by decide +kernel
theorem dX9_init_85 : decode cX9_init 85 = .ok (.aload_n 0, 1) := by decide +kernel
theorem dX9_init_86 : decode cX9_init 86 = .ok (.getfield 22, 3) := by decide +kernel
theorem dX9_init_89 : decode cX9_init 89 = .ok (.iload_n 3, 1) := by decide +kernel
theorem dX9_init_90 : decode cX9_init 90 = .ok (.iconst (-1), 1) := by decide +kernel
theorem dX9_init_91 : decode cX9_init 91 = .ok (.iastore, 1) := by decide +kernel
theorem dX9_init_92 : decode cX9_init 92 = .ok (.iinc 3 1, 3) := by decide +kernel
theorem dX9_init_95 : decode cX9_init 95 = .ok (.goto (-19), 3) := by decide +kernel
theorem dX9_init_98 : decode cX9_init 98 = .ok (.return_, 1) := by decide +kernel
def fX9_init_76 : Nat → Nat → Int32 → Hz → Option (Unit × Hz)
  | 0, _, _, _ => none
  | n + 1, o, v3, h => (b1 (gA 9 5 o h) fun a1 => (b1 (xN 12 a1 h) fun x2 => (if x2 ≤ v3 then some ((), h) else (b1 (gA 9 5 o h) fun a4 => (b1 (yI a4 v3 (-1) h) fun s5 => fX9_init_76 n o (v3 + 1) s5)))))
set_option maxHeartbeats 4000000 in
set_option maxRecDepth 100000 in
theorem wX9_init_76 {r0 : Unit} {h0 : Hz} (X : zX A D cy p s m args c cX9_init RX9 4) (hlk : meth.locks = false) (hr : meth.sig.returnType = none) (hin : meth.name = "<init>") : ∀ (n : Nat) (o : Nat) (v3 : Int32) (h : Hz) (H : Heap) (locs : List Loc) (ls : Array Slot) (hl : lv_has ls 4 [(0, .ref o), (3, .int v3)]) (hW : zW A cy D h H) (hS : va_S A s.heap H locs) (h : fX9_init_76 n o v3 h = some (r0, h0)), W p l e ({ frames := 1, cells := 4, slots := 908, locals := 12 } : Room) s m args below meth c H locs 4 908 (MQ below (va_Qv (fun u => u = h0) (zB A D cy) A) args s 4 908 A) (F0 m 76 ls []) := by
  obtain ⟨hx, hb, hts, hown, hK9, hml, hN9, hA9⟩ := id X
  intro n
  induction n with
  | zero =>
    intro o v3 h H locs ls hl hW hS h
    rw [fX9_init_76] at h
    cases h
  | succ n ih =>
    intro o v3 h H locs ls hl hW hS h
    rw [fX9_init_76] at h
    refine lv_iload_n hx hb dX9_init_76 rfl (lv_at hl 1 rfl) ?_
    refine lv_aload_n hx hb dX9_init_77 rfl (lv_at hl 0 rfl) ?_
    replace h := b1_some h
    obtain ⟨a1, ga1, h⟩ := h
    refine z_getA X hW ga1 kX9 (by decide) (by decide) kf_X9_22 dX9_init_78 ?_
    replace h := b1_some h
    obtain ⟨x2, gx2, h⟩ := h
    refine z_alenI X hW gx2 dX9_init_81 ?_
    refine lv_icmp_ge (tgt := 98) hx hb dX9_init_82 (by decide) (fun c3 => ?_) (fun c3 => ?_)
    · replace h := it_t h c3
      exact z_etv X hlk hr hW hS h (by decide) (by decide) dX9_init_98
    · replace h := it_f h c3
      refine lv_aload_n hx hb dX9_init_85 rfl (lv_at hl 0 rfl) ?_
      replace h := b1_some h
      obtain ⟨a4, ga4, h⟩ := h
      refine z_getA X hW ga4 kX9 (by decide) (by decide) kf_X9_22 dX9_init_86 ?_
      refine lv_iload_n hx hb dX9_init_89 rfl (lv_at hl 1 rfl) ?_
      refine lv_iconst (v := (-1)) hx hb dX9_init_90 (by decide) ?_
      replace h := b1_some h
      obtain ⟨s5, gs5, h⟩ := h
      refine z_astI X hW hS gs5 dX9_init_91 (fun H locs hW hS => ?_)
      refine lv_iinc (v := (v3 + 1)) (lv' := [(3, .int (v3 + 1)), (0, .ref o)]) hx hb dX9_init_92 hl (k := 1) rfl rfl (by decide) rfl (fun ls hl => ?_)
      refine lv_goto (tgt := 76) hx hb dX9_init_95 (by decide) ?_
      exact ih o (v3 + 1) _ _ _ _ (lv_sub hl [1, 0] rfl) hW hS h

def fX9_init (o : Nat) (v1 : Int32) (v2 : Option Nat) (h : Hz) : Option (Unit × Hz) := (b2 (nA 14 300 300 h) fun a1 s2 => (b1 (pP 9 2 o (some a1) s2) fun s3 => (b2 (nA 14 300 300 s3) fun a4 s5 => (b1 (pP 9 3 o (some a4) s5) fun s6 => (b2 (nA 12 300 300 s6) fun a7 s8 => (b1 (pP 9 4 o (some a7) s8) fun s9 => (b2 (nA 12 8 8 s9) fun a10 s11 => (b1 (pP 9 5 o (some a10) s11) fun s12 => (b1 (pI 9 6 o 0 s12) fun s13 => (b1 (pI 9 7 o 1 s13) fun s14 => (b1 (pI 9 8 o 0 s14) fun s15 => (b1 (pI 9 9 o 0 s15) fun s16 => (b1 (pI 9 10 o 0 s16) fun s17 => (b1 (pI 9 0 o v1 s17) fun s18 => (b1 (pP 9 1 o v2 s18) fun s19 => fX9_init_76 100000 o 0 s19)))))))))))))))
set_option maxHeartbeats 4000000 in
set_option maxRecDepth 100000 in
theorem wX9_init_0 {r0 : Unit} {h0 : Hz} (X : zX A D cy p s m args c cX9_init RX9 4) (hlk : meth.locks = false) (hr : meth.sig.returnType = none) (hin : meth.name = "<init>") (o : Nat) (v1 : Int32) (v2 : Option Nat) (h : Hz) (H : Heap) (locs : List Loc) (ls : Array Slot) (hl : lv_has ls 4 [(0, .ref o), (1, .int v1), (2, va_rf v2)]) (hW : zW A cy D h H) (hS : va_S A s.heap H locs) (h : fX9_init o v1 v2 h = some (r0, h0)) : W p l e ({ frames := 1, cells := 4, slots := 908, locals := 12 } : Room) s m args below meth c H locs 0 0 (MQ below (va_Qv (fun u => u = h0) (zB A D cy) A) args s 4 908 A) (F0 m 0 ls []) := by
  obtain ⟨hx, hb, hts, hown, hK9, hml, hN9, hA9⟩ := id X
  unfold fX9_init at h
  refine lv_aload_n hx hb dX9_init_0 rfl (lv_at hl 0 rfl) ?_
  refine W.objInit hx hb hown (hts _ kl_X9_3) (hts _ km_objectInit) (hts _ kco) rfl (by rw [hml]; exact hl.1) rfl dX9_init_1 (Nat.le_of_ble_eq_true rfl) (Nat.le_of_ble_eq_true rfl) ?_
  refine W.eq (g2 := F0 m 4 ls []) rfl ?_
  refine lv_aload_n hx hb dX9_init_4 rfl (lv_at hl 0 rfl) ?_
  refine lv_sipush (v := 300) hx hb dX9_init_5 (by decide) ?_
  replace h := b2_some h
  obtain ⟨a1, s2, ga1, h⟩ := h
  refine z_newN (ty := .int) X hW hS ga1 (Or.inr (Or.inr ⟨rfl, rfl⟩)) kp_boolean (by decide) dX9_init_8 (by decide) (by decide) (fun H hW hS => ?_)
  replace h := b1_some h
  obtain ⟨s3, gs3, h⟩ := h
  refine z_putP X hW hS gs3 kX9 (by decide) (by decide) (Or.inr ⟨_, rfl⟩) (Or.inr ⟨rfl, hin, rfl⟩) kf_X9_9 dX9_init_10 (fun H locs hW hS => ?_)
  refine lv_aload_n hx hb dX9_init_13 rfl (lv_at hl 0 rfl) ?_
  refine lv_sipush (v := 300) hx hb dX9_init_14 (by decide) ?_
  replace h := b2_some h
  obtain ⟨a4, s5, ga4, h⟩ := h
  refine z_newN (ty := .int) X hW hS ga4 (Or.inr (Or.inr ⟨rfl, rfl⟩)) kp_boolean (by decide) dX9_init_17 (by decide) (by decide) (fun H hW hS => ?_)
  replace h := b1_some h
  obtain ⟨s6, gs6, h⟩ := h
  refine z_putP X hW hS gs6 kX9 (by decide) (by decide) (Or.inr ⟨_, rfl⟩) (Or.inr ⟨rfl, hin, rfl⟩) kf_X9_15 dX9_init_19 (fun H locs hW hS => ?_)
  refine lv_aload_n hx hb dX9_init_22 rfl (lv_at hl 0 rfl) ?_
  refine lv_sipush (v := 300) hx hb dX9_init_23 (by decide) ?_
  replace h := b2_some h
  obtain ⟨a7, s8, ga7, h⟩ := h
  refine z_newN (ty := .int) X hW hS ga7 (Or.inl ⟨rfl, rfl⟩) kp_int (by decide) dX9_init_26 (by decide) (by decide) (fun H hW hS => ?_)
  replace h := b1_some h
  obtain ⟨s9, gs9, h⟩ := h
  refine z_putP X hW hS gs9 kX9 (by decide) (by decide) (Or.inr ⟨_, rfl⟩) (Or.inr ⟨rfl, hin, rfl⟩) kf_X9_18 dX9_init_28 (fun H locs hW hS => ?_)
  refine lv_aload_n hx hb dX9_init_31 rfl (lv_at hl 0 rfl) ?_
  refine lv_bipush (v := 8) hx hb dX9_init_32 (by decide) ?_
  replace h := b2_some h
  obtain ⟨a10, s11, ga10, h⟩ := h
  refine z_newN (ty := .int) X hW hS ga10 (Or.inl ⟨rfl, rfl⟩) kp_int (by decide) dX9_init_34 (by decide) (by decide) (fun H hW hS => ?_)
  replace h := b1_some h
  obtain ⟨s12, gs12, h⟩ := h
  refine z_putP X hW hS gs12 kX9 (by decide) (by decide) (Or.inr ⟨_, rfl⟩) (Or.inr ⟨rfl, hin, rfl⟩) kf_X9_22 dX9_init_36 (fun H locs hW hS => ?_)
  refine lv_aload_n hx hb dX9_init_39 rfl (lv_at hl 0 rfl) ?_
  refine lv_iconst (v := 0) hx hb dX9_init_40 (by decide) ?_
  replace h := b1_some h
  obtain ⟨s13, gs13, h⟩ := h
  refine z_putI X hW hS gs13 kX9 (by decide) (by decide) rfl (Or.inl rfl) kf_X9_25 dX9_init_41 (fun H locs hW hS => ?_)
  refine lv_aload_n hx hb dX9_init_44 rfl (lv_at hl 0 rfl) ?_
  refine lv_iconst (v := 1) hx hb dX9_init_45 (by decide) ?_
  replace h := b1_some h
  obtain ⟨s14, gs14, h⟩ := h
  refine z_putI X hW hS gs14 kX9 (by decide) (by decide) rfl (Or.inl rfl) kf_X9_29 dX9_init_46 (fun H locs hW hS => ?_)
  refine lv_aload_n hx hb dX9_init_49 rfl (lv_at hl 0 rfl) ?_
  refine lv_iconst (v := 0) hx hb dX9_init_50 (by decide) ?_
  replace h := b1_some h
  obtain ⟨s15, gs15, h⟩ := h
  refine z_putI X hW hS gs15 kX9 (by decide) (by decide) rfl (Or.inl rfl) kf_X9_32 dX9_init_51 (fun H locs hW hS => ?_)
  refine lv_aload_n hx hb dX9_init_54 rfl (lv_at hl 0 rfl) ?_
  refine lv_iconst (v := 0) hx hb dX9_init_55 (by decide) ?_
  replace h := b1_some h
  obtain ⟨s16, gs16, h⟩ := h
  refine z_putI X hW hS gs16 kX9 (by decide) (by decide) rfl (Or.inl rfl) kf_X9_35 dX9_init_56 (fun H locs hW hS => ?_)
  refine lv_aload_n hx hb dX9_init_59 rfl (lv_at hl 0 rfl) ?_
  refine lv_iconst (v := 0) hx hb dX9_init_60 (by decide) ?_
  replace h := b1_some h
  obtain ⟨s17, gs17, h⟩ := h
  refine z_putI X hW hS gs17 kX9 (by decide) (by decide) rfl (Or.inl rfl) kf_X9_38 dX9_init_61 (fun H locs hW hS => ?_)
  refine lv_aload_n hx hb dX9_init_64 rfl (lv_at hl 0 rfl) ?_
  refine lv_iload_n hx hb dX9_init_65 rfl (lv_at hl 1 rfl) ?_
  replace h := b1_some h
  obtain ⟨s18, gs18, h⟩ := h
  refine z_putI X hW hS gs18 kX9 (by decide) (by decide) rfl (Or.inr ⟨rfl, hin, rfl⟩) kf_X9_41 dX9_init_66 (fun H locs hW hS => ?_)
  refine lv_aload_n hx hb dX9_init_69 rfl (lv_at hl 0 rfl) ?_
  refine z_aload_n hx hb dX9_init_70 rfl (lv_at hl 2 rfl) ?_
  replace h := b1_some h
  obtain ⟨s19, gs19, h⟩ := h
  refine z_putP X hW hS gs19 kX9 (by decide) (by decide) (Or.inl ⟨_, rfl⟩) (Or.inr ⟨rfl, hin, rfl⟩) kf_X9_44 dX9_init_71 (fun H locs hW hS => ?_)
  refine lv_iconst (v := 0) hx hb dX9_init_74 (by decide) ?_
  refine lv_istore_n (lv' := [(3, .int 0), (0, .ref o), (1, .int v1), (2, va_rf v2)]) hx hb dX9_init_75 rfl hl (by decide) (by cases v2 <;> rfl) (fun ls hl => ?_)
  exact wX9_init_76 X hlk hr hin _ o 0 _ _ _ _ (lv_sub hl [1, 0] rfl) hW hS h

set_option maxHeartbeats 4000000 in
set_option maxRecDepth 100000 in
theorem cX9_init_met {l : Launch} {A : Nat → Prop} {D : va_G} {cy : Nat → ClassId} {r0 : Unit} {h0 : Hz} {o : Nat} {v1 : Int32} {v2 : Option Nat} {h : Hz} (g : fX9_init o v1 v2 h = some (r0, h0)) : Met l yX9_init (Cond.code yX9_init cX9_init 4 none :: wT) ({ frames := 1, cells := 4, slots := 908, locals := 12 } : Room) (va_Pc [.ref o, .int v1, va_rf v2] (zS A D cy h)) (va_Qv (fun u => u = h0) (zB A D cy) A) 4 908 A := by
  refine Met.ofW (cc := cX9_init) (maxL := 4) (ret := none) (by decide) rfl ?_
  intro p e s m args below meth c s₁ B hml hv
  obtain ⟨rfl, hW, hK, hN, hA⟩ := hv
  have X : zX A D cy p s m _ c cX9_init RX9 4 := ⟨B.exec, B.bytes, fun w hw => atoms_spec (ws := Cond.code yX9_init cX9_init 4 none :: wT) B.pre w (List.mem_cons_of_mem _ hw), findClass_of_methodNamed B.named, hK, hml, hN, hA⟩
  have hin : meth.name = "<init>" := (name_of_methodNamed B.named B.method).1
  cases v2 with
  | none =>
    have hl := lv_entry [.ref o, .int v1, va_rf none] (n := 4) (Nat.le_of_ble_eq_true rfl)
    rw [lg_entry_eq]
    generalize (lg_sl [.ref o, .int v1, va_rf none] ++ List.replicate (4 - (lg_sl [.ref o, .int v1, va_rf none]).length) Slot.unset).toArray = ls at hl ⊢
    have hl : lv_has ls 4 [(0, .ref o), (1, .int v1), (2, va_rf none)] := hl
    exact wX9_init_0 X B.notSynchronized B.returns hin o v1 none _ _ _ _ (lv_sub hl [0, 1, 2] rfl) hW va_S.rf g
  | some v2 =>
    have hl := lv_entry [.ref o, .int v1, va_rf (some v2)] (n := 4) (Nat.le_of_ble_eq_true rfl)
    rw [lg_entry_eq]
    generalize (lg_sl [.ref o, .int v1, va_rf (some v2)] ++ List.replicate (4 - (lg_sl [.ref o, .int v1, va_rf (some v2)]).length) Slot.unset).toArray = ls at hl ⊢
    have hl : lv_has ls 4 [(0, .ref o), (1, .int v1), (2, va_rf (some v2))] := hl
    exact wX9_init_0 X B.notSynchronized B.returns hin o v1 (some v2) _ _ _ _ (lv_sub hl [0, 1, 2] rfl) hW va_S.rf g

theorem dX9_hasPassed_0 : decode cX9_hasPassed 0 = .ok (.aload_n 1, 1) := by decide +kernel
theorem dX9_hasPassed_1 : decode cX9_hasPassed 1 = .ok (.getfield 48, 3) := by decide +kernel
theorem dX9_hasPassed_4 : decode cX9_hasPassed 4 = .ok (.ifCond .lt 31, 3) := by decide +kernel
theorem dX9_hasPassed_7 : decode cX9_hasPassed 7 = .ok (.aload_n 1, 1) := by decide +kernel
theorem dX9_hasPassed_8 : decode cX9_hasPassed 8 = .ok (.getfield 48, 3) := by decide +kernel
theorem dX9_hasPassed_11 : decode cX9_hasPassed 11 = .ok (.aload_n 0, 1) := by decide +kernel
theorem dX9_hasPassed_12 : decode cX9_hasPassed 12 = .ok (.getfield 9, 3) := by decide +kernel
theorem dX9_hasPassed_15 : decode cX9_hasPassed 15 = .ok (.arraylength, 1) := by decide +kernel
theorem dX9_hasPassed_16 : decode cX9_hasPassed 16 = .ok (.if_icmp .ge 19, 3) := by decide +kernel
theorem dX9_hasPassed_19 : decode cX9_hasPassed 19 = .ok (.aload_n 0, 1) := by decide +kernel
theorem dX9_hasPassed_20 : decode cX9_hasPassed 20 = .ok (.getfield 9, 3) := by decide +kernel
theorem dX9_hasPassed_23 : decode cX9_hasPassed 23 = .ok (.aload_n 1, 1) := by decide +kernel
theorem dX9_hasPassed_24 : decode cX9_hasPassed 24 = .ok (.getfield 48, 3) := by decide +kernel
theorem dX9_hasPassed_27 : decode cX9_hasPassed 27 = .ok (.baload, 1) := by decide +kernel
theorem dX9_hasPassed_28 : decode cX9_hasPassed 28 = .ok (.ifCond .eq 7, 3) := by decide +kernel
theorem dX9_hasPassed_31 : decode cX9_hasPassed 31 = .ok (.iconst 1, 1) := by decide +kernel
theorem dX9_hasPassed_32 : decode cX9_hasPassed 32 = .ok (.goto 4, 3) := by decide +kernel
theorem dX9_hasPassed_35 : decode cX9_hasPassed 35 = .ok (.iconst 0, 1) := by decide +kernel
theorem dX9_hasPassed_36 : decode cX9_hasPassed 36 = .ok (.ireturn, 1) := by decide +kernel
def fX9_hasPassed (o : Nat) (v1 : Option Nat) (h : Hz) : Option (Int32 × Hz) := b1 v1 fun a1 => (b1 (gI 5 0 a1 h) fun x2 => (if x2 < 0 then rz 0 h else (b1 (gI 5 0 a1 h) fun x4 => (b1 (gA 9 2 o h) fun a5 => (b1 (xN 14 a5 h) fun x6 => (if x6 ≤ x4 then rz 0 h else (b1 (gA 9 2 o h) fun a8 => (b1 (gI 5 0 a1 h) fun x9 => (b1 (xI 14 a8 x9 h) fun x10 => (if x10 = 0 then rz 0 h else rz 1 h))))))))))
set_option maxHeartbeats 4000000 in
set_option maxRecDepth 100000 in
theorem wX9_hasPassed_0 {r0 : Int32} {h0 : Hz} (X : zX A D cy p s m args c cX9_hasPassed RX9 2) (hlk : meth.locks = false) (hr : meth.sig.returnType = (some .boolean)) (o : Nat) (v1 : Option Nat) (h : Hz) (H : Heap) (locs : List Loc) (ls : Array Slot) (hl : lv_has ls 2 [(0, .ref o), (1, va_rf v1)]) (hW : zW A cy D h H) (hS : va_S A s.heap H locs) (h : fX9_hasPassed o v1 h = some (r0, h0)) : W p l e ({ frames := 0, cells := 0, slots := 0, locals := 0 } : Room) s m args below meth c H locs 0 0 (MQ below (va_Qi (fun r1 u => r1 = r0 ∧ u = h0) (zB A D cy) A) args s 0 0 A) (F0 m 0 ls []) := by
  obtain ⟨hx, hb, hts, hown, hK9, hml, hN9, hA9⟩ := id X
  unfold fX9_hasPassed at h
  refine z_aload_n hx hb dX9_hasPassed_0 rfl (lv_at hl 1 rfl) ?_
  replace h := b1_some h
  obtain ⟨a1, ea1, h⟩ := h
  subst ea1
  replace h := b1_some h
  obtain ⟨x2, gx2, h⟩ := h
  refine z_getI X hW gx2 kX5 (by decide) (by decide) kf_X9_48 dX9_hasPassed_1 ?_
  refine lv_if_lt (tgt := 35) hx hb dX9_hasPassed_4 (by decide) (fun c3 => ?_) (fun c3 => ?_)
  · replace h := it_t h c3
    refine lv_iconst (v := 0) hx hb dX9_hasPassed_35 (by decide) ?_
    exact z_etz X hlk hr hW hS h (by decide) (by decide) dX9_hasPassed_36
  · replace h := it_f h c3
    refine lv_aload_n hx hb dX9_hasPassed_7 rfl (lv_at hl 1 rfl) ?_
    replace h := b1_some h
    obtain ⟨x4, gx4, h⟩ := h
    refine z_getI X hW gx4 kX5 (by decide) (by decide) kf_X9_48 dX9_hasPassed_8 ?_
    refine lv_aload_n hx hb dX9_hasPassed_11 rfl (lv_at hl 0 rfl) ?_
    replace h := b1_some h
    obtain ⟨a5, ga5, h⟩ := h
    refine z_getA X hW ga5 kX9 (by decide) (by decide) kf_X9_9 dX9_hasPassed_12 ?_
    replace h := b1_some h
    obtain ⟨x6, gx6, h⟩ := h
    refine z_alenZ X hW gx6 dX9_hasPassed_15 ?_
    refine lv_icmp_ge (tgt := 35) hx hb dX9_hasPassed_16 (by decide) (fun c7 => ?_) (fun c7 => ?_)
    · replace h := it_t h c7
      refine lv_iconst (v := 0) hx hb dX9_hasPassed_35 (by decide) ?_
      exact z_etz X hlk hr hW hS h (by decide) (by decide) dX9_hasPassed_36
    · replace h := it_f h c7
      refine lv_aload_n hx hb dX9_hasPassed_19 rfl (lv_at hl 0 rfl) ?_
      replace h := b1_some h
      obtain ⟨a8, ga8, h⟩ := h
      refine z_getA X hW ga8 kX9 (by decide) (by decide) kf_X9_9 dX9_hasPassed_20 ?_
      refine lv_aload_n hx hb dX9_hasPassed_23 rfl (lv_at hl 1 rfl) ?_
      replace h := b1_some h
      obtain ⟨x9, gx9, h⟩ := h
      refine z_getI X hW gx9 kX5 (by decide) (by decide) kf_X9_48 dX9_hasPassed_24 ?_
      replace h := b1_some h
      obtain ⟨x10, gx10, h⟩ := h
      refine z_aldZ X hW gx10 dX9_hasPassed_27 ?_
      refine lv_if_eq (tgt := 35) hx hb dX9_hasPassed_28 (by decide) (fun c11 => ?_) (fun c11 => ?_)
      · replace h := it_t h c11
        refine lv_iconst (v := 0) hx hb dX9_hasPassed_35 (by decide) ?_
        exact z_etz X hlk hr hW hS h (by decide) (by decide) dX9_hasPassed_36
      · replace h := it_f h c11
        refine lv_iconst (v := 1) hx hb dX9_hasPassed_31 (by decide) ?_
        refine lv_goto (tgt := 36) hx hb dX9_hasPassed_32 (by decide) ?_
        exact z_etz X hlk hr hW hS h (by decide) (by decide) dX9_hasPassed_36

set_option maxHeartbeats 4000000 in
set_option maxRecDepth 100000 in
theorem cX9_hasPassed_met {l : Launch} {A : Nat → Prop} {D : va_G} {cy : Nat → ClassId} {r0 : Int32} {h0 : Hz} {o : Nat} {v1 : Option Nat} {h : Hz} (g : fX9_hasPassed o v1 h = some (r0, h0)) : Met l yX9_hasPassed (Cond.code yX9_hasPassed cX9_hasPassed 2 (some .boolean) :: wT) ({ frames := 0, cells := 0, slots := 0, locals := 0 } : Room) (va_Pc [.ref o, va_rf v1] (zS A D cy h)) (va_Qi (fun r1 u => r1 = r0 ∧ u = h0) (zB A D cy) A) 0 0 A := by
  refine Met.ofW (cc := cX9_hasPassed) (maxL := 2) (ret := (some .boolean)) (by decide) rfl ?_
  intro p e s m args below meth c s₁ B hml hv
  obtain ⟨rfl, hW, hK, hN, hA⟩ := hv
  have X : zX A D cy p s m _ c cX9_hasPassed RX9 2 := ⟨B.exec, B.bytes, fun w hw => atoms_spec (ws := Cond.code yX9_hasPassed cX9_hasPassed 2 (some .boolean) :: wT) B.pre w (List.mem_cons_of_mem _ hw), findClass_of_methodNamed B.named, hK, hml, hN, hA⟩
  cases v1 with
  | none =>
    have hl := lv_entry [.ref o, va_rf none] (n := 2) (Nat.le_of_ble_eq_true rfl)
    rw [lg_entry_eq]
    generalize (lg_sl [.ref o, va_rf none] ++ List.replicate (2 - (lg_sl [.ref o, va_rf none]).length) Slot.unset).toArray = ls at hl ⊢
    have hl : lv_has ls 2 [(0, .ref o), (1, va_rf none)] := hl
    exact wX9_hasPassed_0 X B.notSynchronized B.returns o none _ _ _ _ (lv_sub hl [0, 1] rfl) hW va_S.rf g
  | some v1 =>
    have hl := lv_entry [.ref o, va_rf (some v1)] (n := 2) (Nat.le_of_ble_eq_true rfl)
    rw [lg_entry_eq]
    generalize (lg_sl [.ref o, va_rf (some v1)] ++ List.replicate (2 - (lg_sl [.ref o, va_rf (some v1)]).length) Slot.unset).toArray = ls at hl ⊢
    have hl : lv_has ls 2 [(0, .ref o), (1, va_rf (some v1))] := hl
    exact wX9_hasPassed_0 X B.notSynchronized B.returns o (some v1) _ _ _ _ (lv_sub hl [0, 1] rfl) hW va_S.rf g

theorem dX9_hasMet_0 : decode cX9_hasMet 0 = .ok (.aload_n 1, 1) := by decide +kernel
theorem dX9_hasMet_1 : decode cX9_hasMet 1 = .ok (.getfield 48, 3) := by decide +kernel
theorem dX9_hasMet_4 : decode cX9_hasMet 4 = .ok (.ifCond .lt 31, 3) := by decide +kernel
theorem dX9_hasMet_7 : decode cX9_hasMet 7 = .ok (.aload_n 1, 1) := by decide +kernel
theorem dX9_hasMet_8 : decode cX9_hasMet 8 = .ok (.getfield 48, 3) := by decide +kernel
theorem dX9_hasMet_11 : decode cX9_hasMet 11 = .ok (.aload_n 0, 1) := by decide +kernel
theorem dX9_hasMet_12 : decode cX9_hasMet 12 = .ok (.getfield 15, 3) := by decide +kernel
theorem dX9_hasMet_15 : decode cX9_hasMet 15 = .ok (.arraylength, 1) := by decide +kernel
theorem dX9_hasMet_16 : decode cX9_hasMet 16 = .ok (.if_icmp .ge 19, 3) := by decide +kernel
theorem dX9_hasMet_19 : decode cX9_hasMet 19 = .ok (.aload_n 0, 1) := by decide +kernel
theorem dX9_hasMet_20 : decode cX9_hasMet 20 = .ok (.getfield 15, 3) := by decide +kernel
theorem dX9_hasMet_23 : decode cX9_hasMet 23 = .ok (.aload_n 1, 1) := by decide +kernel
theorem dX9_hasMet_24 : decode cX9_hasMet 24 = .ok (.getfield 48, 3) := by decide +kernel
theorem dX9_hasMet_27 : decode cX9_hasMet 27 = .ok (.baload, 1) := by decide +kernel
theorem dX9_hasMet_28 : decode cX9_hasMet 28 = .ok (.ifCond .eq 7, 3) := by decide +kernel
theorem dX9_hasMet_31 : decode cX9_hasMet 31 = .ok (.iconst 1, 1) := by decide +kernel
theorem dX9_hasMet_32 : decode cX9_hasMet 32 = .ok (.goto 4, 3) := by decide +kernel
theorem dX9_hasMet_35 : decode cX9_hasMet 35 = .ok (.iconst 0, 1) := by decide +kernel
theorem dX9_hasMet_36 : decode cX9_hasMet 36 = .ok (.ireturn, 1) := by decide +kernel
def fX9_hasMet (o : Nat) (v1 : Option Nat) (h : Hz) : Option (Int32 × Hz) := b1 v1 fun a1 => (b1 (gI 5 0 a1 h) fun x2 => (if x2 < 0 then rz 0 h else (b1 (gI 5 0 a1 h) fun x4 => (b1 (gA 9 3 o h) fun a5 => (b1 (xN 14 a5 h) fun x6 => (if x6 ≤ x4 then rz 0 h else (b1 (gA 9 3 o h) fun a8 => (b1 (gI 5 0 a1 h) fun x9 => (b1 (xI 14 a8 x9 h) fun x10 => (if x10 = 0 then rz 0 h else rz 1 h))))))))))
set_option maxHeartbeats 4000000 in
set_option maxRecDepth 100000 in
theorem wX9_hasMet_0 {r0 : Int32} {h0 : Hz} (X : zX A D cy p s m args c cX9_hasMet RX9 2) (hlk : meth.locks = false) (hr : meth.sig.returnType = (some .boolean)) (o : Nat) (v1 : Option Nat) (h : Hz) (H : Heap) (locs : List Loc) (ls : Array Slot) (hl : lv_has ls 2 [(0, .ref o), (1, va_rf v1)]) (hW : zW A cy D h H) (hS : va_S A s.heap H locs) (h : fX9_hasMet o v1 h = some (r0, h0)) : W p l e ({ frames := 0, cells := 0, slots := 0, locals := 0 } : Room) s m args below meth c H locs 0 0 (MQ below (va_Qi (fun r1 u => r1 = r0 ∧ u = h0) (zB A D cy) A) args s 0 0 A) (F0 m 0 ls []) := by
  obtain ⟨hx, hb, hts, hown, hK9, hml, hN9, hA9⟩ := id X
  unfold fX9_hasMet at h
  refine z_aload_n hx hb dX9_hasMet_0 rfl (lv_at hl 1 rfl) ?_
  replace h := b1_some h
  obtain ⟨a1, ea1, h⟩ := h
  subst ea1
  replace h := b1_some h
  obtain ⟨x2, gx2, h⟩ := h
  refine z_getI X hW gx2 kX5 (by decide) (by decide) kf_X9_48 dX9_hasMet_1 ?_
  refine lv_if_lt (tgt := 35) hx hb dX9_hasMet_4 (by decide) (fun c3 => ?_) (fun c3 => ?_)
  · replace h := it_t h c3
    refine lv_iconst (v := 0) hx hb dX9_hasMet_35 (by decide) ?_
    exact z_etz X hlk hr hW hS h (by decide) (by decide) dX9_hasMet_36
  · replace h := it_f h c3
    refine lv_aload_n hx hb dX9_hasMet_7 rfl (lv_at hl 1 rfl) ?_
    replace h := b1_some h
    obtain ⟨x4, gx4, h⟩ := h
    refine z_getI X hW gx4 kX5 (by decide) (by decide) kf_X9_48 dX9_hasMet_8 ?_
    refine lv_aload_n hx hb dX9_hasMet_11 rfl (lv_at hl 0 rfl) ?_
    replace h := b1_some h
    obtain ⟨a5, ga5, h⟩ := h
    refine z_getA X hW ga5 kX9 (by decide) (by decide) kf_X9_15 dX9_hasMet_12 ?_
    replace h := b1_some h
    obtain ⟨x6, gx6, h⟩ := h
    refine z_alenZ X hW gx6 dX9_hasMet_15 ?_
    refine lv_icmp_ge (tgt := 35) hx hb dX9_hasMet_16 (by decide) (fun c7 => ?_) (fun c7 => ?_)
    · replace h := it_t h c7
      refine lv_iconst (v := 0) hx hb dX9_hasMet_35 (by decide) ?_
      exact z_etz X hlk hr hW hS h (by decide) (by decide) dX9_hasMet_36
    · replace h := it_f h c7
      refine lv_aload_n hx hb dX9_hasMet_19 rfl (lv_at hl 0 rfl) ?_
      replace h := b1_some h
      obtain ⟨a8, ga8, h⟩ := h
      refine z_getA X hW ga8 kX9 (by decide) (by decide) kf_X9_15 dX9_hasMet_20 ?_
      refine lv_aload_n hx hb dX9_hasMet_23 rfl (lv_at hl 1 rfl) ?_
      replace h := b1_some h
      obtain ⟨x9, gx9, h⟩ := h
      refine z_getI X hW gx9 kX5 (by decide) (by decide) kf_X9_48 dX9_hasMet_24 ?_
      replace h := b1_some h
      obtain ⟨x10, gx10, h⟩ := h
      refine z_aldZ X hW gx10 dX9_hasMet_27 ?_
      refine lv_if_eq (tgt := 35) hx hb dX9_hasMet_28 (by decide) (fun c11 => ?_) (fun c11 => ?_)
      · replace h := it_t h c11
        refine lv_iconst (v := 0) hx hb dX9_hasMet_35 (by decide) ?_
        exact z_etz X hlk hr hW hS h (by decide) (by decide) dX9_hasMet_36
      · replace h := it_f h c11
        refine lv_iconst (v := 1) hx hb dX9_hasMet_31 (by decide) ?_
        refine lv_goto (tgt := 36) hx hb dX9_hasMet_32 (by decide) ?_
        exact z_etz X hlk hr hW hS h (by decide) (by decide) dX9_hasMet_36

set_option maxHeartbeats 4000000 in
set_option maxRecDepth 100000 in
theorem cX9_hasMet_met {l : Launch} {A : Nat → Prop} {D : va_G} {cy : Nat → ClassId} {r0 : Int32} {h0 : Hz} {o : Nat} {v1 : Option Nat} {h : Hz} (g : fX9_hasMet o v1 h = some (r0, h0)) : Met l yX9_hasMet (Cond.code yX9_hasMet cX9_hasMet 2 (some .boolean) :: wT) ({ frames := 0, cells := 0, slots := 0, locals := 0 } : Room) (va_Pc [.ref o, va_rf v1] (zS A D cy h)) (va_Qi (fun r1 u => r1 = r0 ∧ u = h0) (zB A D cy) A) 0 0 A := by
  refine Met.ofW (cc := cX9_hasMet) (maxL := 2) (ret := (some .boolean)) (by decide) rfl ?_
  intro p e s m args below meth c s₁ B hml hv
  obtain ⟨rfl, hW, hK, hN, hA⟩ := hv
  have X : zX A D cy p s m _ c cX9_hasMet RX9 2 := ⟨B.exec, B.bytes, fun w hw => atoms_spec (ws := Cond.code yX9_hasMet cX9_hasMet 2 (some .boolean) :: wT) B.pre w (List.mem_cons_of_mem _ hw), findClass_of_methodNamed B.named, hK, hml, hN, hA⟩
  cases v1 with
  | none =>
    have hl := lv_entry [.ref o, va_rf none] (n := 2) (Nat.le_of_ble_eq_true rfl)
    rw [lg_entry_eq]
    generalize (lg_sl [.ref o, va_rf none] ++ List.replicate (2 - (lg_sl [.ref o, va_rf none]).length) Slot.unset).toArray = ls at hl ⊢
    have hl : lv_has ls 2 [(0, .ref o), (1, va_rf none)] := hl
    exact wX9_hasMet_0 X B.notSynchronized B.returns o none _ _ _ _ (lv_sub hl [0, 1] rfl) hW va_S.rf g
  | some v1 =>
    have hl := lv_entry [.ref o, va_rf (some v1)] (n := 2) (Nat.le_of_ble_eq_true rfl)
    rw [lg_entry_eq]
    generalize (lg_sl [.ref o, va_rf (some v1)] ++ List.replicate (2 - (lg_sl [.ref o, va_rf (some v1)]).length) Slot.unset).toArray = ls at hl ⊢
    have hl : lv_has ls 2 [(0, .ref o), (1, va_rf (some v1))] := hl
    exact wX9_hasMet_0 X B.notSynchronized B.returns o (some v1) _ _ _ _ (lv_sub hl [0, 1] rfl) hW va_S.rf g

theorem dX9_weightMetFor_0 : decode cX9_weightMetFor 0 = .ok (.aload_n 1, 1) := by decide +kernel
theorem dX9_weightMetFor_1 : decode cX9_weightMetFor 1 = .ok (.getfield 48, 3) := by decide +kernel
theorem dX9_weightMetFor_4 : decode cX9_weightMetFor 4 = .ok (.ifCond .lt 27, 3) := by decide +kernel
theorem dX9_weightMetFor_7 : decode cX9_weightMetFor 7 = .ok (.aload_n 1, 1) := by decide +kernel
theorem dX9_weightMetFor_8 : decode cX9_weightMetFor 8 = .ok (.getfield 48, 3) := by decide +kernel
theorem dX9_weightMetFor_11 : decode cX9_weightMetFor 11 = .ok (.aload_n 0, 1) := by decide +kernel
theorem dX9_weightMetFor_12 : decode cX9_weightMetFor 12 = .ok (.getfield 18, 3) := by decide +kernel
theorem dX9_weightMetFor_15 : decode cX9_weightMetFor 15 = .ok (.arraylength, 1) := by decide +kernel
theorem dX9_weightMetFor_16 : decode cX9_weightMetFor 16 = .ok (.if_icmp .ge 15, 3) := by decide +kernel
theorem dX9_weightMetFor_19 : decode cX9_weightMetFor 19 = .ok (.aload_n 0, 1) := by decide +kernel
theorem dX9_weightMetFor_20 : decode cX9_weightMetFor 20 = .ok (.getfield 18, 3) := by decide +kernel
theorem dX9_weightMetFor_23 : decode cX9_weightMetFor 23 = .ok (.aload_n 1, 1) := by decide +kernel
theorem dX9_weightMetFor_24 : decode cX9_weightMetFor 24 = .ok (.getfield 48, 3) := by decide +kernel
theorem dX9_weightMetFor_27 : decode cX9_weightMetFor 27 = .ok (.iaload, 1) := by decide +kernel
theorem dX9_weightMetFor_28 : decode cX9_weightMetFor 28 = .ok (.goto 4, 3) := by decide +kernel
theorem dX9_weightMetFor_31 : decode cX9_weightMetFor 31 = .ok (.iconst 0, 1) := by decide +kernel
theorem dX9_weightMetFor_32 : decode cX9_weightMetFor 32 = .ok (.ireturn, 1) := by decide +kernel
def fX9_weightMetFor (o : Nat) (v1 : Option Nat) (h : Hz) : Option (Int32 × Hz) := b1 v1 fun a1 => (b1 (gI 5 0 a1 h) fun x2 => (if x2 < 0 then some (0, h) else (b1 (gI 5 0 a1 h) fun x4 => (b1 (gA 9 4 o h) fun a5 => (b1 (xN 12 a5 h) fun x6 => (if x6 ≤ x4 then some (0, h) else (b1 (gA 9 4 o h) fun a8 => (b1 (gI 5 0 a1 h) fun x9 => (b1 (xI 12 a8 x9 h) fun x10 => some (x10, h))))))))))
set_option maxHeartbeats 4000000 in
set_option maxRecDepth 100000 in
theorem wX9_weightMetFor_0 {r0 : Int32} {h0 : Hz} (X : zX A D cy p s m args c cX9_weightMetFor RX9 2) (hlk : meth.locks = false) (hr : meth.sig.returnType = (some .int)) (o : Nat) (v1 : Option Nat) (h : Hz) (H : Heap) (locs : List Loc) (ls : Array Slot) (hl : lv_has ls 2 [(0, .ref o), (1, va_rf v1)]) (hW : zW A cy D h H) (hS : va_S A s.heap H locs) (h : fX9_weightMetFor o v1 h = some (r0, h0)) : W p l e ({ frames := 0, cells := 0, slots := 0, locals := 0 } : Room) s m args below meth c H locs 0 0 (MQ below (va_Qi (fun r1 u => r1 = r0 ∧ u = h0) (zB A D cy) A) args s 0 0 A) (F0 m 0 ls []) := by
  obtain ⟨hx, hb, hts, hown, hK9, hml, hN9, hA9⟩ := id X
  unfold fX9_weightMetFor at h
  refine z_aload_n hx hb dX9_weightMetFor_0 rfl (lv_at hl 1 rfl) ?_
  replace h := b1_some h
  obtain ⟨a1, ea1, h⟩ := h
  subst ea1
  replace h := b1_some h
  obtain ⟨x2, gx2, h⟩ := h
  refine z_getI X hW gx2 kX5 (by decide) (by decide) kf_X9_48 dX9_weightMetFor_1 ?_
  refine lv_if_lt (tgt := 31) hx hb dX9_weightMetFor_4 (by decide) (fun c3 => ?_) (fun c3 => ?_)
  · replace h := it_t h c3
    refine lv_iconst (v := 0) hx hb dX9_weightMetFor_31 (by decide) ?_
    exact z_eti X hlk hr hW hS h (by decide) (by decide) dX9_weightMetFor_32
  · replace h := it_f h c3
    refine lv_aload_n hx hb dX9_weightMetFor_7 rfl (lv_at hl 1 rfl) ?_
    replace h := b1_some h
    obtain ⟨x4, gx4, h⟩ := h
    refine z_getI X hW gx4 kX5 (by decide) (by decide) kf_X9_48 dX9_weightMetFor_8 ?_
    refine lv_aload_n hx hb dX9_weightMetFor_11 rfl (lv_at hl 0 rfl) ?_
    replace h := b1_some h
    obtain ⟨a5, ga5, h⟩ := h
    refine z_getA X hW ga5 kX9 (by decide) (by decide) kf_X9_18 dX9_weightMetFor_12 ?_
    replace h := b1_some h
    obtain ⟨x6, gx6, h⟩ := h
    refine z_alenI X hW gx6 dX9_weightMetFor_15 ?_
    refine lv_icmp_ge (tgt := 31) hx hb dX9_weightMetFor_16 (by decide) (fun c7 => ?_) (fun c7 => ?_)
    · replace h := it_t h c7
      refine lv_iconst (v := 0) hx hb dX9_weightMetFor_31 (by decide) ?_
      exact z_eti X hlk hr hW hS h (by decide) (by decide) dX9_weightMetFor_32
    · replace h := it_f h c7
      refine lv_aload_n hx hb dX9_weightMetFor_19 rfl (lv_at hl 0 rfl) ?_
      replace h := b1_some h
      obtain ⟨a8, ga8, h⟩ := h
      refine z_getA X hW ga8 kX9 (by decide) (by decide) kf_X9_18 dX9_weightMetFor_20 ?_
      refine lv_aload_n hx hb dX9_weightMetFor_23 rfl (lv_at hl 1 rfl) ?_
      replace h := b1_some h
      obtain ⟨x9, gx9, h⟩ := h
      refine z_getI X hW gx9 kX5 (by decide) (by decide) kf_X9_48 dX9_weightMetFor_24 ?_
      replace h := b1_some h
      obtain ⟨x10, gx10, h⟩ := h
      refine z_aldI X hW gx10 dX9_weightMetFor_27 ?_
      refine lv_goto (tgt := 32) hx hb dX9_weightMetFor_28 (by decide) ?_
      exact z_eti X hlk hr hW hS h (by decide) (by decide) dX9_weightMetFor_32

set_option maxHeartbeats 4000000 in
set_option maxRecDepth 100000 in
theorem cX9_weightMetFor_met {l : Launch} {A : Nat → Prop} {D : va_G} {cy : Nat → ClassId} {r0 : Int32} {h0 : Hz} {o : Nat} {v1 : Option Nat} {h : Hz} (g : fX9_weightMetFor o v1 h = some (r0, h0)) : Met l yX9_weightMetFor (Cond.code yX9_weightMetFor cX9_weightMetFor 2 (some .int) :: wT) ({ frames := 0, cells := 0, slots := 0, locals := 0 } : Room) (va_Pc [.ref o, va_rf v1] (zS A D cy h)) (va_Qi (fun r1 u => r1 = r0 ∧ u = h0) (zB A D cy) A) 0 0 A := by
  refine Met.ofW (cc := cX9_weightMetFor) (maxL := 2) (ret := (some .int)) (by decide) rfl ?_
  intro p e s m args below meth c s₁ B hml hv
  obtain ⟨rfl, hW, hK, hN, hA⟩ := hv
  have X : zX A D cy p s m _ c cX9_weightMetFor RX9 2 := ⟨B.exec, B.bytes, fun w hw => atoms_spec (ws := Cond.code yX9_weightMetFor cX9_weightMetFor 2 (some .int) :: wT) B.pre w (List.mem_cons_of_mem _ hw), findClass_of_methodNamed B.named, hK, hml, hN, hA⟩
  cases v1 with
  | none =>
    have hl := lv_entry [.ref o, va_rf none] (n := 2) (Nat.le_of_ble_eq_true rfl)
    rw [lg_entry_eq]
    generalize (lg_sl [.ref o, va_rf none] ++ List.replicate (2 - (lg_sl [.ref o, va_rf none]).length) Slot.unset).toArray = ls at hl ⊢
    have hl : lv_has ls 2 [(0, .ref o), (1, va_rf none)] := hl
    exact wX9_weightMetFor_0 X B.notSynchronized B.returns o none _ _ _ _ (lv_sub hl [0, 1] rfl) hW va_S.rf g
  | some v1 =>
    have hl := lv_entry [.ref o, va_rf (some v1)] (n := 2) (Nat.le_of_ble_eq_true rfl)
    rw [lg_entry_eq]
    generalize (lg_sl [.ref o, va_rf (some v1)] ++ List.replicate (2 - (lg_sl [.ref o, va_rf (some v1)]).length) Slot.unset).toArray = ls at hl ⊢
    have hl : lv_has ls 2 [(0, .ref o), (1, va_rf (some v1))] := hl
    exact wX9_weightMetFor_0 X B.notSynchronized B.returns o (some v1) _ _ _ _ (lv_sub hl [0, 1] rfl) hW va_S.rf g

theorem dX9_pass_0 : decode cX9_pass 0 = .ok (.aload_n 1, 1) := by decide +kernel
theorem dX9_pass_1 : decode cX9_pass 1 = .ok (.getfield 48, 3) := by decide +kernel
theorem dX9_pass_4 : decode cX9_pass 4 = .ok (.ifCond .lt 15, 3) := by decide +kernel
theorem dX9_pass_7 : decode cX9_pass 7 = .ok (.aload_n 1, 1) := by decide +kernel
theorem dX9_pass_8 : decode cX9_pass 8 = .ok (.getfield 48, 3) := by decide +kernel
theorem dX9_pass_11 : decode cX9_pass 11 = .ok (.aload_n 0, 1) := by decide +kernel
theorem dX9_pass_12 : decode cX9_pass 12 = .ok (.getfield 9, 3) := by decide +kernel
theorem dX9_pass_15 : decode cX9_pass 15 = .ok (.arraylength, 1) := by decide +kernel
theorem dX9_pass_16 : decode cX9_pass 16 = .ok (.if_icmp .lt 4, 3) := by decide +kernel
theorem dX9_pass_19 : decode cX9_pass 19 = .ok (.return_, 1) := by decide +kernel
theorem dX9_pass_20 : decode cX9_pass 20 = .ok (.aload_n 1, 1) := by decide +kernel
theorem dX9_pass_21 : decode cX9_pass 21 = .ok (.getfield 51, 3) := by decide +kernel
theorem dX9_pass_24 : decode cX9_pass 24 = .ok (.ifCond .lt 15, 3) := by decide +kernel
theorem dX9_pass_27 : decode cX9_pass 27 = .ok (.aload_n 1, 1) := by decide +kernel
theorem dX9_pass_28 : decode cX9_pass 28 = .ok (.getfield 51, 3) := by decide +kernel
theorem dX9_pass_31 : decode cX9_pass 31 = .ok (.aload_n 0, 1) := by decide +kernel
theorem dX9_pass_32 : decode cX9_pass 32 = .ok (.getfield 22, 3) := by decide +kernel
theorem dX9_pass_35 : decode cX9_pass 35 = .ok (.arraylength, 1) := by decide +kernel
theorem dX9_pass_36 : decode cX9_pass 36 = .ok (.if_icmp .lt 4, 3) := by decide +kernel
theorem dX9_pass_39 : decode cX9_pass 39 = .ok (.return_, 1) := by decide +kernel
theorem dX9_pass_40 : decode cX9_pass 40 = .ok (.aload_n 0, 1) := by decide +kernel
theorem dX9_pass_41 : decode cX9_pass 41 = .ok (.getfield 9, 3) := by decide +kernel
theorem dX9_pass_44 : decode cX9_pass 44 = .ok (.aload_n 1, 1) := by decide +kernel
theorem dX9_pass_45 : decode cX9_pass 45 = .ok (.getfield 48, 3) := by decide +kernel
theorem dX9_pass_48 : decode cX9_pass 48 = .ok (.iconst 1, 1) := by decide +kernel
theorem dX9_pass_49 : decode cX9_pass 49 = .ok (.bastore, 1) := by decide +kernel
theorem dX9_pass_50 : decode cX9_pass 50 = .ok (.aload_n 0, 1) := by decide +kernel
theorem dX9_pass_51 : decode cX9_pass 51 = .ok (.dup, 1) := by decide +kernel
theorem dX9_pass_52 : decode cX9_pass 52 = .ok (.getfield 35, 3) := by decide +kernel
theorem dX9_pass_55 : decode cX9_pass 55 = .ok (.iconst 1, 1) := by decide +kernel
theorem dX9_pass_56 : decode cX9_pass 56 = .ok (.iadd, 1) := by decide +kernel
theorem dX9_pass_57 : decode cX9_pass 57 = .ok (.putfield 35, 3) := by decide +kernel
theorem dX9_pass_60 : decode cX9_pass 60 = .ok (.aload_n 0, 1) := by decide +kernel
theorem dX9_pass_61 : decode cX9_pass 61 = .ok (.getfield 22, 3) := by decide +kernel
theorem dX9_pass_64 : decode cX9_pass 64 = .ok (.aload_n 1, 1) := by decide +kernel
theorem dX9_pass_65 : decode cX9_pass 65 = .ok (.getfield 51, 3) := by decide +kernel
theorem dX9_pass_68 : decode cX9_pass 68 = .ok (.iaload, 1) := by decide +kernel
theorem dX9_pass_69 : decode cX9_pass 69 = .ok (.iconst (-1), 1) := by decide +kernel
theorem dX9_pass_70 : decode cX9_pass 70 = .ok (.if_icmp .ne 13, 3) := by decide +kernel
theorem dX9_pass_73 : decode cX9_pass 73 = .ok (.aload_n 0, 1) := by decide +kernel
theorem dX9_pass_74 : decode cX9_pass 74 = .ok (.getfield 22, 3) := by decide +kernel
theorem dX9_pass_77 : decode cX9_pass 77 = .ok (.aload_n 1, 1) := by decide +kernel
theorem dX9_pass_78 : decode cX9_pass 78 = .ok (.getfield 51, 3) := by decide +kernel
theorem dX9_pass_81 : decode cX9_pass 81 = .ok (.iload_n 2, 1) := by decide +kernel
theorem dX9_pass_82 : decode cX9_pass 82 = .ok (.iastore, 1) := by decide +kernel
theorem dX9_pass_83 : decode cX9_pass 83 = .ok (.return_, 1) := by decide +kernel
def fX9_pass (o : Nat) (v1 : Option Nat) (v2 : Int32) (h : Hz) : Option (Unit × Hz) := b1 v1 fun a1 => (b1 (gI 5 0 a1 h) fun x2 => (if x2 < 0 then some ((), h) else (b1 (gI 5 0 a1 h) fun x4 => (b1 (gA 9 2 o h) fun a5 => (b1 (xN 14 a5 h) fun x6 => (if x4 < x6 then (b1 (gI 5 2 a1 h) fun x8 => (if x8 < 0 then some ((), h) else (b1 (gI 5 2 a1 h) fun x10 => (b1 (gA 9 5 o h) fun a11 => (b1 (xN 12 a11 h) fun x12 => (if x10 < x12 then (b1 (gA 9 2 o h) fun a14 => (b1 (gI 5 0 a1 h) fun x15 => (b1 (yZ a14 x15 1 h) fun s16 => (b1 (gI 9 9 o s16) fun x17 => (b1 (pI 9 9 o (x17 + 1) s16) fun s18 => (b1 (gA 9 5 o s18) fun a19 => (b1 (gI 5 2 a1 s18) fun x20 => (b1 (xI 12 a19 x20 s18) fun x21 => (if x21 = (-1) then (b1 (gA 9 5 o s18) fun a23 => (b1 (gI 5 2 a1 s18) fun x24 => (b1 (yI a23 x24 v2 s18) fun s25 => some ((), s25)))) else some ((), s18)))))))))) else some ((), h))))))) else some ((), h)))))))
set_option maxHeartbeats 4000000 in
set_option maxRecDepth 100000 in
theorem wX9_pass_0 {r0 : Unit} {h0 : Hz} (X : zX A D cy p s m args c cX9_pass RX9 3) (hlk : meth.locks = false) (hr : meth.sig.returnType = none) (o : Nat) (v1 : Option Nat) (v2 : Int32) (h : Hz) (H : Heap) (locs : List Loc) (ls : Array Slot) (hl : lv_has ls 3 [(0, .ref o), (1, va_rf v1), (2, .int v2)]) (hW : zW A cy D h H) (hS : va_S A s.heap H locs) (h : fX9_pass o v1 v2 h = some (r0, h0)) : W p l e ({ frames := 0, cells := 0, slots := 0, locals := 0 } : Room) s m args below meth c H locs 0 0 (MQ below (va_Qv (fun u => u = h0) (zB A D cy) A) args s 0 0 A) (F0 m 0 ls []) := by
  obtain ⟨hx, hb, hts, hown, hK9, hml, hN9, hA9⟩ := id X
  unfold fX9_pass at h
  refine z_aload_n hx hb dX9_pass_0 rfl (lv_at hl 1 rfl) ?_
  replace h := b1_some h
  obtain ⟨a1, ea1, h⟩ := h
  subst ea1
  replace h := b1_some h
  obtain ⟨x2, gx2, h⟩ := h
  refine z_getI X hW gx2 kX5 (by decide) (by decide) kf_X9_48 dX9_pass_1 ?_
  refine lv_if_lt (tgt := 19) hx hb dX9_pass_4 (by decide) (fun c3 => ?_) (fun c3 => ?_)
  · replace h := it_t h c3
    exact z_etv X hlk hr hW hS h (by decide) (by decide) dX9_pass_19
  · replace h := it_f h c3
    refine lv_aload_n hx hb dX9_pass_7 rfl (lv_at hl 1 rfl) ?_
    replace h := b1_some h
    obtain ⟨x4, gx4, h⟩ := h
    refine z_getI X hW gx4 kX5 (by decide) (by decide) kf_X9_48 dX9_pass_8 ?_
    refine lv_aload_n hx hb dX9_pass_11 rfl (lv_at hl 0 rfl) ?_
    replace h := b1_some h
    obtain ⟨a5, ga5, h⟩ := h
    refine z_getA X hW ga5 kX9 (by decide) (by decide) kf_X9_9 dX9_pass_12 ?_
    replace h := b1_some h
    obtain ⟨x6, gx6, h⟩ := h
    refine z_alenZ X hW gx6 dX9_pass_15 ?_
    refine lv_icmp_lt (tgt := 20) hx hb dX9_pass_16 (by decide) (fun c7 => ?_) (fun c7 => ?_)
    · replace h := it_t h c7
      refine lv_aload_n hx hb dX9_pass_20 rfl (lv_at hl 1 rfl) ?_
      replace h := b1_some h
      obtain ⟨x8, gx8, h⟩ := h
      refine z_getI X hW gx8 kX5 (by decide) (by decide) kf_X9_51 dX9_pass_21 ?_
      refine lv_if_lt (tgt := 39) hx hb dX9_pass_24 (by decide) (fun c9 => ?_) (fun c9 => ?_)
      · replace h := it_t h c9
        exact z_etv X hlk hr hW hS h (by decide) (by decide) dX9_pass_39
      · replace h := it_f h c9
        refine lv_aload_n hx hb dX9_pass_27 rfl (lv_at hl 1 rfl) ?_
        replace h := b1_some h
        obtain ⟨x10, gx10, h⟩ := h
        refine z_getI X hW gx10 kX5 (by decide) (by decide) kf_X9_51 dX9_pass_28 ?_
        refine lv_aload_n hx hb dX9_pass_31 rfl (lv_at hl 0 rfl) ?_
        replace h := b1_some h
        obtain ⟨a11, ga11, h⟩ := h
        refine z_getA X hW ga11 kX9 (by decide) (by decide) kf_X9_22 dX9_pass_32 ?_
        replace h := b1_some h
        obtain ⟨x12, gx12, h⟩ := h
        refine z_alenI X hW gx12 dX9_pass_35 ?_
        refine lv_icmp_lt (tgt := 40) hx hb dX9_pass_36 (by decide) (fun c13 => ?_) (fun c13 => ?_)
        · replace h := it_t h c13
          refine lv_aload_n hx hb dX9_pass_40 rfl (lv_at hl 0 rfl) ?_
          replace h := b1_some h
          obtain ⟨a14, ga14, h⟩ := h
          refine z_getA X hW ga14 kX9 (by decide) (by decide) kf_X9_9 dX9_pass_41 ?_
          refine lv_aload_n hx hb dX9_pass_44 rfl (lv_at hl 1 rfl) ?_
          replace h := b1_some h
          obtain ⟨x15, gx15, h⟩ := h
          refine z_getI X hW gx15 kX5 (by decide) (by decide) kf_X9_48 dX9_pass_45 ?_
          refine lv_iconst (v := 1) hx hb dX9_pass_48 (by decide) ?_
          replace h := b1_some h
          obtain ⟨s16, gs16, h⟩ := h
          refine z_astZ X hW hS gs16 dX9_pass_49 (fun H locs hW hS => ?_)
          refine lv_aload_n hx hb dX9_pass_50 rfl (lv_at hl 0 rfl) ?_
          refine lv_dup hx hb dX9_pass_51 rfl ?_
          replace h := b1_some h
          obtain ⟨x17, gx17, h⟩ := h
          refine z_getI X hW gx17 kX9 (by decide) (by decide) kf_X9_35 dX9_pass_52 ?_
          refine lv_iconst (v := 1) hx hb dX9_pass_55 (by decide) ?_
          refine lv_iadd hx hb dX9_pass_56 ?_
          replace h := b1_some h
          obtain ⟨s18, gs18, h⟩ := h
          refine z_putI X hW hS gs18 kX9 (by decide) (by decide) rfl (Or.inl rfl) kf_X9_35 dX9_pass_57 (fun H locs hW hS => ?_)
          refine lv_aload_n hx hb dX9_pass_60 rfl (lv_at hl 0 rfl) ?_
          replace h := b1_some h
          obtain ⟨a19, ga19, h⟩ := h
          refine z_getA X hW ga19 kX9 (by decide) (by decide) kf_X9_22 dX9_pass_61 ?_
          refine lv_aload_n hx hb dX9_pass_64 rfl (lv_at hl 1 rfl) ?_
          replace h := b1_some h
          obtain ⟨x20, gx20, h⟩ := h
          refine z_getI X hW gx20 kX5 (by decide) (by decide) kf_X9_51 dX9_pass_65 ?_
          replace h := b1_some h
          obtain ⟨x21, gx21, h⟩ := h
          refine z_aldI X hW gx21 dX9_pass_68 ?_
          refine lv_iconst (v := (-1)) hx hb dX9_pass_69 (by decide) ?_
          refine lv_icmp_ne (tgt := 83) hx hb dX9_pass_70 (by decide) (fun c22 => ?_) (fun c22 => ?_)
          · replace h := it_f h c22
            exact z_etv X hlk hr hW hS h (by decide) (by decide) dX9_pass_83
          · replace h := it_t h c22
            refine lv_aload_n hx hb dX9_pass_73 rfl (lv_at hl 0 rfl) ?_
            replace h := b1_some h
            obtain ⟨a23, ga23, h⟩ := h
            refine z_getA X hW ga23 kX9 (by decide) (by decide) kf_X9_22 dX9_pass_74 ?_
            refine lv_aload_n hx hb dX9_pass_77 rfl (lv_at hl 1 rfl) ?_
            replace h := b1_some h
            obtain ⟨x24, gx24, h⟩ := h
            refine z_getI X hW gx24 kX5 (by decide) (by decide) kf_X9_51 dX9_pass_78 ?_
            refine lv_iload_n hx hb dX9_pass_81 rfl (lv_at hl 2 rfl) ?_
            replace h := b1_some h
            obtain ⟨s25, gs25, h⟩ := h
            refine z_astI X hW hS gs25 dX9_pass_82 (fun H locs hW hS => ?_)
            exact z_etv X hlk hr hW hS h (by decide) (by decide) dX9_pass_83
        · replace h := it_f h c13
          exact z_etv X hlk hr hW hS h (by decide) (by decide) dX9_pass_39
    · replace h := it_f h c7
      exact z_etv X hlk hr hW hS h (by decide) (by decide) dX9_pass_19

set_option maxHeartbeats 4000000 in
set_option maxRecDepth 100000 in
theorem cX9_pass_met {l : Launch} {A : Nat → Prop} {D : va_G} {cy : Nat → ClassId} {r0 : Unit} {h0 : Hz} {o : Nat} {v1 : Option Nat} {v2 : Int32} {h : Hz} (g : fX9_pass o v1 v2 h = some (r0, h0)) : Met l yX9_pass (Cond.code yX9_pass cX9_pass 3 none :: wT) ({ frames := 0, cells := 0, slots := 0, locals := 0 } : Room) (va_Pc [.ref o, va_rf v1, .int v2] (zS A D cy h)) (va_Qv (fun u => u = h0) (zB A D cy) A) 0 0 A := by
  refine Met.ofW (cc := cX9_pass) (maxL := 3) (ret := none) (by decide) rfl ?_
  intro p e s m args below meth c s₁ B hml hv
  obtain ⟨rfl, hW, hK, hN, hA⟩ := hv
  have X : zX A D cy p s m _ c cX9_pass RX9 3 := ⟨B.exec, B.bytes, fun w hw => atoms_spec (ws := Cond.code yX9_pass cX9_pass 3 none :: wT) B.pre w (List.mem_cons_of_mem _ hw), findClass_of_methodNamed B.named, hK, hml, hN, hA⟩
  cases v1 with
  | none =>
    have hl := lv_entry [.ref o, va_rf none, .int v2] (n := 3) (Nat.le_of_ble_eq_true rfl)
    rw [lg_entry_eq]
    generalize (lg_sl [.ref o, va_rf none, .int v2] ++ List.replicate (3 - (lg_sl [.ref o, va_rf none, .int v2]).length) Slot.unset).toArray = ls at hl ⊢
    have hl : lv_has ls 3 [(0, .ref o), (1, va_rf none), (2, .int v2)] := hl
    exact wX9_pass_0 X B.notSynchronized B.returns o none v2 _ _ _ _ (lv_sub hl [0, 1, 2] rfl) hW va_S.rf g
  | some v1 =>
    have hl := lv_entry [.ref o, va_rf (some v1), .int v2] (n := 3) (Nat.le_of_ble_eq_true rfl)
    rw [lg_entry_eq]
    generalize (lg_sl [.ref o, va_rf (some v1), .int v2] ++ List.replicate (3 - (lg_sl [.ref o, va_rf (some v1), .int v2]).length) Slot.unset).toArray = ls at hl ⊢
    have hl : lv_has ls 3 [(0, .ref o), (1, va_rf (some v1)), (2, .int v2)] := hl
    exact wX9_pass_0 X B.notSynchronized B.returns o (some v1) v2 _ _ _ _ (lv_sub hl [0, 1, 2] rfl) hW va_S.rf g

theorem dX9_meet_0 : decode cX9_meet 0 = .ok (.aload_n 1, 1) := by decide +kernel
theorem dX9_meet_1 : decode cX9_meet 1 = .ok (.getfield 48, 3) := by decide +kernel
theorem dX9_meet_4 : decode cX9_meet 4 = .ok (.ifCond .lt 15, 3) := by decide +kernel
theorem dX9_meet_7 : decode cX9_meet 7 = .ok (.aload_n 1, 1) := by decide +kernel
theorem dX9_meet_8 : decode cX9_meet 8 = .ok (.getfield 48, 3) := by decide +kernel
theorem dX9_meet_11 : decode cX9_meet 11 = .ok (.aload_n 0, 1) := by decide +kernel
theorem dX9_meet_12 : decode cX9_meet 12 = .ok (.getfield 15, 3) := by decide +kernel
theorem dX9_meet_15 : decode cX9_meet 15 = .ok (.arraylength, 1) := by decide +kernel
theorem dX9_meet_16 : decode cX9_meet 16 = .ok (.if_icmp .lt 4, 3) := by decide +kernel
theorem dX9_meet_19 : decode cX9_meet 19 = .ok (.return_, 1) := by decide +kernel
theorem dX9_meet_20 : decode cX9_meet 20 = .ok (.aload_n 2, 1) := by decide +kernel
theorem dX9_meet_21 : decode cX9_meet 21 = .ok (.getfield 48, 3) := by decide +kernel
theorem dX9_meet_24 : decode cX9_meet 24 = .ok (.ifCond .lt 15, 3) := by decide +kernel
theorem dX9_meet_27 : decode cX9_meet 27 = .ok (.aload_n 2, 1) := by decide +kernel
theorem dX9_meet_28 : decode cX9_meet 28 = .ok (.getfield 48, 3) := by decide +kernel
theorem dX9_meet_31 : decode cX9_meet 31 = .ok (.aload_n 0, 1) := by decide +kernel
theorem dX9_meet_32 : decode cX9_meet 32 = .ok (.getfield 18, 3) := by decide +kernel
theorem dX9_meet_35 : decode cX9_meet 35 = .ok (.arraylength, 1) := by decide +kernel
theorem dX9_meet_36 : decode cX9_meet 36 = .ok (.if_icmp .lt 4, 3) := by decide +kernel
theorem dX9_meet_39 : decode cX9_meet 39 = .ok (.return_, 1) := by decide +kernel
theorem dX9_meet_40 : decode cX9_meet 40 = .ok (.aload_n 0, 1) := by decide +kernel
theorem dX9_meet_41 : decode cX9_meet 41 = .ok (.getfield 15, 3) := by decide +kernel
theorem dX9_meet_44 : decode cX9_meet 44 = .ok (.aload_n 1, 1) := by decide +kernel
theorem dX9_meet_45 : decode cX9_meet 45 = .ok (.getfield 48, 3) := by decide +kernel
theorem dX9_meet_48 : decode cX9_meet 48 = .ok (.iconst 1, 1) := by decide +kernel
theorem dX9_meet_49 : decode cX9_meet 49 = .ok (.bastore, 1) := by decide +kernel
theorem dX9_meet_50 : decode cX9_meet 50 = .ok (.aload_n 0, 1) := by decide +kernel
theorem dX9_meet_51 : decode cX9_meet 51 = .ok (.dup, 1) := by decide +kernel
theorem dX9_meet_52 : decode cX9_meet 52 = .ok (.getfield 38, 3) := by decide +kernel
theorem dX9_meet_55 : decode cX9_meet 55 = .ok (.iconst 1, 1) := by decide +kernel
theorem dX9_meet_56 : decode cX9_meet 56 = .ok (.iadd, 1) := by decide +kernel
theorem dX9_meet_57 : decode cX9_meet 57 = .ok (.putfield 38, 3) := by decide +kernel
theorem dX9_meet_60 : decode cX9_meet 60 = .ok (.aload_n 0, 1) := by decide +kernel
theorem dX9_meet_61 : decode cX9_meet 61 = .ok (.getfield 18, 3) := by decide +kernel
theorem dX9_meet_64 : decode cX9_meet 64 = .ok (.aload_n 2, 1) := by decide +kernel
theorem dX9_meet_65 : decode cX9_meet 65 = .ok (.getfield 48, 3) := by decide +kernel
theorem dX9_meet_68 : decode cX9_meet 68 = .ok (.dup2, 1) := by decide +kernel
theorem dX9_meet_69 : decode cX9_meet 69 = .ok (.iaload, 1) := by decide +kernel
theorem dX9_meet_70 : decode cX9_meet 70 = .ok (.aload_n 1, 1) := by decide +kernel
theorem dX9_meet_71 : decode cX9_meet 71 = .ok (.getfield 54, 3) := by decide +kernel
theorem dX9_meet_74 : decode cX9_meet 74 = .ok (.iadd, 1) := by decide +kernel
theorem dX9_meet_75 : decode cX9_meet 75 = .ok (.iastore, 1) := by decide +kernel
theorem dX9_meet_76 : decode cX9_meet 76 = .ok (.return_, 1) := by decide +kernel
def fX9_meet (o : Nat) (v1 : Option Nat) (v2 : Option Nat) (h : Hz) : Option (Unit × Hz) := b1 v1 fun a1 => (b1 (gI 5 0 a1 h) fun x2 => (if x2 < 0 then some ((), h) else (b1 (gI 5 0 a1 h) fun x4 => (b1 (gA 9 3 o h) fun a5 => (b1 (xN 14 a5 h) fun x6 => (if x4 < x6 then b1 v2 fun a8 => (b1 (gI 5 0 a8 h) fun x9 => (if x9 < 0 then some ((), h) else (b1 (gI 5 0 a8 h) fun x11 => (b1 (gA 9 4 o h) fun a12 => (b1 (xN 12 a12 h) fun x13 => (if x11 < x13 then (b1 (gA 9 3 o h) fun a15 => (b1 (gI 5 0 a1 h) fun x16 => (b1 (yZ a15 x16 1 h) fun s17 => (b1 (gI 9 10 o s17) fun x18 => (b1 (pI 9 10 o (x18 + 1) s17) fun s19 => (b1 (gA 9 4 o s19) fun a20 => (b1 (gI 5 0 a8 s19) fun x21 => (b1 (xI 12 a20 x21 s19) fun x22 => (b1 (gI 5 7 a1 s19) fun x23 => (b1 (yI a20 x21 (x22 + x23) s19) fun s24 => some ((), s24))))))))))) else some ((), h))))))) else some ((), h)))))))
set_option maxHeartbeats 4000000 in
set_option maxRecDepth 100000 in
theorem wX9_meet_0 {r0 : Unit} {h0 : Hz} (X : zX A D cy p s m args c cX9_meet RX9 3) (hlk : meth.locks = false) (hr : meth.sig.returnType = none) (o : Nat) (v1 : Option Nat) (v2 : Option Nat) (h : Hz) (H : Heap) (locs : List Loc) (ls : Array Slot) (hl : lv_has ls 3 [(0, .ref o), (1, va_rf v1), (2, va_rf v2)]) (hW : zW A cy D h H) (hS : va_S A s.heap H locs) (h : fX9_meet o v1 v2 h = some (r0, h0)) : W p l e ({ frames := 0, cells := 0, slots := 0, locals := 0 } : Room) s m args below meth c H locs 0 0 (MQ below (va_Qv (fun u => u = h0) (zB A D cy) A) args s 0 0 A) (F0 m 0 ls []) := by
  obtain ⟨hx, hb, hts, hown, hK9, hml, hN9, hA9⟩ := id X
  unfold fX9_meet at h
  refine z_aload_n hx hb dX9_meet_0 rfl (lv_at hl 1 rfl) ?_
  replace h := b1_some h
  obtain ⟨a1, ea1, h⟩ := h
  subst ea1
  replace h := b1_some h
  obtain ⟨x2, gx2, h⟩ := h
  refine z_getI X hW gx2 kX5 (by decide) (by decide) kf_X9_48 dX9_meet_1 ?_
  refine lv_if_lt (tgt := 19) hx hb dX9_meet_4 (by decide) (fun c3 => ?_) (fun c3 => ?_)
  · replace h := it_t h c3
    exact z_etv X hlk hr hW hS h (by decide) (by decide) dX9_meet_19
  · replace h := it_f h c3
    refine lv_aload_n hx hb dX9_meet_7 rfl (lv_at hl 1 rfl) ?_
    replace h := b1_some h
    obtain ⟨x4, gx4, h⟩ := h
    refine z_getI X hW gx4 kX5 (by decide) (by decide) kf_X9_48 dX9_meet_8 ?_
    refine lv_aload_n hx hb dX9_meet_11 rfl (lv_at hl 0 rfl) ?_
    replace h := b1_some h
    obtain ⟨a5, ga5, h⟩ := h
    refine z_getA X hW ga5 kX9 (by decide) (by decide) kf_X9_15 dX9_meet_12 ?_
    replace h := b1_some h
    obtain ⟨x6, gx6, h⟩ := h
    refine z_alenZ X hW gx6 dX9_meet_15 ?_
    refine lv_icmp_lt (tgt := 20) hx hb dX9_meet_16 (by decide) (fun c7 => ?_) (fun c7 => ?_)
    · replace h := it_t h c7
      refine z_aload_n hx hb dX9_meet_20 rfl (lv_at hl 2 rfl) ?_
      replace h := b1_some h
      obtain ⟨a8, ea8, h⟩ := h
      subst ea8
      replace h := b1_some h
      obtain ⟨x9, gx9, h⟩ := h
      refine z_getI X hW gx9 kX5 (by decide) (by decide) kf_X9_48 dX9_meet_21 ?_
      refine lv_if_lt (tgt := 39) hx hb dX9_meet_24 (by decide) (fun c10 => ?_) (fun c10 => ?_)
      · replace h := it_t h c10
        exact z_etv X hlk hr hW hS h (by decide) (by decide) dX9_meet_39
      · replace h := it_f h c10
        refine lv_aload_n hx hb dX9_meet_27 rfl (lv_at hl 2 rfl) ?_
        replace h := b1_some h
        obtain ⟨x11, gx11, h⟩ := h
        refine z_getI X hW gx11 kX5 (by decide) (by decide) kf_X9_48 dX9_meet_28 ?_
        refine lv_aload_n hx hb dX9_meet_31 rfl (lv_at hl 0 rfl) ?_
        replace h := b1_some h
        obtain ⟨a12, ga12, h⟩ := h
        refine z_getA X hW ga12 kX9 (by decide) (by decide) kf_X9_18 dX9_meet_32 ?_
        replace h := b1_some h
        obtain ⟨x13, gx13, h⟩ := h
        refine z_alenI X hW gx13 dX9_meet_35 ?_
        refine lv_icmp_lt (tgt := 40) hx hb dX9_meet_36 (by decide) (fun c14 => ?_) (fun c14 => ?_)
        · replace h := it_t h c14
          refine lv_aload_n hx hb dX9_meet_40 rfl (lv_at hl 0 rfl) ?_
          replace h := b1_some h
          obtain ⟨a15, ga15, h⟩ := h
          refine z_getA X hW ga15 kX9 (by decide) (by decide) kf_X9_15 dX9_meet_41 ?_
          refine lv_aload_n hx hb dX9_meet_44 rfl (lv_at hl 1 rfl) ?_
          replace h := b1_some h
          obtain ⟨x16, gx16, h⟩ := h
          refine z_getI X hW gx16 kX5 (by decide) (by decide) kf_X9_48 dX9_meet_45 ?_
          refine lv_iconst (v := 1) hx hb dX9_meet_48 (by decide) ?_
          replace h := b1_some h
          obtain ⟨s17, gs17, h⟩ := h
          refine z_astZ X hW hS gs17 dX9_meet_49 (fun H locs hW hS => ?_)
          refine lv_aload_n hx hb dX9_meet_50 rfl (lv_at hl 0 rfl) ?_
          refine lv_dup hx hb dX9_meet_51 rfl ?_
          replace h := b1_some h
          obtain ⟨x18, gx18, h⟩ := h
          refine z_getI X hW gx18 kX9 (by decide) (by decide) kf_X9_38 dX9_meet_52 ?_
          refine lv_iconst (v := 1) hx hb dX9_meet_55 (by decide) ?_
          refine lv_iadd hx hb dX9_meet_56 ?_
          replace h := b1_some h
          obtain ⟨s19, gs19, h⟩ := h
          refine z_putI X hW hS gs19 kX9 (by decide) (by decide) rfl (Or.inl rfl) kf_X9_38 dX9_meet_57 (fun H locs hW hS => ?_)
          refine lv_aload_n hx hb dX9_meet_60 rfl (lv_at hl 0 rfl) ?_
          replace h := b1_some h
          obtain ⟨a20, ga20, h⟩ := h
          refine z_getA X hW ga20 kX9 (by decide) (by decide) kf_X9_18 dX9_meet_61 ?_
          refine lv_aload_n hx hb dX9_meet_64 rfl (lv_at hl 2 rfl) ?_
          replace h := b1_some h
          obtain ⟨x21, gx21, h⟩ := h
          refine z_getI X hW gx21 kX5 (by decide) (by decide) kf_X9_48 dX9_meet_65 ?_
          refine lv_dup2_11 hx hb dX9_meet_68 rfl rfl ?_
          replace h := b1_some h
          obtain ⟨x22, gx22, h⟩ := h
          refine z_aldI X hW gx22 dX9_meet_69 ?_
          refine lv_aload_n hx hb dX9_meet_70 rfl (lv_at hl 1 rfl) ?_
          replace h := b1_some h
          obtain ⟨x23, gx23, h⟩ := h
          refine z_getI X hW gx23 kX5 (by decide) (by decide) kf_X9_54 dX9_meet_71 ?_
          refine lv_iadd hx hb dX9_meet_74 ?_
          replace h := b1_some h
          obtain ⟨s24, gs24, h⟩ := h
          refine z_astI X hW hS gs24 dX9_meet_75 (fun H locs hW hS => ?_)
          exact z_etv X hlk hr hW hS h (by decide) (by decide) dX9_meet_76
        · replace h := it_f h c14
          exact z_etv X hlk hr hW hS h (by decide) (by decide) dX9_meet_39
    · replace h := it_f h c7
      exact z_etv X hlk hr hW hS h (by decide) (by decide) dX9_meet_19

set_option maxHeartbeats 4000000 in
set_option maxRecDepth 100000 in
theorem cX9_meet_met {l : Launch} {A : Nat → Prop} {D : va_G} {cy : Nat → ClassId} {r0 : Unit} {h0 : Hz} {o : Nat} {v1 : Option Nat} {v2 : Option Nat} {h : Hz} (g : fX9_meet o v1 v2 h = some (r0, h0)) : Met l yX9_meet (Cond.code yX9_meet cX9_meet 3 none :: wT) ({ frames := 0, cells := 0, slots := 0, locals := 0 } : Room) (va_Pc [.ref o, va_rf v1, va_rf v2] (zS A D cy h)) (va_Qv (fun u => u = h0) (zB A D cy) A) 0 0 A := by
  refine Met.ofW (cc := cX9_meet) (maxL := 3) (ret := none) (by decide) rfl ?_
  intro p e s m args below meth c s₁ B hml hv
  obtain ⟨rfl, hW, hK, hN, hA⟩ := hv
  have X : zX A D cy p s m _ c cX9_meet RX9 3 := ⟨B.exec, B.bytes, fun w hw => atoms_spec (ws := Cond.code yX9_meet cX9_meet 3 none :: wT) B.pre w (List.mem_cons_of_mem _ hw), findClass_of_methodNamed B.named, hK, hml, hN, hA⟩
  cases v1 with
  | none =>
    cases v2 with
    | none =>
      have hl := lv_entry [.ref o, va_rf none, va_rf none] (n := 3) (Nat.le_of_ble_eq_true rfl)
      rw [lg_entry_eq]
      generalize (lg_sl [.ref o, va_rf none, va_rf none] ++ List.replicate (3 - (lg_sl [.ref o, va_rf none, va_rf none]).length) Slot.unset).toArray = ls at hl ⊢
      have hl : lv_has ls 3 [(0, .ref o), (1, va_rf none), (2, va_rf none)] := hl
      exact wX9_meet_0 X B.notSynchronized B.returns o none none _ _ _ _ (lv_sub hl [0, 1, 2] rfl) hW va_S.rf g
    | some v2 =>
      have hl := lv_entry [.ref o, va_rf none, va_rf (some v2)] (n := 3) (Nat.le_of_ble_eq_true rfl)
      rw [lg_entry_eq]
      generalize (lg_sl [.ref o, va_rf none, va_rf (some v2)] ++ List.replicate (3 - (lg_sl [.ref o, va_rf none, va_rf (some v2)]).length) Slot.unset).toArray = ls at hl ⊢
      have hl : lv_has ls 3 [(0, .ref o), (1, va_rf none), (2, va_rf (some v2))] := hl
      exact wX9_meet_0 X B.notSynchronized B.returns o none (some v2) _ _ _ _ (lv_sub hl [0, 1, 2] rfl) hW va_S.rf g
  | some v1 =>
    cases v2 with
    | none =>
      have hl := lv_entry [.ref o, va_rf (some v1), va_rf none] (n := 3) (Nat.le_of_ble_eq_true rfl)
      rw [lg_entry_eq]
      generalize (lg_sl [.ref o, va_rf (some v1), va_rf none] ++ List.replicate (3 - (lg_sl [.ref o, va_rf (some v1), va_rf none]).length) Slot.unset).toArray = ls at hl ⊢
      have hl : lv_has ls 3 [(0, .ref o), (1, va_rf (some v1)), (2, va_rf none)] := hl
      exact wX9_meet_0 X B.notSynchronized B.returns o (some v1) none _ _ _ _ (lv_sub hl [0, 1, 2] rfl) hW va_S.rf g
    | some v2 =>
      have hl := lv_entry [.ref o, va_rf (some v1), va_rf (some v2)] (n := 3) (Nat.le_of_ble_eq_true rfl)
      rw [lg_entry_eq]
      generalize (lg_sl [.ref o, va_rf (some v1), va_rf (some v2)] ++ List.replicate (3 - (lg_sl [.ref o, va_rf (some v1), va_rf (some v2)]).length) Slot.unset).toArray = ls at hl ⊢
      have hl : lv_has ls 3 [(0, .ref o), (1, va_rf (some v1)), (2, va_rf (some v2))] := hl
      exact wX9_meet_0 X B.notSynchronized B.returns o (some v1) (some v2) _ _ _ _ (lv_sub hl [0, 1, 2] rfl) hW va_S.rf g

theorem dX9_comeBack_0 : decode cX9_comeBack 0 = .ok (.aload_n 0, 1) := by decide +kernel
theorem dX9_comeBack_1 : decode cX9_comeBack 1 = .ok (.dup, 1) := by decide +kernel
theorem dX9_comeBack_2 : decode cX9_comeBack 2 = .ok (.getfield 32, 3) := by decide +kernel
theorem dX9_comeBack_5 : decode cX9_comeBack 5 = .ok (.iconst 1, 1) := by decide +kernel
theorem dX9_comeBack_6 : decode cX9_comeBack 6 = .ok (.iadd, 1) := by decide +kernel
theorem dX9_comeBack_7 : decode cX9_comeBack 7 = .ok (.putfield 32, 3) := by decide +kernel
theorem dX9_comeBack_10 : decode cX9_comeBack 10 = .ok (.aload_n 0, 1) := by decide +kernel
theorem dX9_comeBack_11 : decode cX9_comeBack 11 = .ok (.dup, 1) := by decide +kernel
theorem dX9_comeBack_12 : decode cX9_comeBack 12 = .ok (.getfield 29, 3) := by decide +kernel
theorem dX9_comeBack_15 : decode cX9_comeBack 15 = .ok (.iload_n 1, 1) := by decide +kernel
theorem dX9_comeBack_16 : decode cX9_comeBack 16 = .ok (.iadd, 1) := by decide +kernel
theorem dX9_comeBack_17 : decode cX9_comeBack 17 = .ok (.putfield 29, 3) := by decide +kernel
theorem dX9_comeBack_20 : decode cX9_comeBack 20 = .ok (.return_, 1) := by decide +kernel
def fX9_comeBack (o : Nat) (v1 : Int32) (h : Hz) : Option (Unit × Hz) := (b1 (gI 9 8 o h) fun x1 => (b1 (pI 9 8 o (x1 + 1) h) fun s2 => (b1 (gI 9 7 o s2) fun x3 => (b1 (pI 9 7 o (x3 + v1) s2) fun s4 => some ((), s4)))))
set_option maxHeartbeats 4000000 in
set_option maxRecDepth 100000 in
theorem wX9_comeBack_0 {r0 : Unit} {h0 : Hz} (X : zX A D cy p s m args c cX9_comeBack RX9 2) (hlk : meth.locks = false) (hr : meth.sig.returnType = none) (o : Nat) (v1 : Int32) (h : Hz) (H : Heap) (locs : List Loc) (ls : Array Slot) (hl : lv_has ls 2 [(0, .ref o), (1, .int v1)]) (hW : zW A cy D h H) (hS : va_S A s.heap H locs) (h : fX9_comeBack o v1 h = some (r0, h0)) : W p l e ({ frames := 0, cells := 0, slots := 0, locals := 0 } : Room) s m args below meth c H locs 0 0 (MQ below (va_Qv (fun u => u = h0) (zB A D cy) A) args s 0 0 A) (F0 m 0 ls []) := by
  obtain ⟨hx, hb, hts, hown, hK9, hml, hN9, hA9⟩ := id X
  unfold fX9_comeBack at h
  refine lv_aload_n hx hb dX9_comeBack_0 rfl (lv_at hl 0 rfl) ?_
  refine lv_dup hx hb dX9_comeBack_1 rfl ?_
  replace h := b1_some h
  obtain ⟨x1, gx1, h⟩ := h
  refine z_getI X hW gx1 kX9 (by decide) (by decide) kf_X9_32 dX9_comeBack_2 ?_
  refine lv_iconst (v := 1) hx hb dX9_comeBack_5 (by decide) ?_
  refine lv_iadd hx hb dX9_comeBack_6 ?_
  replace h := b1_some h
  obtain ⟨s2, gs2, h⟩ := h
  refine z_putI X hW hS gs2 kX9 (by decide) (by decide) rfl (Or.inl rfl) kf_X9_32 dX9_comeBack_7 (fun H locs hW hS => ?_)
  refine lv_aload_n hx hb dX9_comeBack_10 rfl (lv_at hl 0 rfl) ?_
  refine lv_dup hx hb dX9_comeBack_11 rfl ?_
  replace h := b1_some h
  obtain ⟨x3, gx3, h⟩ := h
  refine z_getI X hW gx3 kX9 (by decide) (by decide) kf_X9_29 dX9_comeBack_12 ?_
  refine lv_iload_n hx hb dX9_comeBack_15 rfl (lv_at hl 1 rfl) ?_
  refine lv_iadd hx hb dX9_comeBack_16 ?_
  replace h := b1_some h
  obtain ⟨s4, gs4, h⟩ := h
  refine z_putI X hW hS gs4 kX9 (by decide) (by decide) rfl (Or.inl rfl) kf_X9_29 dX9_comeBack_17 (fun H locs hW hS => ?_)
  exact z_etv X hlk hr hW hS h (by decide) (by decide) dX9_comeBack_20

set_option maxHeartbeats 4000000 in
set_option maxRecDepth 100000 in
theorem cX9_comeBack_met {l : Launch} {A : Nat → Prop} {D : va_G} {cy : Nat → ClassId} {r0 : Unit} {h0 : Hz} {o : Nat} {v1 : Int32} {h : Hz} (g : fX9_comeBack o v1 h = some (r0, h0)) : Met l yX9_comeBack (Cond.code yX9_comeBack cX9_comeBack 2 none :: wT) ({ frames := 0, cells := 0, slots := 0, locals := 0 } : Room) (va_Pc [.ref o, .int v1] (zS A D cy h)) (va_Qv (fun u => u = h0) (zB A D cy) A) 0 0 A := by
  refine Met.ofW (cc := cX9_comeBack) (maxL := 2) (ret := none) (by decide) rfl ?_
  intro p e s m args below meth c s₁ B hml hv
  obtain ⟨rfl, hW, hK, hN, hA⟩ := hv
  have X : zX A D cy p s m _ c cX9_comeBack RX9 2 := ⟨B.exec, B.bytes, fun w hw => atoms_spec (ws := Cond.code yX9_comeBack cX9_comeBack 2 none :: wT) B.pre w (List.mem_cons_of_mem _ hw), findClass_of_methodNamed B.named, hK, hml, hN, hA⟩
  have hl := lv_entry [.ref o, .int v1] (n := 2) (Nat.le_of_ble_eq_true rfl)
  rw [lg_entry_eq]
  generalize (lg_sl [.ref o, .int v1] ++ List.replicate (2 - (lg_sl [.ref o, .int v1]).length) Slot.unset).toArray = ls at hl ⊢
  have hl : lv_has ls 2 [(0, .ref o), (1, .int v1)] := hl
  exact wX9_comeBack_0 X B.notSynchronized B.returns o v1 _ _ _ _ (lv_sub hl [0, 1] rfl) hW va_S.rf g

theorem dX9_isChanged_0 : decode cX9_isChanged 0 = .ok (.iconst 0, 1) := by decide +kernel
theorem dX9_isChanged_1 : decode cX9_isChanged 1 = .ok (.istore_n 2, 1) := by decide +kernel
theorem dX9_isChanged_2 : decode cX9_isChanged 2 = .ok (.iload_n 2, 1) := by decide +kernel
theorem dX9_isChanged_3 : decode cX9_isChanged 3 = .ok (.aload_n 0, 1) := by decide +kernel
theorem dX9_isChanged_4 : decode cX9_isChanged 4 = .ok (.getfield 22, 3) := by decide +kernel
theorem dX9_isChanged_7 : decode cX9_isChanged 7 = .ok (.arraylength, 1) := by decide +kernel
theorem dX9_isChanged_8 : decode cX9_isChanged 8 = .ok (.if_icmp .ge 39, 3) := by decide +kernel
theorem dX9_isChanged_11 : decode cX9_isChanged 11 = .ok (.iload_n 2, 1) := by decide +kernel
theorem dX9_isChanged_12 : decode cX9_isChanged 12 = .ok (.aload_n 1, 1) := by decide +kernel
theorem dX9_isChanged_13 : decode cX9_isChanged 13 = .ok (.arraylength, 1) := by decide +kernel
theorem dX9_isChanged_14 : decode cX9_isChanged 14 = .ok (.if_icmp .ge 33, 3) := by decide +kernel
theorem dX9_isChanged_17 : decode cX9_isChanged 17 = .ok (.aload_n 0, 1) := by decide +kernel
theorem dX9_isChanged_18 : decode cX9_isChanged 18 = .ok (.getfield 22, 3) := by decide +kernel
theorem dX9_isChanged_21 : decode cX9_isChanged 21 = .ok (.iload_n 2, 1) := by decide +kernel
theorem dX9_isChanged_22 : decode cX9_isChanged 22 = .ok (.iaload, 1) := by decide +kernel
theorem dX9_isChanged_23 : decode cX9_isChanged 23 = .ok (.iconst (-1), 1) := by decide +kernel
theorem dX9_isChanged_24 : decode cX9_isChanged 24 = .ok (.if_icmp .eq 17, 3) := by decide +kernel
theorem dX9_isChanged_27 : decode cX9_isChanged 27 = .ok (.aload_n 0, 1) := by decide +kernel
theorem dX9_isChanged_28 : decode cX9_isChanged 28 = .ok (.getfield 22, 3) := by decide +kernel
theorem dX9_isChanged_31 : decode cX9_isChanged 31 = .ok (.iload_n 2, 1) := by decide +kernel
theorem dX9_isChanged_32 : decode cX9_isChanged 32 = .ok (.iaload, 1) := by decide +kernel
theorem dX9_isChanged_33 : decode cX9_isChanged 33 = .ok (.aload_n 1, 1) := by decide +kernel
theorem dX9_isChanged_34 : decode cX9_isChanged 34 = .ok (.iload_n 2, 1) := by decide +kernel
theorem dX9_isChanged_35 : decode cX9_isChanged 35 = .ok (.iaload, 1) := by decide +kernel
theorem dX9_isChanged_36 : decode cX9_isChanged 36 = .ok (.if_icmp .eq 5, 3) := by decide +kernel
theorem dX9_isChanged_39 : decode cX9_isChanged 39 = .ok (.iconst 1, 1) := by decide +kernel
theorem dX9_isChanged_40 : decode cX9_isChanged 40 = .ok (.ireturn, 1) := by decide +kernel
theorem dX9_isChanged_41 : decode cX9_isChanged 41 = .ok (.iinc 2 1, 3) := by decide +kernel
theorem dX9_isChanged_44 : decode cX9_isChanged 44 = .ok (.goto (-42), 3) := by decide +kernel
theorem dX9_isChanged_47 : decode cX9_isChanged 47 = .ok (.iconst 0, 1) := by decide +kernel
theorem dX9_isChanged_48 : decode cX9_isChanged 48 = .ok (.ireturn, 1) := by decide +kernel
def fX9_isChanged_2 : Nat → Nat → Option Nat → Int32 → Hz → Option (Int32 × Hz)
  | 0, _, _, _, _ => none
  | n + 1, o, v1, v2, h => (b1 (gA 9 5 o h) fun a1 => (b1 (xN 12 a1 h) fun x2 => (if x2 ≤ v2 then rz 0 h else b1 v1 fun a4 => (b1 (xN 12 a4 h) fun x5 => (if x5 ≤ v2 then rz 0 h else (b1 (gA 9 5 o h) fun a7 => (b1 (xI 12 a7 v2 h) fun x8 => (if x8 = (-1) then fX9_isChanged_2 n o (some a4) (v2 + 1) h else (b1 (gA 9 5 o h) fun a10 => (b1 (xI 12 a10 v2 h) fun x11 => (b1 (xI 12 a4 v2 h) fun x12 => (if x11 = x12 then fX9_isChanged_2 n o (some a4) (v2 + 1) h else rz 1 h))))))))))))
set_option maxHeartbeats 4000000 in
set_option maxRecDepth 100000 in
theorem wX9_isChanged_2 {r0 : Int32} {h0 : Hz} (X : zX A D cy p s m args c cX9_isChanged RX9 3) (hlk : meth.locks = false) (hr : meth.sig.returnType = (some .boolean)) : ∀ (n : Nat) (o : Nat) (v1 : Option Nat) (v2 : Int32) (h : Hz) (H : Heap) (locs : List Loc) (ls : Array Slot) (hl : lv_has ls 3 [(0, .ref o), (1, va_rf v1), (2, .int v2)]) (hW : zW A cy D h H) (hS : va_S A s.heap H locs) (h : fX9_isChanged_2 n o v1 v2 h = some (r0, h0)), W p l e ({ frames := 0, cells := 0, slots := 0, locals := 0 } : Room) s m args below meth c H locs 0 0 (MQ below (va_Qi (fun r1 u => r1 = r0 ∧ u = h0) (zB A D cy) A) args s 0 0 A) (F0 m 2 ls []) := by
  obtain ⟨hx, hb, hts, hown, hK9, hml, hN9, hA9⟩ := id X
  intro n
  induction n with
  | zero =>
    intro o v1 v2 h H locs ls hl hW hS h
    rw [fX9_isChanged_2] at h
    cases h
  | succ n ih =>
    intro o v1 v2 h H locs ls hl hW hS h
    rw [fX9_isChanged_2] at h
    refine lv_iload_n hx hb dX9_isChanged_2 rfl (lv_at hl 2 rfl) ?_
    refine lv_aload_n hx hb dX9_isChanged_3 rfl (lv_at hl 0 rfl) ?_
    replace h := b1_some h
    obtain ⟨a1, ga1, h⟩ := h
    refine z_getA X hW ga1 kX9 (by decide) (by decide) kf_X9_22 dX9_isChanged_4 ?_
    replace h := b1_some h
    obtain ⟨x2, gx2, h⟩ := h
    refine z_alenI X hW gx2 dX9_isChanged_7 ?_
    refine lv_icmp_ge (tgt := 47) hx hb dX9_isChanged_8 (by decide) (fun c3 => ?_) (fun c3 => ?_)
    · replace h := it_t h c3
      refine lv_iconst (v := 0) hx hb dX9_isChanged_47 (by decide) ?_
      exact z_etz X hlk hr hW hS h (by decide) (by decide) dX9_isChanged_48
    · replace h := it_f h c3
      refine lv_iload_n hx hb dX9_isChanged_11 rfl (lv_at hl 2 rfl) ?_
      refine z_aload_n hx hb dX9_isChanged_12 rfl (lv_at hl 1 rfl) ?_
      replace h := b1_some h
      obtain ⟨a4, ea4, h⟩ := h
      subst ea4
      replace h := b1_some h
      obtain ⟨x5, gx5, h⟩ := h
      refine z_alenI X hW gx5 dX9_isChanged_13 ?_
      refine lv_icmp_ge (tgt := 47) hx hb dX9_isChanged_14 (by decide) (fun c6 => ?_) (fun c6 => ?_)
      · replace h := it_t h c6
        refine lv_iconst (v := 0) hx hb dX9_isChanged_47 (by decide) ?_
        exact z_etz X hlk hr hW hS h (by decide) (by decide) dX9_isChanged_48
      · replace h := it_f h c6
        refine lv_aload_n hx hb dX9_isChanged_17 rfl (lv_at hl 0 rfl) ?_
        replace h := b1_some h
        obtain ⟨a7, ga7, h⟩ := h
        refine z_getA X hW ga7 kX9 (by decide) (by decide) kf_X9_22 dX9_isChanged_18 ?_
        refine lv_iload_n hx hb dX9_isChanged_21 rfl (lv_at hl 2 rfl) ?_
        replace h := b1_some h
        obtain ⟨x8, gx8, h⟩ := h
        refine z_aldI X hW gx8 dX9_isChanged_22 ?_
        refine lv_iconst (v := (-1)) hx hb dX9_isChanged_23 (by decide) ?_
        refine lv_icmp_eq (tgt := 41) hx hb dX9_isChanged_24 (by decide) (fun c9 => ?_) (fun c9 => ?_)
        · replace h := it_t h c9
          refine lv_iinc (v := (v2 + 1)) (lv' := [(2, .int (v2 + 1)), (0, .ref o), (1, .ref a4)]) hx hb dX9_isChanged_41 hl (k := 2) rfl rfl (by decide) rfl (fun ls hl => ?_)
          refine lv_goto (tgt := 2) hx hb dX9_isChanged_44 (by decide) ?_
          exact ih o (some a4) (v2 + 1) _ _ _ _ (lv_sub hl [1, 2, 0] rfl) hW hS h
        · replace h := it_f h c9
          refine lv_aload_n hx hb dX9_isChanged_27 rfl (lv_at hl 0 rfl) ?_
          replace h := b1_some h
          obtain ⟨a10, ga10, h⟩ := h
          refine z_getA X hW ga10 kX9 (by decide) (by decide) kf_X9_22 dX9_isChanged_28 ?_
          refine lv_iload_n hx hb dX9_isChanged_31 rfl (lv_at hl 2 rfl) ?_
          replace h := b1_some h
          obtain ⟨x11, gx11, h⟩ := h
          refine z_aldI X hW gx11 dX9_isChanged_32 ?_
          refine lv_aload_n hx hb dX9_isChanged_33 rfl (lv_at hl 1 rfl) ?_
          refine lv_iload_n hx hb dX9_isChanged_34 rfl (lv_at hl 2 rfl) ?_
          replace h := b1_some h
          obtain ⟨x12, gx12, h⟩ := h
          refine z_aldI X hW gx12 dX9_isChanged_35 ?_
          refine lv_icmp_eq (tgt := 41) hx hb dX9_isChanged_36 (by decide) (fun c13 => ?_) (fun c13 => ?_)
          · replace h := it_t h c13
            refine lv_iinc (v := (v2 + 1)) (lv' := [(2, .int (v2 + 1)), (0, .ref o), (1, .ref a4)]) hx hb dX9_isChanged_41 hl (k := 2) rfl rfl (by decide) rfl (fun ls hl => ?_)
            refine lv_goto (tgt := 2) hx hb dX9_isChanged_44 (by decide) ?_
            exact ih o (some a4) (v2 + 1) _ _ _ _ (lv_sub hl [1, 2, 0] rfl) hW hS h
          · replace h := it_f h c13
            refine lv_iconst (v := 1) hx hb dX9_isChanged_39 (by decide) ?_
            exact z_etz X hlk hr hW hS h (by decide) (by decide) dX9_isChanged_40

def fX9_isChanged (o : Nat) (v1 : Option Nat) (h : Hz) : Option (Int32 × Hz) := fX9_isChanged_2 100000 o v1 0 h
set_option maxHeartbeats 4000000 in
set_option maxRecDepth 100000 in
theorem wX9_isChanged_0 {r0 : Int32} {h0 : Hz} (X : zX A D cy p s m args c cX9_isChanged RX9 3) (hlk : meth.locks = false) (hr : meth.sig.returnType = (some .boolean)) (o : Nat) (v1 : Option Nat) (h : Hz) (H : Heap) (locs : List Loc) (ls : Array Slot) (hl : lv_has ls 3 [(0, .ref o), (1, va_rf v1)]) (hW : zW A cy D h H) (hS : va_S A s.heap H locs) (h : fX9_isChanged o v1 h = some (r0, h0)) : W p l e ({ frames := 0, cells := 0, slots := 0, locals := 0 } : Room) s m args below meth c H locs 0 0 (MQ below (va_Qi (fun r1 u => r1 = r0 ∧ u = h0) (zB A D cy) A) args s 0 0 A) (F0 m 0 ls []) := by
  obtain ⟨hx, hb, hts, hown, hK9, hml, hN9, hA9⟩ := id X
  unfold fX9_isChanged at h
  refine lv_iconst (v := 0) hx hb dX9_isChanged_0 (by decide) ?_
  refine lv_istore_n (lv' := [(2, .int 0), (0, .ref o), (1, va_rf v1)]) hx hb dX9_isChanged_1 rfl hl (by decide) (by cases v1 <;> rfl) (fun ls hl => ?_)
  exact wX9_isChanged_2 X hlk hr _ o v1 0 _ _ _ _ (lv_sub hl [1, 2, 0] rfl) hW hS h

set_option maxHeartbeats 4000000 in
set_option maxRecDepth 100000 in
theorem cX9_isChanged_met {l : Launch} {A : Nat → Prop} {D : va_G} {cy : Nat → ClassId} {r0 : Int32} {h0 : Hz} {o : Nat} {v1 : Option Nat} {h : Hz} (g : fX9_isChanged o v1 h = some (r0, h0)) : Met l yX9_isChanged (Cond.code yX9_isChanged cX9_isChanged 3 (some .boolean) :: wT) ({ frames := 0, cells := 0, slots := 0, locals := 0 } : Room) (va_Pc [.ref o, va_rf v1] (zS A D cy h)) (va_Qi (fun r1 u => r1 = r0 ∧ u = h0) (zB A D cy) A) 0 0 A := by
  refine Met.ofW (cc := cX9_isChanged) (maxL := 3) (ret := (some .boolean)) (by decide) rfl ?_
  intro p e s m args below meth c s₁ B hml hv
  obtain ⟨rfl, hW, hK, hN, hA⟩ := hv
  have X : zX A D cy p s m _ c cX9_isChanged RX9 3 := ⟨B.exec, B.bytes, fun w hw => atoms_spec (ws := Cond.code yX9_isChanged cX9_isChanged 3 (some .boolean) :: wT) B.pre w (List.mem_cons_of_mem _ hw), findClass_of_methodNamed B.named, hK, hml, hN, hA⟩
  cases v1 with
  | none =>
    have hl := lv_entry [.ref o, va_rf none] (n := 3) (Nat.le_of_ble_eq_true rfl)
    rw [lg_entry_eq]
    generalize (lg_sl [.ref o, va_rf none] ++ List.replicate (3 - (lg_sl [.ref o, va_rf none]).length) Slot.unset).toArray = ls at hl ⊢
    have hl : lv_has ls 3 [(0, .ref o), (1, va_rf none)] := hl
    exact wX9_isChanged_0 X B.notSynchronized B.returns o none _ _ _ _ (lv_sub hl [0, 1] rfl) hW va_S.rf g
  | some v1 =>
    have hl := lv_entry [.ref o, va_rf (some v1)] (n := 3) (Nat.le_of_ble_eq_true rfl)
    rw [lg_entry_eq]
    generalize (lg_sl [.ref o, va_rf (some v1)] ++ List.replicate (3 - (lg_sl [.ref o, va_rf (some v1)]).length) Slot.unset).toArray = ls at hl ⊢
    have hl : lv_has ls 3 [(0, .ref o), (1, va_rf (some v1))] := hl
    exact wX9_isChanged_0 X B.notSynchronized B.returns o (some v1) _ _ _ _ (lv_sub hl [0, 1] rfl) hW va_S.rf g

end Z10_small
