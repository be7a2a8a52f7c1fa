section Z14_classb
variable {p : Program} {l : Launch} {e : Env} {s : State} {m : MethodId} {args : Array Value} {below : List Frame} {meth : Method} {c : Code} {A : Nat → Prop} {D : va_G} {cy : Nat → ClassId}
theorem dX10_element_0 : decode cX10_element 0 = .ok (.aload_n 0, 1) := by decide +kernel
theorem dX10_element_1 : decode cX10_element 1 = .ok (.getfield 10, 3) := by decide +kernel
theorem dX10_element_4 : decode cX10_element 4 = .ok (.iload_n 1, 1) := by decide +kernel
theorem dX10_element_5 : decode cX10_element 5 = .ok (.invokevirtual 94, 3) := by decide +kernel
theorem dX10_element_8 : decode cX10_element 8 = .ok (.astore 4, 2) := by decide +kernel
theorem dX10_element_10 : decode cX10_element 10 = .ok (.aload 4, 2) := by decide +kernel
theorem dX10_element_12 : decode cX10_element 12 = .ok (.ifnonnull 5, 3) := by decide +kernel
theorem dX10_element_15 : decode cX10_element 15 = .ok (.lconst 0, 1) := by decide +kernel
theorem dX10_element_16 : decode cX10_element 16 = .ok (.lreturn, 1) := by decide +kernel
theorem dX10_element_17 : decode cX10_element 17 = .ok (.aload 4, 2) := by decide +kernel
theorem dX10_element_19 : decode cX10_element 19 = .ok (.iload_n 2, 1) := by decide +kernel
theorem dX10_element_20 : decode cX10_element 20 = .ok (.invokevirtual 134, 3) := by decide +kernel
theorem dX10_element_23 : decode cX10_element 23 = .ok (.astore 5, 2) := by decide +kernel
theorem dX10_element_25 : decode cX10_element 25 = .ok (.aload 5, 2) := by decide +kernel
theorem dX10_element_27 : decode cX10_element 27 = .ok (.ifnonnull 5, 3) := by decide +kernel
theorem dX10_element_30 : decode cX10_element 30 = .ok (.lconst 0, 1) := by decide +kernel
theorem dX10_element_31 : decode cX10_element 31 = .ok (.lreturn, 1) := by decide +kernel
theorem dX10_element_32 : decode cX10_element 32 = .ok (.aload 5, 2) := by decide +kernel
theorem dX10_element_34 : decode cX10_element 34 = .ok (.iload_n 3, 1) := by decide +kernel
theorem dX10_element_35 : decode cX10_element 35 = .ok (.invokevirtual 156, 3) := by decide +kernel
theorem dX10_element_38 : decode cX10_element 38 = .ok (.lreturn, 1) := by decide +kernel
def fX10_element (o : Nat) (v1 : Int32) (v2 : Int32) (v3 : Int32) (h : Hz) : Option (Int64 × Hz) := (b1 (gA 10 0 o h) fun a1 => (b1 (tg 6 a1 h) fun _ => (b2 (fX6_find a1 v1 h) fun r3 s4 => (oe r3 (some (0, s4)) fun a5 => (b1 (tg 5 a5 s4) fun _ => (b2 (fX5_rowAt a5 v2 s4) fun r7 s8 => (oe r7 (some (0, s8)) fun a9 => (b1 (tg 4 a9 s8) fun _ => (b2 (fX4_read a9 v3 s8) fun x11 s12 => some (x11, s12))))))))))
set_option maxHeartbeats 4000000 in
set_option maxRecDepth 100000 in
theorem wX10_element_0 {r0 : Int64} {h0 : Hz} (X : zX A D cy p s m args c cX10_element RX10 6) (hlk : meth.locks = false) (hr : meth.sig.returnType = (some .long)) (o : Nat) (v1 : Int32) (v2 : Int32) (v3 : Int32) (h : Hz) (H : Heap) (locs : List Loc) (ls : Array Slot) (hl : lv_has ls 6 [(0, .ref o), (1, .int v1), (2, .int v2), (3, .int v3)]) (hW : zW A cy D h H) (hS : va_S A s.heap H locs) (h : fX10_element o v1 v2 v3 h = some (r0, h0)) : W p l e ({ frames := 2, cells := 0, slots := 0, locals := 42 } : Room) s m args below meth c H locs 0 0 (MQ below (va_Ql (fun r1 u => r1 = r0 ∧ u = h0) (zB A D cy) A) args s 0 0 A) (F0 m 0 ls []) := by
  obtain ⟨hx, hb, hts, hown, hK9, hml, hN9, hA9⟩ := id X
  unfold fX10_element at h
  refine lv_aload_n hx hb dX10_element_0 rfl (lv_at hl 0 rfl) ?_
  replace h := b1_some h
  obtain ⟨a1, ga1, h⟩ := h
  refine z_getA X hW ga1 kX10 (by decide) (by decide) kf_X10_10 dX10_element_1 ?_
  refine lv_iload_n hx hb dX10_element_4 rfl (lv_at hl 1 rfl) ?_
  replace h := b1_some h
  obtain ⟨q2, gq2, h⟩ := h
  replace h := b2_some h
  obtain ⟨r3, s4, gs4, h⟩ := h
  refine z_callVq (rest := []) X hW hS (cX6_find_met gs4) kb_X6_find kv_X6_find kl_X10_94 (it_v gq2).1 kX6 rfl rfl ⟨Nat.le_of_ble_eq_true rfl, Nat.le_of_ble_eq_true rfl⟩ rfl rfl (by decide) hl.1 dX10_element_5 ⟨(by decide), (by decide)⟩ (fun H locs hW hS => ?_)
  refine z_astore (lv' := [(4, va_rf r3), (0, .ref o), (1, .int v1), (2, .int v2), (3, .int v3)]) hx hb dX10_element_8 hl (by decide) rfl (fun ls hl => ?_)
  refine z_aload hx hb dX10_element_10 (lv_at hl 0 rfl) ?_
  cases r3 with
  | none =>
    replace h := oe_n h
    have hl : lv_has ls 6 [(4, .null), (0, .ref o), (1, .int v1), (2, .int v2), (3, .int v3)] := hl
    refine lv_ifnonnullN hx hb dX10_element_12 ?_
    refine lv_lconst (v := 0) hx hb dX10_element_15 (by decide) ?_
    exact z_etl X hlk hr hW hS h (by decide) (by decide) dX10_element_16
  | some a5 =>
    replace h := oe_s h
    have hl : lv_has ls 6 [(4, .ref a5), (0, .ref o), (1, .int v1), (2, .int v2), (3, .int v3)] := hl
    refine lv_ifnonnull (tgt := 17) hx hb dX10_element_12 (by decide) ?_
    refine lv_aload hx hb dX10_element_17 (lv_at hl 0 rfl) ?_
    refine lv_iload_n hx hb dX10_element_19 rfl (lv_at hl 3 rfl) ?_
    replace h := b1_some h
    obtain ⟨q6, gq6, h⟩ := h
    replace h := b2_some h
    obtain ⟨r7, s8, gs8, h⟩ := h
    refine z_callVq (rest := []) X hW hS (cX5_rowAt_met gs8) kb_X5_rowAt kv_X5_rowAt kl_X10_134 (it_v gq6).1 kX5 rfl rfl ⟨Nat.le_of_ble_eq_true rfl, Nat.le_of_ble_eq_true rfl⟩ rfl rfl (by decide) hl.1 dX10_element_20 ⟨(by decide), (by decide)⟩ (fun H locs hW hS => ?_)
    refine z_astore (lv' := [(5, va_rf r7), (4, .ref a5), (0, .ref o), (1, .int v1), (2, .int v2), (3, .int v3)]) hx hb dX10_element_23 hl (by decide) rfl (fun ls hl => ?_)
    refine z_aload hx hb dX10_element_25 (lv_at hl 0 rfl) ?_
    cases r7 with
    | none =>
      replace h := oe_n h
      have hl : lv_has ls 6 [(5, .null), (4, .ref a5), (0, .ref o), (1, .int v1), (2, .int v2), (3, .int v3)] := hl
      refine lv_ifnonnullN hx hb dX10_element_27 ?_
      refine lv_lconst (v := 0) hx hb dX10_element_30 (by decide) ?_
      exact z_etl X hlk hr hW hS h (by decide) (by decide) dX10_element_31
    | some a9 =>
      replace h := oe_s h
      have hl : lv_has ls 6 [(5, .ref a9), (4, .ref a5), (0, .ref o), (1, .int v1), (2, .int v2), (3, .int v3)] := hl
      refine lv_ifnonnull (tgt := 32) hx hb dX10_element_27 (by decide) ?_
      refine lv_aload hx hb dX10_element_32 (lv_at hl 0 rfl) ?_
      refine lv_iload_n hx hb dX10_element_34 rfl (lv_at hl 5 rfl) ?_
      replace h := b1_some h
      obtain ⟨q10, gq10, h⟩ := h
      replace h := b2_some h
      obtain ⟨x11, s12, gs12, h⟩ := h
      refine z_callVl (rest := []) X hW hS (cX4_read_met gs12) kb_X4_read kv_X4_read kl_X10_156 (it_v gq10).1 kX4 rfl rfl ⟨Nat.le_of_ble_eq_true rfl, Nat.le_of_ble_eq_true rfl⟩ rfl rfl (by decide) hl.1 dX10_element_35 ⟨(by decide), (by decide)⟩ (fun H locs hW hS => ?_)
      exact z_etl X hlk hr hW hS h (by decide) (by decide) dX10_element_38

set_option maxHeartbeats 4000000 in
set_option maxRecDepth 100000 in
theorem cX10_element_met {l : Launch} {A : Nat → Prop} {D : va_G} {cy : Nat → ClassId} {r0 : Int64} {h0 : Hz} {o : Nat} {v1 : Int32} {v2 : Int32} {v3 : Int32} {h : Hz} (g : fX10_element o v1 v2 v3 h = some (r0, h0)) : Met l yX10_element (Cond.code yX10_element cX10_element 6 (some .long) :: wT) ({ frames := 2, cells := 0, slots := 0, locals := 42 } : Room) (va_Pc [.ref o, .int v1, .int v2, .int v3] (zS A D cy h)) (va_Ql (fun r1 u => r1 = r0 ∧ u = h0) (zB A D cy) A) 0 0 A := by
  refine Met.ofW (cc := cX10_element) (maxL := 6) (ret := (some .long)) (by decide) rfl ?_
  intro p e s m args below meth c s₁ B hml hv
  obtain ⟨rfl, hW, hK, hN, hA⟩ := hv
  have X : zX A D cy p s m _ c cX10_element RX10 6 := ⟨B.exec, B.bytes, fun w hw => atoms_spec (ws := Cond.code yX10_element cX10_element 6 (some .long) :: wT) B.pre w (List.mem_cons_of_mem _ hw), findClass_of_methodNamed B.named, hK, hml, hN, hA⟩
  have hl := lv_entry [.ref o, .int v1, .int v2, .int v3] (n := 6) (Nat.le_of_ble_eq_true rfl)
  rw [lg_entry_eq]
  generalize (lg_sl [.ref o, .int v1, .int v2, .int v3] ++ List.replicate (6 - (lg_sl [.ref o, .int v1, .int v2, .int v3]).length) Slot.unset).toArray = ls at hl ⊢
  have hl : lv_has ls 6 [(0, .ref o), (1, .int v1), (2, .int v2), (3, .int v3)] := hl
  exact wX10_element_0 X B.notSynchronized B.returns o v1 v2 v3 _ _ _ _ (lv_sub hl [0, 1, 2, 3] rfl) hW va_S.rf g

theorem dX10_holds_0 : decode cX10_holds 0 = .ok (.aload_n 0, 1) := by decide +kernel
theorem dX10_holds_1 : decode cX10_holds 1 = .ok (.getfield 10, 3) := by decide +kernel
theorem dX10_holds_4 : decode cX10_holds 4 = .ok (.iload_n 1, 1) := by decide +kernel
theorem dX10_holds_5 : decode cX10_holds 5 = .ok (.invokevirtual 94, 3) := by decide +kernel
theorem dX10_holds_8 : decode cX10_holds 8 = .ok (.astore_n 3, 1) := by decide +kernel
theorem dX10_holds_9 : decode cX10_holds 9 = .ok (.aload_n 3, 1) := by decide +kernel
theorem dX10_holds_10 : decode cX10_holds 10 = .ok (.ifnull 11, 3) := by decide +kernel
theorem dX10_holds_13 : decode cX10_holds 13 = .ok (.aload_n 3, 1) := by decide +kernel
theorem dX10_holds_14 : decode cX10_holds 14 = .ok (.iload_n 2, 1) := by decide +kernel
theorem dX10_holds_15 : decode cX10_holds 15 = .ok (.invokevirtual 102, 3) := by decide +kernel
theorem dX10_holds_18 : decode cX10_holds 18 = .ok (.ifCond .ne 6, 3) := by decide +kernel
theorem dX10_holds_21 : decode cX10_holds 21 = .ok (.bipush (-20), 2) := by decide +kernel
theorem dX10_holds_23 : decode cX10_holds 23 = .ok (.ireturn, 1) := by decide +kernel
theorem dX10_holds_24 : decode cX10_holds 24 = .ok (.aload_n 3, 1) := by decide +kernel
theorem dX10_holds_25 : decode cX10_holds 25 = .ok (.iload_n 2, 1) := by decide +kernel
theorem dX10_holds_26 : decode cX10_holds 26 = .ok (.invokevirtual 131, 3) := by decide +kernel
theorem dX10_holds_29 : decode cX10_holds 29 = .ok (.astore 4, 2) := by decide +kernel
theorem dX10_holds_31 : decode cX10_holds 31 = .ok (.aload 4, 2) := by decide +kernel
theorem dX10_holds_33 : decode cX10_holds 33 = .ok (.ifnull 9, 3) := by decide +kernel
theorem dX10_holds_36 : decode cX10_holds 36 = .ok (.aload 4, 2) := by decide +kernel
theorem dX10_holds_38 : decode cX10_holds 38 = .ok (.getfield 89, 3) := by decide +kernel
theorem dX10_holds_41 : decode cX10_holds 41 = .ok (.ireturn, 1) := by decide +kernel
theorem dX10_holds_42 : decode cX10_holds 42 = .ok (.aload_n 3, 1) := by decide +kernel
theorem dX10_holds_43 : decode cX10_holds 43 = .ok (.iload_n 2, 1) := by decide +kernel
theorem dX10_holds_44 : decode cX10_holds 44 = .ok (.invokevirtual 134, 3) := by decide +kernel
theorem dX10_holds_47 : decode cX10_holds 47 = .ok (.astore 5, 2) := by decide +kernel
theorem dX10_holds_49 : decode cX10_holds 49 = .ok (.aload 5, 2) := by decide +kernel
theorem dX10_holds_51 : decode cX10_holds 51 = .ok (.ifnull 12, 3) := by decide +kernel
theorem dX10_holds_54 : decode cX10_holds 54 = .ok (.bipush (-10), 2) := by decide +kernel
theorem dX10_holds_56 : decode cX10_holds 56 = .ok (.aload 5, 2) := by decide +kernel
theorem dX10_holds_58 : decode cX10_holds 58 = .ok (.getfield 145, 3) := by decide +kernel
theorem dX10_holds_61 : decode cX10_holds 61 = .ok (.isub, 1) := by decide +kernel
theorem dX10_holds_62 : decode cX10_holds 62 = .ok (.ireturn, 1) := by decide +kernel
theorem dX10_holds_63 : decode cX10_holds 63 = .ok (.iconst (-1), 1) := by decide +kernel
theorem dX10_holds_64 : decode cX10_holds 64 = .ok (.ireturn, 1) := by decide +kernel
def fX10_holds (o : Nat) (v1 : Int32) (v2 : Int32) (h : Hz) : Option (Int32 × Hz) := (b1 (gA 10 0 o h) fun a1 => (b1 (tg 6 a1 h) fun _ => (b2 (fX6_find a1 v1 h) fun r3 s4 => (oe r3 (some ((-20), s4)) fun a5 => (b1 (tg 5 a5 s4) fun _ => (b2 (fX5_hasPlace a5 v2 s4) fun x7 s8 => (if x7 = 0 then some ((-20), s8) else (b1 (tg 5 a5 s8) fun _ => (b2 (fX5_thingAt a5 v2 s8) fun r11 s12 => (oe r11 ((b1 (tg 5 a5 s12) fun _ => (b2 (fX5_rowAt a5 v2 s12) fun r15 s16 => (oe r15 (some ((-1), s16)) fun a17 => (b1 (gI 4 0 a17 s16) fun x18 => some (((-10) - x18), s16)))))) fun a13 => (b1 (gI 5 0 a13 s12) fun x19 => some (x19, s12))))))))))))
set_option maxHeartbeats 4000000 in
set_option maxRecDepth 100000 in
theorem wX10_holds_0 {r0 : Int32} {h0 : Hz} (X : zX A D cy p s m args c cX10_holds RX10 6) (hlk : meth.locks = false) (hr : meth.sig.returnType = (some .int)) (o : Nat) (v1 : Int32) (v2 : Int32) (h : Hz) (H : Heap) (locs : List Loc) (ls : Array Slot) (hl : lv_has ls 6 [(0, .ref o), (1, .int v1), (2, .int v2)]) (hW : zW A cy D h H) (hS : va_S A s.heap H locs) (h : fX10_holds o v1 v2 h = some (r0, h0)) : W p l e ({ frames := 2, cells := 0, slots := 0, locals := 42 } : Room) s m args below meth c H locs 0 0 (MQ below (va_Qi (fun r1 u => r1 = r0 ∧ u = h0) (zB A D cy) A) args s 0 0 A) (F0 m 0 ls []) := by
  obtain ⟨hx, hb, hts, hown, hK9, hml, hN9, hA9⟩ := id X
  unfold fX10_holds at h
  refine lv_aload_n hx hb dX10_holds_0 rfl (lv_at hl 0 rfl) ?_
  replace h := b1_some h
  obtain ⟨a1, ga1, h⟩ := h
  refine z_getA X hW ga1 kX10 (by decide) (by decide) kf_X10_10 dX10_holds_1 ?_
  refine lv_iload_n hx hb dX10_holds_4 rfl (lv_at hl 1 rfl) ?_
  replace h := b1_some h
  obtain ⟨q2, gq2, h⟩ := h
  replace h := b2_some h
  obtain ⟨r3, s4, gs4, h⟩ := h
  refine z_callVq (rest := []) X hW hS (cX6_find_met gs4) kb_X6_find kv_X6_find kl_X10_94 (it_v gq2).1 kX6 rfl rfl ⟨Nat.le_of_ble_eq_true rfl, Nat.le_of_ble_eq_true rfl⟩ rfl rfl (by decide) hl.1 dX10_holds_5 ⟨(by decide), (by decide)⟩ (fun H locs hW hS => ?_)
  refine z_astore_n (lv' := [(3, va_rf r3), (0, .ref o), (1, .int v1), (2, .int v2)]) hx hb dX10_holds_8 rfl hl (by decide) rfl (fun ls hl => ?_)
  refine z_aload_n hx hb dX10_holds_9 rfl (lv_at hl 0 rfl) ?_
  cases r3 with
  | none =>
    replace h := oe_n h
    have hl : lv_has ls 6 [(3, .null), (0, .ref o), (1, .int v1), (2, .int v2)] := hl
    refine lv_ifnullN (tgt := 21) hx hb dX10_holds_10 (by decide) ?_
    refine lv_bipush (v := (-20)) hx hb dX10_holds_21 (by decide) ?_
    exact z_eti X hlk hr hW hS h (by decide) (by decide) dX10_holds_23
  | some a5 =>
    replace h := oe_s h
    have hl : lv_has ls 6 [(3, .ref a5), (0, .ref o), (1, .int v1), (2, .int v2)] := hl
    refine lv_ifnull hx hb dX10_holds_10 ?_
    refine lv_aload_n hx hb dX10_holds_13 rfl (lv_at hl 0 rfl) ?_
    refine lv_iload_n hx hb dX10_holds_14 rfl (lv_at hl 3 rfl) ?_
    replace h := b1_some h
    obtain ⟨q6, gq6, h⟩ := h
    replace h := b2_some h
    obtain ⟨x7, s8, gs8, h⟩ := h
    refine z_callVi (rest := []) X hW hS (cX5_hasPlace_met gs8) kb_X5_hasPlace kv_X5_hasPlace kl_X10_102 (it_v gq6).1 kX5 rfl rfl ⟨Nat.le_of_ble_eq_true rfl, Nat.le_of_ble_eq_true rfl⟩ rfl rfl (by decide) hl.1 dX10_holds_15 ⟨(by decide), (by decide)⟩ (fun H locs hW hS => ?_)
    refine lv_if_ne (tgt := 24) hx hb dX10_holds_18 (by decide) (fun c9 => ?_) (fun c9 => ?_)
    · replace h := it_f h c9
      refine lv_aload_n hx hb dX10_holds_24 rfl (lv_at hl 0 rfl) ?_
      refine lv_iload_n hx hb dX10_holds_25 rfl (lv_at hl 3 rfl) ?_
      replace h := b1_some h
      obtain ⟨q10, gq10, h⟩ := h
      replace h := b2_some h
      obtain ⟨r11, s12, gs12, h⟩ := h
      refine z_callVq (rest := []) X hW hS (cX5_thingAt_met gs12) kb_X5_thingAt kv_X5_thingAt kl_X10_131 (it_v gq10).1 kX5 rfl rfl ⟨Nat.le_of_ble_eq_true rfl, Nat.le_of_ble_eq_true rfl⟩ rfl rfl (by decide) hl.1 dX10_holds_26 ⟨(by decide), (by decide)⟩ (fun H locs hW hS => ?_)
      refine z_astore (lv' := [(4, va_rf r11), (3, .ref a5), (0, .ref o), (1, .int v1), (2, .int v2)]) hx hb dX10_holds_29 hl (by decide) rfl (fun ls hl => ?_)
      refine z_aload hx hb dX10_holds_31 (lv_at hl 0 rfl) ?_
      cases r11 with
      | none =>
        replace h := oe_n h
        have hl : lv_has ls 6 [(4, .null), (3, .ref a5), (0, .ref o), (1, .int v1), (2, .int v2)] := hl
        refine lv_ifnullN (tgt := 42) hx hb dX10_holds_33 (by decide) ?_
        refine lv_aload_n hx hb dX10_holds_42 rfl (lv_at hl 1 rfl) ?_
        refine lv_iload_n hx hb dX10_holds_43 rfl (lv_at hl 4 rfl) ?_
        replace h := b1_some h
        obtain ⟨q14, gq14, h⟩ := h
        replace h := b2_some h
        obtain ⟨r15, s16, gs16, h⟩ := h
        refine z_callVq (rest := []) X hW hS (cX5_rowAt_met gs16) kb_X5_rowAt kv_X5_rowAt kl_X10_134 (it_v gq14).1 kX5 rfl rfl ⟨Nat.le_of_ble_eq_true rfl, Nat.le_of_ble_eq_true rfl⟩ rfl rfl (by decide) hl.1 dX10_holds_44 ⟨(by decide), (by decide)⟩ (fun H locs hW hS => ?_)
        refine z_astore (lv' := [(5, va_rf r15), (4, .null), (3, .ref a5), (0, .ref o), (1, .int v1), (2, .int v2)]) hx hb dX10_holds_47 hl (by decide) rfl (fun ls hl => ?_)
        refine z_aload hx hb dX10_holds_49 (lv_at hl 0 rfl) ?_
        cases r15 with
        | none =>
          replace h := oe_n h
          have hl : lv_has ls 6 [(5, .null), (4, .null), (3, .ref a5), (0, .ref o), (1, .int v1), (2, .int v2)] := hl
          refine lv_ifnullN (tgt := 63) hx hb dX10_holds_51 (by decide) ?_
          refine lv_iconst (v := (-1)) hx hb dX10_holds_63 (by decide) ?_
          exact z_eti X hlk hr hW hS h (by decide) (by decide) dX10_holds_64
        | some a17 =>
          replace h := oe_s h
          have hl : lv_has ls 6 [(5, .ref a17), (4, .null), (3, .ref a5), (0, .ref o), (1, .int v1), (2, .int v2)] := hl
          refine lv_ifnull hx hb dX10_holds_51 ?_
          refine lv_bipush (v := (-10)) hx hb dX10_holds_54 (by decide) ?_
          refine lv_aload hx hb dX10_holds_56 (lv_at hl 0 rfl) ?_
          replace h := b1_some h
          obtain ⟨x18, gx18, h⟩ := h
          refine z_getI X hW gx18 kX4 (by decide) (by decide) kf_X10_145 dX10_holds_58 ?_
          refine lv_isub hx hb dX10_holds_61 ?_
          exact z_eti X hlk hr hW hS h (by decide) (by decide) dX10_holds_62
      | some a13 =>
        replace h := oe_s h
        have hl : lv_has ls 6 [(4, .ref a13), (3, .ref a5), (0, .ref o), (1, .int v1), (2, .int v2)] := hl
        refine lv_ifnull hx hb dX10_holds_33 ?_
        refine lv_aload hx hb dX10_holds_36 (lv_at hl 0 rfl) ?_
        replace h := b1_some h
        obtain ⟨x19, gx19, h⟩ := h
        refine z_getI X hW gx19 kX5 (by decide) (by decide) kf_X10_89 dX10_holds_38 ?_
        exact z_eti X hlk hr hW hS h (by decide) (by decide) dX10_holds_41
    · replace h := it_t h c9
      refine lv_bipush (v := (-20)) hx hb dX10_holds_21 (by decide) ?_
      exact z_eti X hlk hr hW hS h (by decide) (by decide) dX10_holds_23

set_option maxHeartbeats 4000000 in
set_option maxRecDepth 100000 in
theorem cX10_holds_met {l : Launch} {A : Nat → Prop} {D : va_G} {cy : Nat → ClassId} {r0 : Int32} {h0 : Hz} {o : Nat} {v1 : Int32} {v2 : Int32} {h : Hz} (g : fX10_holds o v1 v2 h = some (r0, h0)) : Met l yX10_holds (Cond.code yX10_holds cX10_holds 6 (some .int) :: wT) ({ frames := 2, cells := 0, slots := 0, locals := 42 } : Room) (va_Pc [.ref o, .int v1, .int v2] (zS A D cy h)) (va_Qi (fun r1 u => r1 = r0 ∧ u = h0) (zB A D cy) A) 0 0 A := by
  refine Met.ofW (cc := cX10_holds) (maxL := 6) (ret := (some .int)) (by decide) rfl ?_
  intro p e s m args below meth c s₁ B hml hv
  obtain ⟨rfl, hW, hK, hN, hA⟩ := hv
  have X : zX A D cy p s m _ c cX10_holds RX10 6 := ⟨B.exec, B.bytes, fun w hw => atoms_spec (ws := Cond.code yX10_holds cX10_holds 6 (some .int) :: wT) B.pre w (List.mem_cons_of_mem _ hw), findClass_of_methodNamed B.named, hK, hml, hN, hA⟩
  have hl := lv_entry [.ref o, .int v1, .int v2] (n := 6) (Nat.le_of_ble_eq_true rfl)
  rw [lg_entry_eq]
  generalize (lg_sl [.ref o, .int v1, .int v2] ++ List.replicate (6 - (lg_sl [.ref o, .int v1, .int v2]).length) Slot.unset).toArray = ls at hl ⊢
  have hl : lv_has ls 6 [(0, .ref o), (1, .int v1), (2, .int v2)] := hl
  exact wX10_holds_0 X B.notSynchronized B.returns o v1 v2 _ _ _ _ (lv_sub hl [0, 1, 2] rfl) hW va_S.rf g

theorem dX10_thing_0 : decode cX10_thing 0 = .ok (.aload_n 0, 1) := by decide +kernel
theorem dX10_thing_1 : decode cX10_thing 1 = .ok (.getfield 10, 3) := by decide +kernel
theorem dX10_thing_4 : decode cX10_thing 4 = .ok (.iload_n 1, 1) := by decide +kernel
theorem dX10_thing_5 : decode cX10_thing 5 = .ok (.invokevirtual 160, 3) := by decide +kernel
theorem dX10_thing_8 : decode cX10_thing 8 = .ok (.astore_n 3, 1) := by decide +kernel
theorem dX10_thing_9 : decode cX10_thing 9 = .ok (.aload_n 3, 1) := by decide +kernel
theorem dX10_thing_10 : decode cX10_thing 10 = .ok (.ifnonnull 5, 3) := by decide +kernel
theorem dX10_thing_13 : decode cX10_thing 13 = .ok (.iconst (-1), 1) := by decide +kernel
theorem dX10_thing_14 : decode cX10_thing 14 = .ok (.ireturn, 1) := by decide +kernel
theorem dX10_thing_15 : decode cX10_thing 15 = .ok (.iload_n 2, 1) := by decide +kernel
theorem dX10_thing_16 : decode cX10_thing 16 = .ok (.bipush 6, 2) := by decide +kernel
theorem dX10_thing_18 : decode cX10_thing 18 = .ok (.if_icmp .ne 8, 3) := by decide +kernel
theorem dX10_thing_21 : decode cX10_thing 21 = .ok (.aload_n 3, 1) := by decide +kernel
theorem dX10_thing_22 : decode cX10_thing 22 = .ok (.getfield 163, 3) := by decide +kernel
theorem dX10_thing_25 : decode cX10_thing 25 = .ok (.ireturn, 1) := by decide +kernel
theorem dX10_thing_26 : decode cX10_thing 26 = .ok (.iload_n 2, 1) := by decide +kernel
theorem dX10_thing_27 : decode cX10_thing 27 = .ok (.bipush 7, 2) := by decide +kernel
theorem dX10_thing_29 : decode cX10_thing 29 = .ok (.if_icmp .ne 16, 3) := by decide +kernel
theorem dX10_thing_32 : decode cX10_thing 32 = .ok (.aload_n 3, 1) := by decide +kernel
theorem dX10_thing_33 : decode cX10_thing 33 = .ok (.getfield 166, 3) := by decide +kernel
theorem dX10_thing_36 : decode cX10_thing 36 = .ok (.ifCond .eq 7, 3) := by decide +kernel
theorem dX10_thing_39 : decode cX10_thing 39 = .ok (.iconst 1, 1) := by decide +kernel
theorem dX10_thing_40 : decode cX10_thing 40 = .ok (.goto 4, 3) := by decide +kernel
theorem dX10_thing_43 : decode cX10_thing 43 = .ok (.iconst 0, 1) := by decide +kernel
theorem dX10_thing_44 : decode cX10_thing 44 = .ok (.ireturn, 1) := by decide +kernel
theorem dX10_thing_45 : decode cX10_thing 45 = .ok (.aload_n 3, 1) := by decide +kernel
theorem dX10_thing_46 : decode cX10_thing 46 = .ok (.getfield 170, 3) := by decide +kernel
theorem dX10_thing_49 : decode cX10_thing 49 = .ok (.ifCond .ne 5, 3) := by decide +kernel
theorem dX10_thing_52 : decode cX10_thing 52 = .ok (.iconst (-1), 1) := by decide +kernel
theorem dX10_thing_53 : decode cX10_thing 53 = .ok (.ireturn, 1) := by decide +kernel
theorem dX10_thing_54 : decode cX10_thing 54 = .ok (.iload_n 2, 1) := by decide +kernel
theorem dX10_thing_55 : decode cX10_thing 55 = .ok (.tableswitch 81 0 5 #[37, 42, 47, 52, 57, 76], 37) := by decide +kernel
theorem dX10_thing_92 : decode cX10_thing 92 = .ok (.aload_n 3, 1) := by decide +kernel
theorem dX10_thing_93 : decode cX10_thing 93 = .ok (.getfield 173, 3) := by decide +kernel
theorem dX10_thing_96 : decode cX10_thing 96 = .ok (.ireturn, 1) := by decide +kernel
theorem dX10_thing_97 : decode cX10_thing 97 = .ok (.aload_n 3, 1) := by decide +kernel
theorem dX10_thing_98 : decode cX10_thing 98 = .ok (.getfield 109, 3) := by decide +kernel
theorem dX10_thing_101 : decode cX10_thing 101 = .ok (.ireturn, 1) := by decide +kernel
theorem dX10_thing_102 : decode cX10_thing 102 = .ok (.aload_n 3, 1) := by decide +kernel
theorem dX10_thing_103 : decode cX10_thing 103 = .ok (.invokevirtual 176, 3) := by decide +kernel
theorem dX10_thing_106 : decode cX10_thing 106 = .ok (.ireturn, 1) := by decide +kernel
theorem dX10_thing_107 : decode cX10_thing 107 = .ok (.aload_n 3, 1) := by decide +kernel
theorem dX10_thing_108 : decode cX10_thing 108 = .ok (.getfield 112, 3) := by decide +kernel
theorem dX10_thing_111 : decode cX10_thing 111 = .ok (.ireturn, 1) := by decide +kernel
theorem dX10_thing_112 : decode cX10_thing 112 = .ok (.aload_n 3, 1) := by decide +kernel
theorem dX10_thing_113 : decode cX10_thing 113 = .ok (.getfield 180, 3) := by decide +kernel
theorem dX10_thing_116 : decode cX10_thing 116 = .ok (.ifnonnull 7, 3) := by decide +kernel
theorem dX10_thing_119 : decode cX10_thing 119 = .ok (.iconst (-1), 1) := by decide +kernel
theorem dX10_thing_120 : decode cX10_thing 120 = .ok (.goto 10, 3) := by decide +kernel
theorem dX10_thing_123 : decode cX10_thing 123 = .ok (.aload_n 3, 1) := by decide +kernel
theorem dX10_thing_124 : decode cX10_thing 124 = .ok (.getfield 180, 3) := by decide +kernel
theorem dX10_thing_127 : decode cX10_thing 127 = .ok (.getfield 89, 3) := by decide +kernel
theorem dX10_thing_130 : decode cX10_thing 130 = .ok (.ireturn, 1) := by decide +kernel
theorem dX10_thing_131 : decode cX10_thing 131 = .ok (.aload_n 3, 1) := by decide +kernel
theorem dX10_thing_132 : decode cX10_thing 132 = .ok (.getfield 184, 3) := by decide +kernel
theorem dX10_thing_135 : decode cX10_thing 135 = .ok (.ireturn, 1) := by decide +kernel
theorem dX10_thing_136 : decode cX10_thing 136 = .ok (.iconst (-1), 1) := by decide +kernel
theorem dX10_thing_137 : decode cX10_thing 137 = .ok (.ireturn, 1) := by decide +kernel
def fX10_thing (o : Nat) (v1 : Int32) (v2 : Int32) (h : Hz) : Option (Int32 × Hz) := (b1 (gA 10 0 o h) fun a1 => (b1 (tg 6 a1 h) fun _ => (b2 (fX6_ever a1 v1 h) fun r3 s4 => (oe r3 (some ((-1), s4)) fun a5 => (if v2 = 6 then (b1 (gI 5 8 a5 s4) fun x30 => some (x30, s4)) else (if v2 = 7 then (b1 (gI 5 9 a5 s4) fun x28 => (if x28 = 0 then some (0, s4) else some (1, s4))) else (b1 (gI 5 10 a5 s4) fun x8 => (if x8 = 0 then some ((-1), s4) else (if v2 = 0 then (b1 (gI 5 1 a5 s4) fun x11 => some (x11, s4)) else (if v2 = 1 then (b1 (gI 5 2 a5 s4) fun x13 => some (x13, s4)) else (if v2 = 2 then (b1 (tg 5 a5 s4) fun _ => (b2 (fX5_placesSize a5 s4) fun x16 s17 => some (x16, s17))) else (if v2 = 3 then (b1 (gI 5 5 a5 s4) fun x19 => some (x19, s4)) else (if v2 = 4 then (b1 (gP 5 6 a5 s4) fun r21 => (oe r21 (some ((-1), s4)) fun a22 => (b1 (gP 5 6 a5 s4) fun r23 => b1 r23 fun a24 => (b1 (gI 5 0 a24 s4) fun x25 => some (x25, s4))))) else (if v2 = 5 then (b1 (gI 5 7 a5 s4) fun x27 => some (x27, s4)) else some ((-1), s4)))))))))))))))
set_option maxHeartbeats 4000000 in
set_option maxRecDepth 100000 in
theorem wX10_thing_0 {r0 : Int32} {h0 : Hz} (X : zX A D cy p s m args c cX10_thing RX10 4) (hlk : meth.locks = false) (hr : meth.sig.returnType = (some .int)) (o : Nat) (v1 : Int32) (v2 : Int32) (h : Hz) (H : Heap) (locs : List Loc) (ls : Array Slot) (hl : lv_has ls 4 [(0, .ref o), (1, .int v1), (2, .int v2)]) (hW : zW A cy D h H) (hS : va_S A s.heap H locs) (h : fX10_thing o v1 v2 h = some (r0, h0)) : W p l e ({ frames := 1, cells := 0, slots := 0, locals := 21 } : Room) s m args below meth c H locs 0 0 (MQ below (va_Qi (fun r1 u => r1 = r0 ∧ u = h0) (zB A D cy) A) args s 0 0 A) (F0 m 0 ls []) := by
  obtain ⟨hx, hb, hts, hown, hK9, hml, hN9, hA9⟩ := id X
  unfold fX10_thing at h
  refine lv_aload_n hx hb dX10_thing_0 rfl (lv_at hl 0 rfl) ?_
  replace h := b1_some h
  obtain ⟨a1, ga1, h⟩ := h
  refine z_getA X hW ga1 kX10 (by decide) (by decide) kf_X10_10 dX10_thing_1 ?_
  refine lv_iload_n hx hb dX10_thing_4 rfl (lv_at hl 1 rfl) ?_
  replace h := b1_some h
  obtain ⟨q2, gq2, h⟩ := h
  replace h := b2_some h
  obtain ⟨r3, s4, gs4, h⟩ := h
  refine z_callVq (rest := []) X hW hS (cX6_ever_met gs4) kb_X6_ever kv_X6_ever kl_X10_160 (it_v gq2).1 kX6 rfl rfl ⟨Nat.le_of_ble_eq_true rfl, Nat.le_of_ble_eq_true rfl⟩ rfl rfl (by decide) hl.1 dX10_thing_5 ⟨(by decide), (by decide)⟩ (fun H locs hW hS => ?_)
  refine z_astore_n (lv' := [(3, va_rf r3), (0, .ref o), (1, .int v1), (2, .int v2)]) hx hb dX10_thing_8 rfl hl (by decide) rfl (fun ls hl => ?_)
  refine z_aload_n hx hb dX10_thing_9 rfl (lv_at hl 0 rfl) ?_
  cases r3 with
  | none =>
    replace h := oe_n h
    have hl : lv_has ls 4 [(3, .null), (0, .ref o), (1, .int v1), (2, .int v2)] := hl
    refine lv_ifnonnullN hx hb dX10_thing_10 ?_
    refine lv_iconst (v := (-1)) hx hb dX10_thing_13 (by decide) ?_
    exact z_eti X hlk hr hW hS h (by decide) (by decide) dX10_thing_14
  | some a5 =>
    replace h := oe_s h
    have hl : lv_has ls 4 [(3, .ref a5), (0, .ref o), (1, .int v1), (2, .int v2)] := hl
    refine lv_ifnonnull (tgt := 15) hx hb dX10_thing_10 (by decide) ?_
    refine lv_iload_n hx hb dX10_thing_15 rfl (lv_at hl 3 rfl) ?_
    refine lv_bipush (v := 6) hx hb dX10_thing_16 (by decide) ?_
    refine lv_icmp_ne (tgt := 26) hx hb dX10_thing_18 (by decide) (fun c6 => ?_) (fun c6 => ?_)
    · replace h := it_f h c6
      refine lv_iload_n hx hb dX10_thing_26 rfl (lv_at hl 3 rfl) ?_
      refine lv_bipush (v := 7) hx hb dX10_thing_27 (by decide) ?_
      refine lv_icmp_ne (tgt := 45) hx hb dX10_thing_29 (by decide) (fun c7 => ?_) (fun c7 => ?_)
      · replace h := it_f h c7
        refine lv_aload_n hx hb dX10_thing_45 rfl (lv_at hl 0 rfl) ?_
        replace h := b1_some h
        obtain ⟨x8, gx8, h⟩ := h
        refine z_getI X hW gx8 kX5 (by decide) (by decide) kf_X10_170 dX10_thing_46 ?_
        refine lv_if_ne (tgt := 54) hx hb dX10_thing_49 (by decide) (fun c9 => ?_) (fun c9 => ?_)
        · replace h := it_f h c9
          refine lv_iload_n hx hb dX10_thing_54 rfl (lv_at hl 3 rfl) ?_
          by_cases c10 : v2 = 0
          · replace h := it_t h c10
            refine lv_tableIn (off := 37) (tgt := 92) hx hb dX10_thing_55 (by rw [c10]; decide) (by rw [c10]; decide) (by rw [c10]; rfl) (by decide) ?_
            refine lv_aload_n hx hb dX10_thing_92 rfl (lv_at hl 0 rfl) ?_
            replace h := b1_some h
            obtain ⟨x11, gx11, h⟩ := h
            refine z_getI X hW gx11 kX5 (by decide) (by decide) kf_X10_173 dX10_thing_93 ?_
            exact z_eti X hlk hr hW hS h (by decide) (by decide) dX10_thing_96
          · replace h := it_f h c10
            by_cases c12 : v2 = 1
            · replace h := it_t h c12
              refine lv_tableIn (off := 42) (tgt := 97) hx hb dX10_thing_55 (by rw [c12]; decide) (by rw [c12]; decide) (by rw [c12]; rfl) (by decide) ?_
              refine lv_aload_n hx hb dX10_thing_97 rfl (lv_at hl 0 rfl) ?_
              replace h := b1_some h
              obtain ⟨x13, gx13, h⟩ := h
              refine z_getI X hW gx13 kX5 (by decide) (by decide) kf_X10_109 dX10_thing_98 ?_
              exact z_eti X hlk hr hW hS h (by decide) (by decide) dX10_thing_101
            · replace h := it_f h c12
              by_cases c14 : v2 = 2
              · replace h := it_t h c14
                refine lv_tableIn (off := 47) (tgt := 102) hx hb dX10_thing_55 (by rw [c14]; decide) (by rw [c14]; decide) (by rw [c14]; rfl) (by decide) ?_
                refine lv_aload_n hx hb dX10_thing_102 rfl (lv_at hl 0 rfl) ?_
                replace h := b1_some h
                obtain ⟨q15, gq15, h⟩ := h
                replace h := b2_some h
                obtain ⟨x16, s17, gs17, h⟩ := h
                refine z_callVi (rest := []) X hW hS (cX5_placesSize_met gs17) kb_X5_placesSize kv_X5_placesSize kl_X10_176 (it_v gq15).1 kX5 rfl rfl ⟨Nat.le_of_ble_eq_true rfl, Nat.le_of_ble_eq_true rfl⟩ rfl rfl (by decide) hl.1 dX10_thing_103 ⟨(by decide), (by decide)⟩ (fun H locs hW hS => ?_)
                exact z_eti X hlk hr hW hS h (by decide) (by decide) dX10_thing_106
              · replace h := it_f h c14
                by_cases c18 : v2 = 3
                · replace h := it_t h c18
                  refine lv_tableIn (off := 52) (tgt := 107) hx hb dX10_thing_55 (by rw [c18]; decide) (by rw [c18]; decide) (by rw [c18]; rfl) (by decide) ?_
                  refine lv_aload_n hx hb dX10_thing_107 rfl (lv_at hl 0 rfl) ?_
                  replace h := b1_some h
                  obtain ⟨x19, gx19, h⟩ := h
                  refine z_getI X hW gx19 kX5 (by decide) (by decide) kf_X10_112 dX10_thing_108 ?_
                  exact z_eti X hlk hr hW hS h (by decide) (by decide) dX10_thing_111
                · replace h := it_f h c18
                  by_cases c20 : v2 = 4
                  · replace h := it_t h c20
                    refine lv_tableIn (off := 57) (tgt := 112) hx hb dX10_thing_55 (by rw [c20]; decide) (by rw [c20]; decide) (by rw [c20]; rfl) (by decide) ?_
                    refine lv_aload_n hx hb dX10_thing_112 rfl (lv_at hl 0 rfl) ?_
                    replace h := b1_some h
                    obtain ⟨r21, gr21, h⟩ := h
                    refine z_getP X hW gr21 kX5 (by decide) (by decide) kf_X10_180 dX10_thing_113 ?_
                    cases r21 with
                    | none =>
                      replace h := oe_n h
                      have hl : lv_has ls 4 [(3, .ref a5), (0, .ref o), (1, .int v1), (2, .int v2)] := hl
                      refine lv_ifnonnullN hx hb dX10_thing_116 ?_
                      refine lv_iconst (v := (-1)) hx hb dX10_thing_119 (by decide) ?_
                      refine lv_goto (tgt := 130) hx hb dX10_thing_120 (by decide) ?_
                      exact z_eti X hlk hr hW hS h (by decide) (by decide) dX10_thing_130
                    | some a22 =>
                      replace h := oe_s h
                      have hl : lv_has ls 4 [(3, .ref a5), (0, .ref o), (1, .int v1), (2, .int v2)] := hl
                      refine lv_ifnonnull (tgt := 123) hx hb dX10_thing_116 (by decide) ?_
                      refine lv_aload_n hx hb dX10_thing_123 rfl (lv_at hl 0 rfl) ?_
                      replace h := b1_some h
                      obtain ⟨r23, gr23, h⟩ := h
                      refine z_getP X hW gr23 kX5 (by decide) (by decide) kf_X10_180 dX10_thing_124 ?_
                      replace h := b1_some h
                      obtain ⟨a24, ea24, h⟩ := h
                      subst ea24
                      replace h := b1_some h
                      obtain ⟨x25, gx25, h⟩ := h
                      refine z_getI X hW gx25 kX5 (by decide) (by decide) kf_X10_89 dX10_thing_127 ?_
                      exact z_eti X hlk hr hW hS h (by decide) (by decide) dX10_thing_130
                  · replace h := it_f h c20
                    by_cases c26 : v2 = 5
                    · replace h := it_t h c26
                      refine lv_tableIn (off := 76) (tgt := 131) hx hb dX10_thing_55 (by rw [c26]; decide) (by rw [c26]; decide) (by rw [c26]; rfl) (by decide) ?_
                      refine lv_aload_n hx hb dX10_thing_131 rfl (lv_at hl 0 rfl) ?_
                      replace h := b1_some h
                      obtain ⟨x27, gx27, h⟩ := h
                      refine z_getI X hW gx27 kX5 (by decide) (by decide) kf_X10_184 dX10_thing_132 ?_
                      exact z_eti X hlk hr hW hS h (by decide) (by decide) dX10_thing_135
                    · replace h := it_f h c26
                      have nc10 := lv_neT c10 (a := 0) rfl
                      have nc12 := lv_neT c12 (a := 1) rfl
                      have nc14 := lv_neT c14 (a := 2) rfl
                      have nc18 := lv_neT c18 (a := 3) rfl
                      have nc20 := lv_neT c20 (a := 4) rfl
                      have nc26 := lv_neT c26 (a := 5) rfl
                      refine lv_tableOut (tgt := 136) hx hb dX10_thing_55 (by omega) (by decide) ?_
                      refine lv_iconst (v := (-1)) hx hb dX10_thing_136 (by decide) ?_
                      exact z_eti X hlk hr hW hS h (by decide) (by decide) dX10_thing_137
        · replace h := it_t h c9
          refine lv_iconst (v := (-1)) hx hb dX10_thing_52 (by decide) ?_
          exact z_eti X hlk hr hW hS h (by decide) (by decide) dX10_thing_53
      · replace h := it_t h c7
        refine lv_aload_n hx hb dX10_thing_32 rfl (lv_at hl 0 rfl) ?_
        replace h := b1_some h
        obtain ⟨x28, gx28, h⟩ := h
        refine z_getI X hW gx28 kX5 (by decide) (by decide) kf_X10_166 dX10_thing_33 ?_
        refine lv_if_eq (tgt := 43) hx hb dX10_thing_36 (by decide) (fun c29 => ?_) (fun c29 => ?_)
        · replace h := it_t h c29
          refine lv_iconst (v := 0) hx hb dX10_thing_43 (by decide) ?_
          exact z_eti X hlk hr hW hS h (by decide) (by decide) dX10_thing_44
        · replace h := it_f h c29
          refine lv_iconst (v := 1) hx hb dX10_thing_39 (by decide) ?_
          refine lv_goto (tgt := 44) hx hb dX10_thing_40 (by decide) ?_
          exact z_eti X hlk hr hW hS h (by decide) (by decide) dX10_thing_44
    · replace h := it_t h c6
      refine lv_aload_n hx hb dX10_thing_21 rfl (lv_at hl 0 rfl) ?_
      replace h := b1_some h
      obtain ⟨x30, gx30, h⟩ := h
      refine z_getI X hW gx30 kX5 (by decide) (by decide) kf_X10_163 dX10_thing_22 ?_
      exact z_eti X hlk hr hW hS h (by decide) (by decide) dX10_thing_25

set_option maxHeartbeats 4000000 in
set_option maxRecDepth 100000 in
theorem cX10_thing_met {l : Launch} {A : Nat → Prop} {D : va_G} {cy : Nat → ClassId} {r0 : Int32} {h0 : Hz} {o : Nat} {v1 : Int32} {v2 : Int32} {h : Hz} (g : fX10_thing o v1 v2 h = some (r0, h0)) : Met l yX10_thing (Cond.code yX10_thing cX10_thing 4 (some .int) :: wT) ({ frames := 1, cells := 0, slots := 0, locals := 21 } : Room) (va_Pc [.ref o, .int v1, .int v2] (zS A D cy h)) (va_Qi (fun r1 u => r1 = r0 ∧ u = h0) (zB A D cy) A) 0 0 A := by
  refine Met.ofW (cc := cX10_thing) (maxL := 4) (ret := (some .int)) (by decide) rfl ?_
  intro p e s m args below meth c s₁ B hml hv
  obtain ⟨rfl, hW, hK, hN, hA⟩ := hv
  have X : zX A D cy p s m _ c cX10_thing RX10 4 := ⟨B.exec, B.bytes, fun w hw => atoms_spec (ws := Cond.code yX10_thing cX10_thing 4 (some .int) :: wT) B.pre w (List.mem_cons_of_mem _ hw), findClass_of_methodNamed B.named, hK, hml, hN, hA⟩
  have hl := lv_entry [.ref o, .int v1, .int v2] (n := 4) (Nat.le_of_ble_eq_true rfl)
  rw [lg_entry_eq]
  generalize (lg_sl [.ref o, .int v1, .int v2] ++ List.replicate (4 - (lg_sl [.ref o, .int v1, .int v2]).length) Slot.unset).toArray = ls at hl ⊢
  have hl : lv_has ls 4 [(0, .ref o), (1, .int v1), (2, .int v2)] := hl
  exact wX10_thing_0 X B.notSynchronized B.returns o v1 v2 _ _ _ _ (lv_sub hl [0, 1, 2] rfl) hW va_S.rf g

theorem dX10_gate_0 : decode cX10_gate 0 = .ok (.aload_n 0, 1) := by decide +kernel
theorem dX10_gate_1 : decode cX10_gate 1 = .ok (.getfield 10, 3) := by decide +kernel
theorem dX10_gate_4 : decode cX10_gate 4 = .ok (.iload_n 2, 1) := by decide +kernel
theorem dX10_gate_5 : decode cX10_gate 5 = .ok (.invokevirtual 160, 3) := by decide +kernel
theorem dX10_gate_8 : decode cX10_gate 8 = .ok (.astore_n 3, 1) := by decide +kernel
theorem dX10_gate_9 : decode cX10_gate 9 = .ok (.aload_n 3, 1) := by decide +kernel
theorem dX10_gate_10 : decode cX10_gate 10 = .ok (.ifnonnull 5, 3) := by decide +kernel
theorem dX10_gate_13 : decode cX10_gate 13 = .ok (.iconst (-1), 1) := by decide +kernel
theorem dX10_gate_14 : decode cX10_gate 14 = .ok (.ireturn, 1) := by decide +kernel
theorem dX10_gate_15 : decode cX10_gate 15 = .ok (.aload_n 0, 1) := by decide +kernel
theorem dX10_gate_16 : decode cX10_gate 16 = .ok (.getfield 10, 3) := by decide +kernel
theorem dX10_gate_19 : decode cX10_gate 19 = .ok (.iload_n 1, 1) := by decide +kernel
theorem dX10_gate_20 : decode cX10_gate 20 = .ok (.aload_n 3, 1) := by decide +kernel
theorem dX10_gate_21 : decode cX10_gate 21 = .ok (.invokevirtual 187, 3) := by decide +kernel
theorem dX10_gate_24 : decode cX10_gate 24 = .ok (.astore 4, 2) := by decide +kernel
theorem dX10_gate_26 : decode cX10_gate 26 = .ok (.aload 4, 2) := by decide +kernel
theorem dX10_gate_28 : decode cX10_gate 28 = .ok (.ifnonnull 7, 3) := by decide +kernel
theorem dX10_gate_31 : decode cX10_gate 31 = .ok (.iconst (-1), 1) := by decide +kernel
theorem dX10_gate_32 : decode cX10_gate 32 = .ok (.goto 8, 3) := by decide +kernel
theorem dX10_gate_35 : decode cX10_gate 35 = .ok (.aload 4, 2) := by decide +kernel
theorem dX10_gate_37 : decode cX10_gate 37 = .ok (.getfield 89, 3) := by decide +kernel
theorem dX10_gate_40 : decode cX10_gate 40 = .ok (.ireturn, 1) := by decide +kernel
def fX10_gate (o : Nat) (v1 : Int32) (v2 : Int32) (h : Hz) : Option (Int32 × Hz) := (b1 (gA 10 0 o h) fun a1 => (b1 (tg 6 a1 h) fun _ => (b2 (fX6_ever a1 v2 h) fun r3 s4 => (oe r3 (some ((-1), s4)) fun a5 => (b1 (gA 10 0 o s4) fun a6 => (b1 (tg 6 a6 s4) fun _ => (b2 (fX6_gateAt a6 v1 (some a5) s4) fun r8 s9 => (oe r8 (some ((-1), s9)) fun a10 => (b1 (gI 5 0 a10 s9) fun x11 => some (x11, s9))))))))))
set_option maxHeartbeats 4000000 in
set_option maxRecDepth 100000 in
theorem wX10_gate_0 {r0 : Int32} {h0 : Hz} (X : zX A D cy p s m args c cX10_gate RX10 5) (hlk : meth.locks = false) (hr : meth.sig.returnType = (some .int)) (o : Nat) (v1 : Int32) (v2 : Int32) (h : Hz) (H : Heap) (locs : List Loc) (ls : Array Slot) (hl : lv_has ls 5 [(0, .ref o), (1, .int v1), (2, .int v2)]) (hW : zW A cy D h H) (hS : va_S A s.heap H locs) (h : fX10_gate o v1 v2 h = some (r0, h0)) : W p l e ({ frames := 2, cells := 0, slots := 0, locals := 46 } : Room) s m args below meth c H locs 0 0 (MQ below (va_Qi (fun r1 u => r1 = r0 ∧ u = h0) (zB A D cy) A) args s 0 0 A) (F0 m 0 ls []) := by
  obtain ⟨hx, hb, hts, hown, hK9, hml, hN9, hA9⟩ := id X
  unfold fX10_gate at h
  refine lv_aload_n hx hb dX10_gate_0 rfl (lv_at hl 0 rfl) ?_
  replace h := b1_some h
  obtain ⟨a1, ga1, h⟩ := h
  refine z_getA X hW ga1 kX10 (by decide) (by decide) kf_X10_10 dX10_gate_1 ?_
  refine lv_iload_n hx hb dX10_gate_4 rfl (lv_at hl 2 rfl) ?_
  replace h := b1_some h
  obtain ⟨q2, gq2, h⟩ := h
  replace h := b2_some h
  obtain ⟨r3, s4, gs4, h⟩ := h
  refine z_callVq (rest := []) X hW hS (cX6_ever_met gs4) kb_X6_ever kv_X6_ever kl_X10_160 (it_v gq2).1 kX6 rfl rfl ⟨Nat.le_of_ble_eq_true rfl, Nat.le_of_ble_eq_true rfl⟩ rfl rfl (by decide) hl.1 dX10_gate_5 ⟨(by decide), (by decide)⟩ (fun H locs hW hS => ?_)
  refine z_astore_n (lv' := [(3, va_rf r3), (0, .ref o), (1, .int v1), (2, .int v2)]) hx hb dX10_gate_8 rfl hl (by decide) rfl (fun ls hl => ?_)
  refine z_aload_n hx hb dX10_gate_9 rfl (lv_at hl 0 rfl) ?_
  cases r3 with
  | none =>
    replace h := oe_n h
    have hl : lv_has ls 5 [(3, .null), (0, .ref o), (1, .int v1), (2, .int v2)] := hl
    refine lv_ifnonnullN hx hb dX10_gate_10 ?_
    refine lv_iconst (v := (-1)) hx hb dX10_gate_13 (by decide) ?_
    exact z_eti X hlk hr hW hS h (by decide) (by decide) dX10_gate_14
  | some a5 =>
    replace h := oe_s h
    have hl : lv_has ls 5 [(3, .ref a5), (0, .ref o), (1, .int v1), (2, .int v2)] := hl
    refine lv_ifnonnull (tgt := 15) hx hb dX10_gate_10 (by decide) ?_
    refine lv_aload_n hx hb dX10_gate_15 rfl (lv_at hl 1 rfl) ?_
    replace h := b1_some h
    obtain ⟨a6, ga6, h⟩ := h
    refine z_getA X hW ga6 kX10 (by decide) (by decide) kf_X10_10 dX10_gate_16 ?_
    refine lv_iload_n hx hb dX10_gate_19 rfl (lv_at hl 2 rfl) ?_
    refine lv_aload_n hx hb dX10_gate_20 rfl (lv_at hl 0 rfl) ?_
    replace h := b1_some h
    obtain ⟨q7, gq7, h⟩ := h
    replace h := b2_some h
    obtain ⟨r8, s9, gs9, h⟩ := h
    refine z_callVq (rest := []) X hW hS (cX6_gateAt_met gs9) kb_X6_gateAt kv_X6_gateAt kl_X10_187 (it_v gq7).1 kX6 rfl rfl ⟨Nat.le_of_ble_eq_true rfl, Nat.le_of_ble_eq_true rfl⟩ rfl rfl (by decide) hl.1 dX10_gate_21 ⟨(by decide), (by decide)⟩ (fun H locs hW hS => ?_)
    refine z_astore (lv' := [(4, va_rf r8), (3, .ref a5), (0, .ref o), (1, .int v1), (2, .int v2)]) hx hb dX10_gate_24 hl (by decide) rfl (fun ls hl => ?_)
    refine z_aload hx hb dX10_gate_26 (lv_at hl 0 rfl) ?_
    cases r8 with
    | none =>
      replace h := oe_n h
      have hl : lv_has ls 5 [(4, .null), (3, .ref a5), (0, .ref o), (1, .int v1), (2, .int v2)] := hl
      refine lv_ifnonnullN hx hb dX10_gate_28 ?_
      refine lv_iconst (v := (-1)) hx hb dX10_gate_31 (by decide) ?_
      refine lv_goto (tgt := 40) hx hb dX10_gate_32 (by decide) ?_
      exact z_eti X hlk hr hW hS h (by decide) (by decide) dX10_gate_40
    | some a10 =>
      replace h := oe_s h
      have hl : lv_has ls 5 [(4, .ref a10), (3, .ref a5), (0, .ref o), (1, .int v1), (2, .int v2)] := hl
      refine lv_ifnonnull (tgt := 35) hx hb dX10_gate_28 (by decide) ?_
      refine lv_aload hx hb dX10_gate_35 (lv_at hl 0 rfl) ?_
      replace h := b1_some h
      obtain ⟨x11, gx11, h⟩ := h
      refine z_getI X hW gx11 kX5 (by decide) (by decide) kf_X10_89 dX10_gate_37 ?_
      exact z_eti X hlk hr hW hS h (by decide) (by decide) dX10_gate_40

set_option maxHeartbeats 4000000 in
set_option maxRecDepth 100000 in
theorem cX10_gate_met {l : Launch} {A : Nat → Prop} {D : va_G} {cy : Nat → ClassId} {r0 : Int32} {h0 : Hz} {o : Nat} {v1 : Int32} {v2 : Int32} {h : Hz} (g : fX10_gate o v1 v2 h = some (r0, h0)) : Met l yX10_gate (Cond.code yX10_gate cX10_gate 5 (some .int) :: wT) ({ frames := 2, cells := 0, slots := 0, locals := 46 } : Room) (va_Pc [.ref o, .int v1, .int v2] (zS A D cy h)) (va_Qi (fun r1 u => r1 = r0 ∧ u = h0) (zB A D cy) A) 0 0 A := by
  refine Met.ofW (cc := cX10_gate) (maxL := 5) (ret := (some .int)) (by decide) rfl ?_
  intro p e s m args below meth c s₁ B hml hv
  obtain ⟨rfl, hW, hK, hN, hA⟩ := hv
  have X : zX A D cy p s m _ c cX10_gate RX10 5 := ⟨B.exec, B.bytes, fun w hw => atoms_spec (ws := Cond.code yX10_gate cX10_gate 5 (some .int) :: wT) B.pre w (List.mem_cons_of_mem _ hw), findClass_of_methodNamed B.named, hK, hml, hN, hA⟩
  have hl := lv_entry [.ref o, .int v1, .int v2] (n := 5) (Nat.le_of_ble_eq_true rfl)
  rw [lg_entry_eq]
  generalize (lg_sl [.ref o, .int v1, .int v2] ++ List.replicate (5 - (lg_sl [.ref o, .int v1, .int v2]).length) Slot.unset).toArray = ls at hl ⊢
  have hl : lv_has ls 5 [(0, .ref o), (1, .int v1), (2, .int v2)] := hl
  exact wX10_gate_0 X B.notSynchronized B.returns o v1 v2 _ _ _ _ (lv_sub hl [0, 1, 2] rfl) hW va_S.rf g

theorem dX10_sendName_0 : decode cX10_sendName 0 = .ok (.aload_n 0, 1) := by decide +kernel
theorem dX10_sendName_1 : decode cX10_sendName 1 = .ok (.getfield 19, 3) := by decide +kernel
theorem dX10_sendName_4 : decode cX10_sendName 4 = .ok (.iconst 1, 1) := by decide +kernel
theorem dX10_sendName_5 : decode cX10_sendName 5 = .ok (.invokevirtual 238, 3) := by decide +kernel
theorem dX10_sendName_8 : decode cX10_sendName 8 = .ok (.ifCond .ne 5, 3) := by decide +kernel
theorem dX10_sendName_11 : decode cX10_sendName 11 = .ok (.iconst (-1), 1) := by decide +kernel
theorem dX10_sendName_12 : decode cX10_sendName 12 = .ok (.ireturn, 1) := by decide +kernel
theorem dX10_sendName_13 : decode cX10_sendName 13 = .ok (.aload_n 1, 1) := by decide +kernel
theorem dX10_sendName_14 : decode cX10_sendName 14 = .ok (.getfield 173, 3) := by decide +kernel
theorem dX10_sendName_17 : decode cX10_sendName 17 = .ok (.iconst 3, 1) := by decide +kernel
theorem dX10_sendName_18 : decode cX10_sendName 18 = .ok (.if_icmp .eq 31, 3) := by decide +kernel
theorem dX10_sendName_21 : decode cX10_sendName 21 = .ok (.aload_n 1, 1) := by decide +kernel
theorem dX10_sendName_22 : decode cX10_sendName 22 = .ok (.dup, 1) := by decide +kernel
theorem dX10_sendName_23 : decode cX10_sendName 23 = .ok (.getfield 163, 3) := by decide +kernel
theorem dX10_sendName_26 : decode cX10_sendName 26 = .ok (.bipush 64, 2) := by decide +kernel
theorem dX10_sendName_28 : decode cX10_sendName 28 = .ok (.iadd, 1) := by decide +kernel
theorem dX10_sendName_29 : decode cX10_sendName 29 = .ok (.putfield 163, 3) := by decide +kernel
theorem dX10_sendName_32 : decode cX10_sendName 32 = .ok (.aload_n 0, 1) := by decide +kernel
theorem dX10_sendName_33 : decode cX10_sendName 33 = .ok (.getfield 19, 3) := by decide +kernel
theorem dX10_sendName_36 : decode cX10_sendName 36 = .ok (.aload_n 1, 1) := by decide +kernel
theorem dX10_sendName_37 : decode cX10_sendName 37 = .ok (.getfield 109, 3) := by decide +kernel
theorem dX10_sendName_40 : decode cX10_sendName 40 = .ok (.aload_n 1, 1) := by decide +kernel
theorem dX10_sendName_41 : decode cX10_sendName 41 = .ok (.bipush 64, 2) := by decide +kernel
theorem dX10_sendName_43 : decode cX10_sendName 43 = .ok (.aload_n 2, 1) := by decide +kernel
theorem dX10_sendName_44 : decode cX10_sendName 44 = .ok (.iload_n 3, 1) := by decide +kernel
theorem dX10_sendName_45 : decode cX10_sendName 45 = .ok (.invokevirtual 317, 3) := by decide +kernel
theorem dX10_sendName_48 : decode cX10_sendName 48 = .ok (.ireturn, 1) := by decide +kernel
theorem dX10_sendName_49 : decode cX10_sendName 49 = .ok (.aload_n 1, 1) := by decide +kernel
theorem dX10_sendName_50 : decode cX10_sendName 50 = .ok (.getfield 180, 3) := by decide +kernel
theorem dX10_sendName_53 : decode cX10_sendName 53 = .ok (.ifnonnull 5, 3) := by decide +kernel
theorem dX10_sendName_56 : decode cX10_sendName 56 = .ok (.iconst (-1), 1) := by decide +kernel
theorem dX10_sendName_57 : decode cX10_sendName 57 = .ok (.ireturn, 1) := by decide +kernel
theorem dX10_sendName_58 : decode cX10_sendName 58 = .ok (.aload_n 1, 1) := by decide +kernel
theorem dX10_sendName_59 : decode cX10_sendName 59 = .ok (.getfield 184, 3) := by decide +kernel
theorem dX10_sendName_62 : decode cX10_sendName 62 = .ok (.iconst 2, 1) := by decide +kernel
theorem dX10_sendName_63 : decode cX10_sendName 63 = .ok (.if_icmp .ge 43, 3) := by decide +kernel
theorem dX10_sendName_66 : decode cX10_sendName 66 = .ok (.aload_n 0, 1) := by decide +kernel
theorem dX10_sendName_67 : decode cX10_sendName 67 = .ok (.getfield 26, 3) := by decide +kernel
theorem dX10_sendName_70 : decode cX10_sendName 70 = .ok (.aload_n 1, 1) := by decide +kernel
theorem dX10_sendName_71 : decode cX10_sendName 71 = .ok (.aload_n 2, 1) := by decide +kernel
theorem dX10_sendName_72 : decode cX10_sendName 72 = .ok (.iload_n 3, 1) := by decide +kernel
theorem dX10_sendName_73 : decode cX10_sendName 73 = .ok (.invokevirtual 321, 3) := by decide +kernel
theorem dX10_sendName_76 : decode cX10_sendName 76 = .ok (.ifCond .ne 5, 3) := by decide +kernel
theorem dX10_sendName_79 : decode cX10_sendName 79 = .ok (.iconst (-1), 1) := by decide +kernel
theorem dX10_sendName_80 : decode cX10_sendName 80 = .ok (.ireturn, 1) := by decide +kernel
theorem dX10_sendName_81 : decode cX10_sendName 81 = .ok (.aload_n 0, 1) := by decide +kernel
theorem dX10_sendName_82 : decode cX10_sendName 82 = .ok (.getfield 19, 3) := by decide +kernel
theorem dX10_sendName_85 : decode cX10_sendName 85 = .ok (.iconst 1, 1) := by decide +kernel
theorem dX10_sendName_86 : decode cX10_sendName 86 = .ok (.aload_n 1, 1) := by decide +kernel
theorem dX10_sendName_87 : decode cX10_sendName 87 = .ok (.getfield 109, 3) := by decide +kernel
theorem dX10_sendName_90 : decode cX10_sendName 90 = .ok (.aload_n 1, 1) := by decide +kernel
theorem dX10_sendName_91 : decode cX10_sendName 91 = .ok (.getfield 180, 3) := by decide +kernel
theorem dX10_sendName_94 : decode cX10_sendName 94 = .ok (.getfield 109, 3) := by decide +kernel
theorem dX10_sendName_97 : decode cX10_sendName 97 = .ok (.aload_n 1, 1) := by decide +kernel
theorem dX10_sendName_98 : decode cX10_sendName 98 = .ok (.getfield 180, 3) := by decide +kernel
theorem dX10_sendName_101 : decode cX10_sendName 101 = .ok (.iconst 0, 1) := by decide +kernel
theorem dX10_sendName_102 : decode cX10_sendName 102 = .ok (.invokevirtual 324, 3) := by decide +kernel
theorem dX10_sendName_105 : decode cX10_sendName 105 = .ok (.ireturn, 1) := by decide +kernel
theorem dX10_sendName_106 : decode cX10_sendName 106 = .ok (.aload_n 1, 1) := by decide +kernel
theorem dX10_sendName_107 : decode cX10_sendName 107 = .ok (.getfield 184, 3) := by decide +kernel
theorem dX10_sendName_110 : decode cX10_sendName 110 = .ok (.iconst 2, 1) := by decide +kernel
theorem dX10_sendName_111 : decode cX10_sendName 111 = .ok (.idiv, 1) := by decide +kernel
theorem dX10_sendName_112 : decode cX10_sendName 112 = .ok (.istore 4, 2) := by decide +kernel
theorem dX10_sendName_114 : decode cX10_sendName 114 = .ok (.aload_n 1, 1) := by decide +kernel
theorem dX10_sendName_115 : decode cX10_sendName 115 = .ok (.dup, 1) := by decide +kernel
theorem dX10_sendName_116 : decode cX10_sendName 116 = .ok (.getfield 184, 3) := by decide +kernel
theorem dX10_sendName_119 : decode cX10_sendName 119 = .ok (.iload 4, 2) := by decide +kernel
theorem dX10_sendName_121 : decode cX10_sendName 121 = .ok (.isub, 1) := by decide +kernel
theorem dX10_sendName_122 : decode cX10_sendName 122 = .ok (.putfield 184, 3) := by decide +kernel
theorem dX10_sendName_125 : decode cX10_sendName 125 = .ok (.aload_n 0, 1) := by decide +kernel
theorem dX10_sendName_126 : decode cX10_sendName 126 = .ok (.getfield 19, 3) := by decide +kernel
theorem dX10_sendName_129 : decode cX10_sendName 129 = .ok (.aload_n 1, 1) := by decide +kernel
theorem dX10_sendName_130 : decode cX10_sendName 130 = .ok (.getfield 109, 3) := by decide +kernel
theorem dX10_sendName_133 : decode cX10_sendName 133 = .ok (.aload_n 1, 1) := by decide +kernel
theorem dX10_sendName_134 : decode cX10_sendName 134 = .ok (.getfield 180, 3) := by decide +kernel
theorem dX10_sendName_137 : decode cX10_sendName 137 = .ok (.iload 4, 2) := by decide +kernel
theorem dX10_sendName_139 : decode cX10_sendName 139 = .ok (.aload_n 2, 1) := by decide +kernel
theorem dX10_sendName_140 : decode cX10_sendName 140 = .ok (.iload_n 3, 1) := by decide +kernel
theorem dX10_sendName_141 : decode cX10_sendName 141 = .ok (.invokevirtual 317, 3) := by decide +kernel
theorem dX10_sendName_144 : decode cX10_sendName 144 = .ok (.ireturn, 1) := by decide +kernel
def fX10_sendName (o : Nat) (v1 : Option Nat) (v2 : Option Nat) (v3 : Int32) (h : Hz) : Option (Int32 × Hz) := (b1 (gA 10 1 o h) fun a1 => (b1 (tg 2 a1 h) fun _ => (b2 (fX2_hasRoom a1 1 h) fun x3 s4 => (if x3 = 0 then some ((-1), s4) else b1 v1 fun a6 => (b1 (gI 5 1 a6 s4) fun x7 => (if x7 = 3 then (b1 (gP 5 6 a6 s4) fun r9 => (oe r9 (some ((-1), s4)) fun a10 => (b1 (gI 5 7 a6 s4) fun x11 => (if 2 ≤ x11 then (b1 (gI 5 7 a6 s4) fun x13 => (b1 (gI 5 7 a6 s4) fun x14 => (b1 (pI 5 7 a6 (x14 - (x13 / 2)) s4) fun s15 => (b1 (gA 10 1 o s15) fun a16 => (b1 (gI 5 2 a6 s15) fun x17 => (b1 (gP 5 6 a6 s15) fun r18 => (b1 (tg 2 a16 s15) fun _ => (b2 (fX2_fileName a16 x17 r18 (x13 / 2) v2 v3 s15) fun x20 s21 => some (x20, s21))))))))) else (b1 (gA 10 2 o s4) fun a22 => (b1 (tg 7 a22 s4) fun _ => (b2 (fX7_add a22 (some a6) v2 v3 s4) fun x24 s25 => (if x24 = 0 then some ((-1), s25) else (b1 (gA 10 1 o s25) fun a27 => (b1 (gI 5 2 a6 s25) fun x28 => (b1 (gP 5 6 a6 s25) fun r29 => b1 r29 fun a30 => (b1 (gI 5 2 a30 s25) fun x31 => (b1 (gP 5 6 a6 s25) fun r32 => (b1 (tg 2 a27 s25) fun _ => (b2 (fX2_fileOfWeight a27 1 x28 x31 r32 0 s25) fun x34 s35 => some (x34, s35)))))))))))))))) else (b1 (gI 5 8 a6 s4) fun x36 => (b1 (pI 5 8 a6 (x36 + 64) s4) fun s37 => (b1 (gA 10 1 o s37) fun a38 => (b1 (gI 5 2 a6 s37) fun x39 => (b1 (tg 2 a38 s37) fun _ => (b2 (fX2_fileName a38 x39 (some a6) 64 v2 v3 s37) fun x41 s42 => some (x41, s42)))))))))))))
set_option maxHeartbeats 4000000 in
set_option maxRecDepth 100000 in
theorem wX10_sendName_0 {r0 : Int32} {h0 : Hz} (X : zX A D cy p s m args c cX10_sendName RX10 5) (hlk : meth.locks = false) (hr : meth.sig.returnType = (some .int)) (o : Nat) (v1 : Option Nat) (v2 : Option Nat) (v3 : Int32) (h : Hz) (H : Heap) (locs : List Loc) (ls : Array Slot) (hl : lv_has ls 5 [(0, .ref o), (1, va_rf v1), (2, va_rf v2), (3, .int v3)]) (hW : zW A cy D h H) (hS : va_S A s.heap H locs) (h : fX10_sendName o v1 v2 v3 h = some (r0, h0)) : W p l e ({ frames := 3, cells := 2, slots := 13, locals := 62 } : Room) s m args below meth c H locs 0 0 (MQ below (va_Qi (fun r1 u => r1 = r0 ∧ u = h0) (zB A D cy) A) args s 2 13 A) (F0 m 0 ls []) := by
  obtain ⟨hx, hb, hts, hown, hK9, hml, hN9, hA9⟩ := id X
  unfold fX10_sendName at h
  refine lv_aload_n hx hb dX10_sendName_0 rfl (lv_at hl 0 rfl) ?_
  replace h := b1_some h
  obtain ⟨a1, ga1, h⟩ := h
  refine z_getA X hW ga1 kX10 (by decide) (by decide) kf_X10_19 dX10_sendName_1 ?_
  refine lv_iconst (v := 1) hx hb dX10_sendName_4 (by decide) ?_
  replace h := b1_some h
  obtain ⟨q2, gq2, h⟩ := h
  replace h := b2_some h
  obtain ⟨x3, s4, gs4, h⟩ := h
  refine z_callVi (rest := []) X hW hS (cX2_hasRoom_met gs4) kb_X2_hasRoom kv_X2_hasRoom kl_X10_238 (it_v gq2).1 kX2 rfl rfl ⟨Nat.le_of_ble_eq_true rfl, Nat.le_of_ble_eq_true rfl⟩ rfl rfl (by decide) hl.1 dX10_sendName_5 ⟨(by decide), (by decide)⟩ (fun H locs hW hS => ?_)
  refine lv_if_ne (tgt := 13) hx hb dX10_sendName_8 (by decide) (fun c5 => ?_) (fun c5 => ?_)
  · replace h := it_f h c5
    refine z_aload_n hx hb dX10_sendName_13 rfl (lv_at hl 1 rfl) ?_
    replace h := b1_some h
    obtain ⟨a6, ea6, h⟩ := h
    subst ea6
    replace h := b1_some h
    obtain ⟨x7, gx7, h⟩ := h
    refine z_getI X hW gx7 kX5 (by decide) (by decide) kf_X10_173 dX10_sendName_14 ?_
    refine lv_iconst (v := 3) hx hb dX10_sendName_17 (by decide) ?_
    refine lv_icmp_eq (tgt := 49) hx hb dX10_sendName_18 (by decide) (fun c8 => ?_) (fun c8 => ?_)
    · replace h := it_t h c8
      refine lv_aload_n hx hb dX10_sendName_49 rfl (lv_at hl 1 rfl) ?_
      replace h := b1_some h
      obtain ⟨r9, gr9, h⟩ := h
      refine z_getP X hW gr9 kX5 (by decide) (by decide) kf_X10_180 dX10_sendName_50 ?_
      cases r9 with
      | none =>
        replace h := oe_n h
        have hl : lv_has ls 5 [(0, .ref o), (1, .ref a6), (2, va_rf v2), (3, .int v3)] := hl
        refine lv_ifnonnullN hx hb dX10_sendName_53 ?_
        refine lv_iconst (v := (-1)) hx hb dX10_sendName_56 (by decide) ?_
        exact z_eti X hlk hr hW hS h (by decide) (by decide) dX10_sendName_57
      | some a10 =>
        replace h := oe_s h
        have hl : lv_has ls 5 [(0, .ref o), (1, .ref a6), (2, va_rf v2), (3, .int v3)] := hl
        refine lv_ifnonnull (tgt := 58) hx hb dX10_sendName_53 (by decide) ?_
        refine lv_aload_n hx hb dX10_sendName_58 rfl (lv_at hl 1 rfl) ?_
        replace h := b1_some h
        obtain ⟨x11, gx11, h⟩ := h
        refine z_getI X hW gx11 kX5 (by decide) (by decide) kf_X10_184 dX10_sendName_59 ?_
        refine lv_iconst (v := 2) hx hb dX10_sendName_62 (by decide) ?_
        refine lv_icmp_ge (tgt := 106) hx hb dX10_sendName_63 (by decide) (fun c12 => ?_) (fun c12 => ?_)
        · replace h := it_t h c12
          refine lv_aload_n hx hb dX10_sendName_106 rfl (lv_at hl 1 rfl) ?_
          replace h := b1_some h
          obtain ⟨x13, gx13, h⟩ := h
          refine z_getI X hW gx13 kX5 (by decide) (by decide) kf_X10_184 dX10_sendName_107 ?_
          refine lv_iconst (v := 2) hx hb dX10_sendName_110 (by decide) ?_
          refine lv_idiv hx hb dX10_sendName_111 (by decide) ?_
          refine lv_istore (lv' := [(4, .int (x13 / 2)), (0, .ref o), (1, .ref a6), (2, va_rf v2), (3, .int v3)]) hx hb dX10_sendName_112 hl (by decide) rfl (fun ls hl => ?_)
          refine lv_aload_n hx hb dX10_sendName_114 rfl (lv_at hl 2 rfl) ?_
          refine lv_dup hx hb dX10_sendName_115 rfl ?_
          replace h := b1_some h
          obtain ⟨x14, gx14, h⟩ := h
          refine z_getI X hW gx14 kX5 (by decide) (by decide) kf_X10_184 dX10_sendName_116 ?_
          refine lv_iload hx hb dX10_sendName_119 (lv_at hl 0 rfl) ?_
          refine lv_isub hx hb dX10_sendName_121 ?_
          replace h := b1_some h
          obtain ⟨s15, gs15, h⟩ := h
          refine z_putI X hW hS gs15 kX5 (by decide) (by decide) rfl (Or.inl rfl) kf_X10_184 dX10_sendName_122 (fun H locs hW hS => ?_)
          refine lv_aload_n hx hb dX10_sendName_125 rfl (lv_at hl 1 rfl) ?_
          replace h := b1_some h
          obtain ⟨a16, ga16, h⟩ := h
          refine z_getA X hW ga16 kX10 (by decide) (by decide) kf_X10_19 dX10_sendName_126 ?_
          refine lv_aload_n hx hb dX10_sendName_129 rfl (lv_at hl 2 rfl) ?_
          replace h := b1_some h
          obtain ⟨x17, gx17, h⟩ := h
          refine z_getI X hW gx17 kX5 (by decide) (by decide) kf_X10_109 dX10_sendName_130 ?_
          refine lv_aload_n hx hb dX10_sendName_133 rfl (lv_at hl 2 rfl) ?_
          replace h := b1_some h
          obtain ⟨r18, gr18, h⟩ := h
          refine z_getP X hW gr18 kX5 (by decide) (by decide) kf_X10_180 dX10_sendName_134 ?_
          refine lv_iload hx hb dX10_sendName_137 (lv_at hl 0 rfl) ?_
          refine z_aload_n hx hb dX10_sendName_139 rfl (lv_at hl 3 rfl) ?_
          refine lv_iload_n hx hb dX10_sendName_140 rfl (lv_at hl 4 rfl) ?_
          replace h := b1_some h
          obtain ⟨q19, gq19, h⟩ := h
          replace h := b2_some h
          obtain ⟨x20, s21, gs21, h⟩ := h
          refine z_callVi (rest := []) X hW hS (cX2_fileName_met gs21) kb_X2_fileName kv_X2_fileName kl_X10_317 (it_v gq19).1 kX2 rfl rfl ⟨Nat.le_of_ble_eq_true rfl, Nat.le_of_ble_eq_true rfl⟩ rfl rfl (by decide) hl.1 dX10_sendName_141 ⟨(by decide), (by decide)⟩ (fun H locs hW hS => ?_)
          exact z_eti X hlk hr hW hS h (by decide) (by decide) dX10_sendName_144
        · replace h := it_f h c12
          refine lv_aload_n hx hb dX10_sendName_66 rfl (lv_at hl 0 rfl) ?_
          replace h := b1_some h
          obtain ⟨a22, ga22, h⟩ := h
          refine z_getA X hW ga22 kX10 (by decide) (by decide) kf_X10_26 dX10_sendName_67 ?_
          refine lv_aload_n hx hb dX10_sendName_70 rfl (lv_at hl 1 rfl) ?_
          refine z_aload_n hx hb dX10_sendName_71 rfl (lv_at hl 2 rfl) ?_
          refine lv_iload_n hx hb dX10_sendName_72 rfl (lv_at hl 3 rfl) ?_
          replace h := b1_some h
          obtain ⟨q23, gq23, h⟩ := h
          replace h := b2_some h
          obtain ⟨x24, s25, gs25, h⟩ := h
          refine z_callVi (rest := []) X hW hS (cX7_add_met gs25) kb_X7_add kv_X7_add kl_X10_321 (it_v gq23).1 kX7 rfl rfl ⟨Nat.le_of_ble_eq_true rfl, Nat.le_of_ble_eq_true rfl⟩ rfl rfl (by decide) hl.1 dX10_sendName_73 ⟨(by decide), (by decide)⟩ (fun H locs hW hS => ?_)
          refine lv_if_ne (tgt := 81) hx hb dX10_sendName_76 (by decide) (fun c26 => ?_) (fun c26 => ?_)
          · replace h := it_f h c26
            refine lv_aload_n hx hb dX10_sendName_81 rfl (lv_at hl 0 rfl) ?_
            replace h := b1_some h
            obtain ⟨a27, ga27, h⟩ := h
            refine z_getA X hW ga27 kX10 (by decide) (by decide) kf_X10_19 dX10_sendName_82 ?_
            refine lv_iconst (v := 1) hx hb dX10_sendName_85 (by decide) ?_
            refine lv_aload_n hx hb dX10_sendName_86 rfl (lv_at hl 1 rfl) ?_
            replace h := b1_some h
            obtain ⟨x28, gx28, h⟩ := h
            refine z_getI X hW gx28 kX5 (by decide) (by decide) kf_X10_109 dX10_sendName_87 ?_
            refine lv_aload_n hx hb dX10_sendName_90 rfl (lv_at hl 1 rfl) ?_
            replace h := b1_some h
            obtain ⟨r29, gr29, h⟩ := h
            refine z_getP X hW gr29 kX5 (by decide) (by decide) kf_X10_180 dX10_sendName_91 ?_
            replace h := b1_some h
            obtain ⟨a30, ea30, h⟩ := h
            subst ea30
            replace h := b1_some h
            obtain ⟨x31, gx31, h⟩ := h
            refine z_getI X hW gx31 kX5 (by decide) (by decide) kf_X10_109 dX10_sendName_94 ?_
            refine lv_aload_n hx hb dX10_sendName_97 rfl (lv_at hl 1 rfl) ?_
            replace h := b1_some h
            obtain ⟨r32, gr32, h⟩ := h
            refine z_getP X hW gr32 kX5 (by decide) (by decide) kf_X10_180 dX10_sendName_98 ?_
            refine lv_iconst (v := 0) hx hb dX10_sendName_101 (by decide) ?_
            replace h := b1_some h
            obtain ⟨q33, gq33, h⟩ := h
            replace h := b2_some h
            obtain ⟨x34, s35, gs35, h⟩ := h
            refine z_callVi (rest := []) X hW hS (cX2_fileOfWeight_met gs35) kb_X2_fileOfWeight kv_X2_fileOfWeight kl_X10_324 (it_v gq33).1 kX2 rfl rfl ⟨Nat.le_of_ble_eq_true rfl, Nat.le_of_ble_eq_true rfl⟩ rfl rfl (by decide) hl.1 dX10_sendName_102 ⟨(by decide), (by decide)⟩ (fun H locs hW hS => ?_)
            exact z_eti X hlk hr hW hS h (by decide) (by decide) dX10_sendName_105
          · replace h := it_t h c26
            refine lv_iconst (v := (-1)) hx hb dX10_sendName_79 (by decide) ?_
            exact z_eti X hlk hr hW hS h (by decide) (by decide) dX10_sendName_80
    · replace h := it_f h c8
      refine lv_aload_n hx hb dX10_sendName_21 rfl (lv_at hl 1 rfl) ?_
      refine lv_dup hx hb dX10_sendName_22 rfl ?_
      replace h := b1_some h
      obtain ⟨x36, gx36, h⟩ := h
      refine z_getI X hW gx36 kX5 (by decide) (by decide) kf_X10_163 dX10_sendName_23 ?_
      refine lv_bipush (v := 64) hx hb dX10_sendName_26 (by decide) ?_
      refine lv_iadd hx hb dX10_sendName_28 ?_
      replace h := b1_some h
      obtain ⟨s37, gs37, h⟩ := h
      refine z_putI X hW hS gs37 kX5 (by decide) (by decide) rfl (Or.inl rfl) kf_X10_163 dX10_sendName_29 (fun H locs hW hS => ?_)
      refine lv_aload_n hx hb dX10_sendName_32 rfl (lv_at hl 0 rfl) ?_
      replace h := b1_some h
      obtain ⟨a38, ga38, h⟩ := h
      refine z_getA X hW ga38 kX10 (by decide) (by decide) kf_X10_19 dX10_sendName_33 ?_
      refine lv_aload_n hx hb dX10_sendName_36 rfl (lv_at hl 1 rfl) ?_
      replace h := b1_some h
      obtain ⟨x39, gx39, h⟩ := h
      refine z_getI X hW gx39 kX5 (by decide) (by decide) kf_X10_109 dX10_sendName_37 ?_
      refine lv_aload_n hx hb dX10_sendName_40 rfl (lv_at hl 1 rfl) ?_
      refine lv_bipush (v := 64) hx hb dX10_sendName_41 (by decide) ?_
      refine z_aload_n hx hb dX10_sendName_43 rfl (lv_at hl 2 rfl) ?_
      refine lv_iload_n hx hb dX10_sendName_44 rfl (lv_at hl 3 rfl) ?_
      replace h := b1_some h
      obtain ⟨q40, gq40, h⟩ := h
      replace h := b2_some h
      obtain ⟨x41, s42, gs42, h⟩ := h
      refine z_callVi (rest := []) X hW hS (cX2_fileName_met gs42) kb_X2_fileName kv_X2_fileName kl_X10_317 (it_v gq40).1 kX2 rfl rfl ⟨Nat.le_of_ble_eq_true rfl, Nat.le_of_ble_eq_true rfl⟩ rfl rfl (by decide) hl.1 dX10_sendName_45 ⟨(by decide), (by decide)⟩ (fun H locs hW hS => ?_)
      exact z_eti X hlk hr hW hS h (by decide) (by decide) dX10_sendName_48
  · replace h := it_t h c5
    refine lv_iconst (v := (-1)) hx hb dX10_sendName_11 (by decide) ?_
    exact z_eti X hlk hr hW hS h (by decide) (by decide) dX10_sendName_12

set_option maxHeartbeats 4000000 in
set_option maxRecDepth 100000 in
theorem cX10_sendName_met {l : Launch} {A : Nat → Prop} {D : va_G} {cy : Nat → ClassId} {r0 : Int32} {h0 : Hz} {o : Nat} {v1 : Option Nat} {v2 : Option Nat} {v3 : Int32} {h : Hz} (g : fX10_sendName o v1 v2 v3 h = some (r0, h0)) : Met l yX10_sendName (Cond.code yX10_sendName cX10_sendName 5 (some .int) :: wT) ({ frames := 3, cells := 2, slots := 13, locals := 62 } : Room) (va_Pc [.ref o, va_rf v1, va_rf v2, .int v3] (zS A D cy h)) (va_Qi (fun r1 u => r1 = r0 ∧ u = h0) (zB A D cy) A) 2 13 A := by
  refine Met.ofW (cc := cX10_sendName) (maxL := 5) (ret := (some .int)) (by decide) rfl ?_
  intro p e s m args below meth c s₁ B hml hv
  obtain ⟨rfl, hW, hK, hN, hA⟩ := hv
  have X : zX A D cy p s m _ c cX10_sendName RX10 5 := ⟨B.exec, B.bytes, fun w hw => atoms_spec (ws := Cond.code yX10_sendName cX10_sendName 5 (some .int) :: wT) B.pre w (List.mem_cons_of_mem _ hw), findClass_of_methodNamed B.named, hK, hml, hN, hA⟩
  cases v1 with
  | none =>
    cases v2 with
    | none =>
      have hl := lv_entry [.ref o, va_rf none, va_rf none, .int v3] (n := 5) (Nat.le_of_ble_eq_true rfl)
      rw [lg_entry_eq]
      generalize (lg_sl [.ref o, va_rf none, va_rf none, .int v3] ++ List.replicate (5 - (lg_sl [.ref o, va_rf none, va_rf none, .int v3]).length) Slot.unset).toArray = ls at hl ⊢
      have hl : lv_has ls 5 [(0, .ref o), (1, va_rf none), (2, va_rf none), (3, .int v3)] := hl
      exact wX10_sendName_0 X B.notSynchronized B.returns o none none v3 _ _ _ _ (lv_sub hl [0, 1, 2, 3] rfl) hW va_S.rf g
    | some v2 =>
      have hl := lv_entry [.ref o, va_rf none, va_rf (some v2), .int v3] (n := 5) (Nat.le_of_ble_eq_true rfl)
      rw [lg_entry_eq]
      generalize (lg_sl [.ref o, va_rf none, va_rf (some v2), .int v3] ++ List.replicate (5 - (lg_sl [.ref o, va_rf none, va_rf (some v2), .int v3]).length) Slot.unset).toArray = ls at hl ⊢
      have hl : lv_has ls 5 [(0, .ref o), (1, va_rf none), (2, va_rf (some v2)), (3, .int v3)] := hl
      exact wX10_sendName_0 X B.notSynchronized B.returns o none (some v2) v3 _ _ _ _ (lv_sub hl [0, 1, 2, 3] rfl) hW va_S.rf g
  | some v1 =>
    cases v2 with
    | none =>
      have hl := lv_entry [.ref o, va_rf (some v1), va_rf none, .int v3] (n := 5) (Nat.le_of_ble_eq_true rfl)
      rw [lg_entry_eq]
      generalize (lg_sl [.ref o, va_rf (some v1), va_rf none, .int v3] ++ List.replicate (5 - (lg_sl [.ref o, va_rf (some v1), va_rf none, .int v3]).length) Slot.unset).toArray = ls at hl ⊢
      have hl : lv_has ls 5 [(0, .ref o), (1, va_rf (some v1)), (2, va_rf none), (3, .int v3)] := hl
      exact wX10_sendName_0 X B.notSynchronized B.returns o (some v1) none v3 _ _ _ _ (lv_sub hl [0, 1, 2, 3] rfl) hW va_S.rf g
    | some v2 =>
      have hl := lv_entry [.ref o, va_rf (some v1), va_rf (some v2), .int v3] (n := 5) (Nat.le_of_ble_eq_true rfl)
      rw [lg_entry_eq]
      generalize (lg_sl [.ref o, va_rf (some v1), va_rf (some v2), .int v3] ++ List.replicate (5 - (lg_sl [.ref o, va_rf (some v1), va_rf (some v2), .int v3]).length) Slot.unset).toArray = ls at hl ⊢
      have hl : lv_has ls 5 [(0, .ref o), (1, va_rf (some v1)), (2, va_rf (some v2)), (3, .int v3)] := hl
      exact wX10_sendName_0 X B.notSynchronized B.returns o (some v1) (some v2) v3 _ _ _ _ (lv_sub hl [0, 1, 2, 3] rfl) hW va_S.rf g

theorem dX10_send_0 : decode cX10_send 0 = .ok (.aload_n 0, 1) := by decide +kernel
theorem dX10_send_1 : decode cX10_send 1 = .ok (.getfield 10, 3) := by decide +kernel
theorem dX10_send_4 : decode cX10_send 4 = .ok (.iload_n 1, 1) := by decide +kernel
theorem dX10_send_5 : decode cX10_send 5 = .ok (.invokevirtual 94, 3) := by decide +kernel
theorem dX10_send_8 : decode cX10_send 8 = .ok (.astore 4, 2) := by decide +kernel
theorem dX10_send_10 : decode cX10_send 10 = .ok (.aload_n 0, 1) := by decide +kernel
theorem dX10_send_11 : decode cX10_send 11 = .ok (.getfield 10, 3) := by decide +kernel
theorem dX10_send_14 : decode cX10_send 14 = .ok (.iload_n 2, 1) := by decide +kernel
theorem dX10_send_15 : decode cX10_send 15 = .ok (.invokevirtual 94, 3) := by decide +kernel
theorem dX10_send_18 : decode cX10_send 18 = .ok (.astore 5, 2) := by decide +kernel
theorem dX10_send_20 : decode cX10_send 20 = .ok (.aload 4, 2) := by decide +kernel
theorem dX10_send_22 : decode cX10_send 22 = .ok (.ifnull 8, 3) := by decide +kernel
theorem dX10_send_25 : decode cX10_send 25 = .ok (.aload 5, 2) := by decide +kernel
theorem dX10_send_27 : decode cX10_send 27 = .ok (.ifnonnull 9, 3) := by decide +kernel
theorem dX10_send_30 : decode cX10_send 30 = .ok (.aload_n 0, 1) := by decide +kernel
theorem dX10_send_31 : decode cX10_send 31 = .ok (.iconst (-1), 1) := by decide +kernel
theorem dX10_send_32 : decode cX10_send 32 = .ok (.invokevirtual 77, 3) := by decide +kernel
theorem dX10_send_35 : decode cX10_send 35 = .ok (.ireturn, 1) := by decide +kernel
theorem dX10_send_36 : decode cX10_send 36 = .ok (.aload 5, 2) := by decide +kernel
theorem dX10_send_38 : decode cX10_send 38 = .ok (.getfield 173, 3) := by decide +kernel
theorem dX10_send_41 : decode cX10_send 41 = .ok (.iconst 2, 1) := by decide +kernel
theorem dX10_send_42 : decode cX10_send 42 = .ok (.if_icmp .eq 10, 3) := by decide +kernel
theorem dX10_send_45 : decode cX10_send 45 = .ok (.aload_n 0, 1) := by decide +kernel
theorem dX10_send_46 : decode cX10_send 46 = .ok (.bipush (-2), 2) := by decide +kernel
theorem dX10_send_48 : decode cX10_send 48 = .ok (.invokevirtual 77, 3) := by decide +kernel
theorem dX10_send_51 : decode cX10_send 51 = .ok (.ireturn, 1) := by decide +kernel
theorem dX10_send_52 : decode cX10_send 52 = .ok (.aload 5, 2) := by decide +kernel
theorem dX10_send_54 : decode cX10_send 54 = .ok (.iload_n 3, 1) := by decide +kernel
theorem dX10_send_55 : decode cX10_send 55 = .ok (.invokevirtual 102, 3) := by decide +kernel
theorem dX10_send_58 : decode cX10_send 58 = .ok (.ifCond .ne 10, 3) := by decide +kernel
theorem dX10_send_61 : decode cX10_send 61 = .ok (.aload_n 0, 1) := by decide +kernel
theorem dX10_send_62 : decode cX10_send 62 = .ok (.bipush (-3), 2) := by decide +kernel
theorem dX10_send_64 : decode cX10_send 64 = .ok (.invokevirtual 77, 3) := by decide +kernel
theorem dX10_send_67 : decode cX10_send 67 = .ok (.ireturn, 1) := by decide +kernel
theorem dX10_send_68 : decode cX10_send 68 = .ok (.aload 4, 2) := by decide +kernel
theorem dX10_send_70 : decode cX10_send 70 = .ok (.getfield 109, 3) := by decide +kernel
theorem dX10_send_73 : decode cX10_send 73 = .ok (.aload 5, 2) := by decide +kernel
theorem dX10_send_75 : decode cX10_send 75 = .ok (.getfield 109, 3) := by decide +kernel
theorem dX10_send_78 : decode cX10_send 78 = .ok (.if_icmp .eq 12, 3) := by decide +kernel
theorem dX10_send_81 : decode cX10_send 81 = .ok (.aload_n 0, 1) := by decide +kernel
theorem dX10_send_82 : decode cX10_send 82 = .ok (.aload 4, 2) := by decide +kernel
theorem dX10_send_84 : decode cX10_send 84 = .ok (.invokevirtual 105, 3) := by decide +kernel
theorem dX10_send_87 : decode cX10_send 87 = .ok (.ifCond .ne 10, 3) := by decide +kernel
theorem dX10_send_90 : decode cX10_send 90 = .ok (.aload_n 0, 1) := by decide +kernel
theorem dX10_send_91 : decode cX10_send 91 = .ok (.bipush (-5), 2) := by decide +kernel
theorem dX10_send_93 : decode cX10_send 93 = .ok (.invokevirtual 77, 3) := by decide +kernel
theorem dX10_send_96 : decode cX10_send 96 = .ok (.ireturn, 1) := by decide +kernel
theorem dX10_send_97 : decode cX10_send 97 = .ok (.aload_n 0, 1) := by decide +kernel
theorem dX10_send_98 : decode cX10_send 98 = .ok (.aload 4, 2) := by decide +kernel
theorem dX10_send_100 : decode cX10_send 100 = .ok (.aload 5, 2) := by decide +kernel
theorem dX10_send_102 : decode cX10_send 102 = .ok (.iload_n 3, 1) := by decide +kernel
theorem dX10_send_103 : decode cX10_send 103 = .ok (.invokevirtual 191, 3) := by decide +kernel
theorem dX10_send_106 : decode cX10_send 106 = .ok (.istore 6, 2) := by decide +kernel
theorem dX10_send_108 : decode cX10_send 108 = .ok (.iload 6, 2) := by decide +kernel
theorem dX10_send_110 : decode cX10_send 110 = .ok (.iconst (-1), 1) := by decide +kernel
theorem dX10_send_111 : decode cX10_send 111 = .ok (.if_icmp .ne 10, 3) := by decide +kernel
theorem dX10_send_114 : decode cX10_send 114 = .ok (.aload_n 0, 1) := by decide +kernel
theorem dX10_send_115 : decode cX10_send 115 = .ok (.bipush (-6), 2) := by decide +kernel
theorem dX10_send_117 : decode cX10_send 117 = .ok (.invokevirtual 77, 3) := by decide +kernel
theorem dX10_send_120 : decode cX10_send 120 = .ok (.ireturn, 1) := by decide +kernel
theorem dX10_send_121 : decode cX10_send 121 = .ok (.aload_n 0, 1) := by decide +kernel
theorem dX10_send_122 : decode cX10_send 122 = .ok (.aload 4, 2) := by decide +kernel
theorem dX10_send_124 : decode cX10_send 124 = .ok (.getfield 109, 3) := by decide +kernel
theorem dX10_send_127 : decode cX10_send 127 = .ok (.invokevirtual 85, 3) := by decide +kernel
theorem dX10_send_130 : decode cX10_send 130 = .ok (.iload 6, 2) := by decide +kernel
theorem dX10_send_132 : decode cX10_send 132 = .ok (.ireturn, 1) := by decide +kernel
def fX10_send_30 (o : Nat) (h : Hz) : Option (Int32 × Hz) := (b1 (tg 10 o h) fun _ => (b2 (fX10_refuse o (-1) h) fun x2 s3 => some (x2, s3)))
set_option maxHeartbeats 4000000 in
set_option maxRecDepth 100000 in
theorem wX10_send_30 {r0 : Int32} {h0 : Hz} (X : zX A D cy p s m args c cX10_send RX10 7) (hlk : meth.locks = false) (hr : meth.sig.returnType = (some .int)) (o : Nat) (h : Hz) (H : Heap) (locs : List Loc) (ls : Array Slot) (hl : lv_has ls 7 [(0, .ref o)]) (hW : zW A cy D h H) (hS : va_S A s.heap H locs) (h : fX10_send_30 o h = some (r0, h0)) : W p l e ({ frames := 5, cells := 2, slots := 13, locals := 108 } : Room) s m args below meth c H locs 0 0 (MQ below (va_Qi (fun r1 u => r1 = r0 ∧ u = h0) (zB A D cy) A) args s 2 13 A) (F0 m 30 ls []) := by
  obtain ⟨hx, hb, hts, hown, hK9, hml, hN9, hA9⟩ := id X
  unfold fX10_send_30 at h
  refine lv_aload_n hx hb dX10_send_30 rfl (lv_at hl 0 rfl) ?_
  refine lv_iconst (v := (-1)) hx hb dX10_send_31 (by decide) ?_
  replace h := b1_some h
  obtain ⟨q1, gq1, h⟩ := h
  replace h := b2_some h
  obtain ⟨x2, s3, gs3, h⟩ := h
  refine z_callVi (rest := []) X hW hS (cX10_refuse_met gs3) kb_X10_refuse kv_X10_refuse kl_X10_77 (it_v gq1).1 kX10 rfl rfl ⟨Nat.le_of_ble_eq_true rfl, Nat.le_of_ble_eq_true rfl⟩ rfl rfl (by decide) hl.1 dX10_send_32 ⟨(by decide), (by decide)⟩ (fun H locs hW hS => ?_)
  exact z_eti X hlk hr hW hS h (by decide) (by decide) dX10_send_35

def fX10_send_90 (o : Nat) (h : Hz) : Option (Int32 × Hz) := (b1 (tg 10 o h) fun _ => (b2 (fX10_refuse o (-5) h) fun x2 s3 => some (x2, s3)))
set_option maxHeartbeats 4000000 in
set_option maxRecDepth 100000 in
theorem wX10_send_90 {r0 : Int32} {h0 : Hz} (X : zX A D cy p s m args c cX10_send RX10 7) (hlk : meth.locks = false) (hr : meth.sig.returnType = (some .int)) (o : Nat) (h : Hz) (H : Heap) (locs : List Loc) (ls : Array Slot) (hl : lv_has ls 7 [(0, .ref o)]) (hW : zW A cy D h H) (hS : va_S A s.heap H locs) (h : fX10_send_90 o h = some (r0, h0)) : W p l e ({ frames := 5, cells := 2, slots := 13, locals := 108 } : Room) s m args below meth c H locs 0 0 (MQ below (va_Qi (fun r1 u => r1 = r0 ∧ u = h0) (zB A D cy) A) args s 2 13 A) (F0 m 90 ls []) := by
  obtain ⟨hx, hb, hts, hown, hK9, hml, hN9, hA9⟩ := id X
  unfold fX10_send_90 at h
  refine lv_aload_n hx hb dX10_send_90 rfl (lv_at hl 0 rfl) ?_
  refine lv_bipush (v := (-5)) hx hb dX10_send_91 (by decide) ?_
  replace h := b1_some h
  obtain ⟨q1, gq1, h⟩ := h
  replace h := b2_some h
  obtain ⟨x2, s3, gs3, h⟩ := h
  refine z_callVi (rest := []) X hW hS (cX10_refuse_met gs3) kb_X10_refuse kv_X10_refuse kl_X10_77 (it_v gq1).1 kX10 rfl rfl ⟨Nat.le_of_ble_eq_true rfl, Nat.le_of_ble_eq_true rfl⟩ rfl rfl (by decide) hl.1 dX10_send_93 ⟨(by decide), (by decide)⟩ (fun H locs hW hS => ?_)
  exact z_eti X hlk hr hW hS h (by decide) (by decide) dX10_send_96

def fX10_send (o : Nat) (v1 : Int32) (v2 : Int32) (v3 : Int32) (h : Hz) : Option (Int32 × Hz) := (b1 (gA 10 0 o h) fun a1 => (b1 (tg 6 a1 h) fun _ => (b2 (fX6_find a1 v1 h) fun r3 s4 => (b1 (gA 10 0 o s4) fun a5 => (b1 (tg 6 a5 s4) fun _ => (b2 (fX6_find a5 v2 s4) fun r7 s8 => (oe r3 (fX10_send_30 o s8) fun a9 => (oe r7 (fX10_send_30 o s8) fun a10 => (b1 (gI 5 1 a10 s8) fun x11 => (if x11 = 2 then (b1 (tg 5 a10 s8) fun _ => (b2 (fX5_hasPlace a10 v3 s8) fun x14 s15 => (if x14 = 0 then (b1 (tg 10 o s15) fun _ => (b2 (fX10_refuse o (-3) s15) fun x36 s37 => some (x36, s37))) else (b1 (gI 5 2 a9 s15) fun x17 => (b1 (gI 5 2 a10 s15) fun x18 => (if x17 = x18 then fX10_send_90 o s15 else (b1 (tg 10 o s15) fun _ => (b2 (fX10_isNear o (some a9) s15) fun x21 s22 => (if x21 = 0 then fX10_send_90 o s22 else (b1 (tg 10 o s22) fun _ => (b2 (fX10_sendName o (some a9) (some a10) v3 s22) fun x25 s26 => (if x25 = (-1) then (b1 (tg 10 o s26) fun _ => (b2 (fX10_refuse o (-6) s26) fun x33 s34 => some (x33, s34))) else (b1 (gI 5 2 a9 s26) fun x28 => (b1 (tg 10 o s26) fun _ => (b2 (fX10_touch o x28 s26) fun _ s31 => some (x25, s31)))))))))))))))) else (b1 (tg 10 o s8) fun _ => (b2 (fX10_refuse o (-2) s8) fun x39 s40 => some (x39, s40)))))))))))))
set_option maxHeartbeats 4000000 in
set_option maxRecDepth 100000 in
theorem wX10_send_0 {r0 : Int32} {h0 : Hz} (X : zX A D cy p s m args c cX10_send RX10 7) (hlk : meth.locks = false) (hr : meth.sig.returnType = (some .int)) (o : Nat) (v1 : Int32) (v2 : Int32) (v3 : Int32) (h : Hz) (H : Heap) (locs : List Loc) (ls : Array Slot) (hl : lv_has ls 7 [(0, .ref o), (1, .int v1), (2, .int v2), (3, .int v3)]) (hW : zW A cy D h H) (hS : va_S A s.heap H locs) (h : fX10_send o v1 v2 v3 h = some (r0, h0)) : W p l e ({ frames := 5, cells := 2, slots := 13, locals := 108 } : Room) s m args below meth c H locs 0 0 (MQ below (va_Qi (fun r1 u => r1 = r0 ∧ u = h0) (zB A D cy) A) args s 2 13 A) (F0 m 0 ls []) := by
  obtain ⟨hx, hb, hts, hown, hK9, hml, hN9, hA9⟩ := id X
  unfold fX10_send at h
  refine lv_aload_n hx hb dX10_send_0 rfl (lv_at hl 0 rfl) ?_
  replace h := b1_some h
  obtain ⟨a1, ga1, h⟩ := h
  refine z_getA X hW ga1 kX10 (by decide) (by decide) kf_X10_10 dX10_send_1 ?_
  refine lv_iload_n hx hb dX10_send_4 rfl (lv_at hl 1 rfl) ?_
  replace h := b1_some h
  obtain ⟨q2, gq2, h⟩ := h
  replace h := b2_some h
  obtain ⟨r3, s4, gs4, h⟩ := h
  refine z_callVq (rest := []) X hW hS (cX6_find_met gs4) kb_X6_find kv_X6_find kl_X10_94 (it_v gq2).1 kX6 rfl rfl ⟨Nat.le_of_ble_eq_true rfl, Nat.le_of_ble_eq_true rfl⟩ rfl rfl (by decide) hl.1 dX10_send_5 ⟨(by decide), (by decide)⟩ (fun H locs hW hS => ?_)
  refine z_astore (lv' := [(4, va_rf r3), (0, .ref o), (1, .int v1), (2, .int v2), (3, .int v3)]) hx hb dX10_send_8 hl (by decide) rfl (fun ls hl => ?_)
  refine lv_aload_n hx hb dX10_send_10 rfl (lv_at hl 1 rfl) ?_
  replace h := b1_some h
  obtain ⟨a5, ga5, h⟩ := h
  refine z_getA X hW ga5 kX10 (by decide) (by decide) kf_X10_10 dX10_send_11 ?_
  refine lv_iload_n hx hb dX10_send_14 rfl (lv_at hl 3 rfl) ?_
  replace h := b1_some h
  obtain ⟨q6, gq6, h⟩ := h
  replace h := b2_some h
  obtain ⟨r7, s8, gs8, h⟩ := h
  refine z_callVq (rest := []) X hW hS (cX6_find_met gs8) kb_X6_find kv_X6_find kl_X10_94 (it_v gq6).1 kX6 rfl rfl ⟨Nat.le_of_ble_eq_true rfl, Nat.le_of_ble_eq_true rfl⟩ rfl rfl (by decide) hl.1 dX10_send_15 ⟨(by decide), (by decide)⟩ (fun H locs hW hS => ?_)
  refine z_astore (lv' := [(5, va_rf r7), (4, va_rf r3), (0, .ref o), (1, .int v1), (2, .int v2), (3, .int v3)]) hx hb dX10_send_18 hl (by decide) (by cases r3 <;> rfl) (fun ls hl => ?_)
  refine z_aload hx hb dX10_send_20 (lv_at hl 1 rfl) ?_
  cases r3 with
  | none =>
    replace h := oe_n h
    have hl : lv_has ls 7 [(5, va_rf r7), (4, .null), (0, .ref o), (1, .int v1), (2, .int v2), (3, .int v3)] := hl
    refine lv_ifnullN (tgt := 30) hx hb dX10_send_22 (by decide) ?_
    exact wX10_send_30 X hlk hr o _ _ _ _ (lv_sub hl [2] rfl) hW hS h
  | some a9 =>
    replace h := oe_s h
    have hl : lv_has ls 7 [(5, va_rf r7), (4, .ref a9), (0, .ref o), (1, .int v1), (2, .int v2), (3, .int v3)] := hl
    refine lv_ifnull hx hb dX10_send_22 ?_
    refine z_aload hx hb dX10_send_25 (lv_at hl 0 rfl) ?_
    cases r7 with
    | none =>
      replace h := oe_n h
      have hl : lv_has ls 7 [(5, .null), (4, .ref a9), (0, .ref o), (1, .int v1), (2, .int v2), (3, .int v3)] := hl
      refine lv_ifnonnullN hx hb dX10_send_27 ?_
      exact wX10_send_30 X hlk hr o _ _ _ _ (lv_sub hl [2] rfl) hW hS h
    | some a10 =>
      replace h := oe_s h
      have hl : lv_has ls 7 [(5, .ref a10), (4, .ref a9), (0, .ref o), (1, .int v1), (2, .int v2), (3, .int v3)] := hl
      refine lv_ifnonnull (tgt := 36) hx hb dX10_send_27 (by decide) ?_
      refine lv_aload hx hb dX10_send_36 (lv_at hl 0 rfl) ?_
      replace h := b1_some h
      obtain ⟨x11, gx11, h⟩ := h
      refine z_getI X hW gx11 kX5 (by decide) (by decide) kf_X10_173 dX10_send_38 ?_
      refine lv_iconst (v := 2) hx hb dX10_send_41 (by decide) ?_
      refine lv_icmp_eq (tgt := 52) hx hb dX10_send_42 (by decide) (fun c12 => ?_) (fun c12 => ?_)
      · replace h := it_t h c12
        refine lv_aload hx hb dX10_send_52 (lv_at hl 0 rfl) ?_
        refine lv_iload_n hx hb dX10_send_54 rfl (lv_at hl 5 rfl) ?_
        replace h := b1_some h
        obtain ⟨q13, gq13, h⟩ := h
        replace h := b2_some h
        obtain ⟨x14, s15, gs15, h⟩ := h
        refine z_callVi (rest := []) X hW hS (cX5_hasPlace_met gs15) kb_X5_hasPlace kv_X5_hasPlace kl_X10_102 (it_v gq13).1 kX5 rfl rfl ⟨Nat.le_of_ble_eq_true rfl, Nat.le_of_ble_eq_true rfl⟩ rfl rfl (by decide) hl.1 dX10_send_55 ⟨(by decide), (by decide)⟩ (fun H locs hW hS => ?_)
        refine lv_if_ne (tgt := 68) hx hb dX10_send_58 (by decide) (fun c16 => ?_) (fun c16 => ?_)
        · replace h := it_f h c16
          refine lv_aload hx hb dX10_send_68 (lv_at hl 1 rfl) ?_
          replace h := b1_some h
          obtain ⟨x17, gx17, h⟩ := h
          refine z_getI X hW gx17 kX5 (by decide) (by decide) kf_X10_109 dX10_send_70 ?_
          refine lv_aload hx hb dX10_send_73 (lv_at hl 0 rfl) ?_
          replace h := b1_some h
          obtain ⟨x18, gx18, h⟩ := h
          refine z_getI X hW gx18 kX5 (by decide) (by decide) kf_X10_109 dX10_send_75 ?_
          refine lv_icmp_eq (tgt := 90) hx hb dX10_send_78 (by decide) (fun c19 => ?_) (fun c19 => ?_)
          · replace h := it_t h c19
            exact wX10_send_90 X hlk hr o _ _ _ _ (lv_sub hl [2] rfl) hW hS h
          · replace h := it_f h c19
            refine lv_aload_n hx hb dX10_send_81 rfl (lv_at hl 2 rfl) ?_
            refine lv_aload hx hb dX10_send_82 (lv_at hl 1 rfl) ?_
            replace h := b1_some h
            obtain ⟨q20, gq20, h⟩ := h
            replace h := b2_some h
            obtain ⟨x21, s22, gs22, h⟩ := h
            refine z_callVi (rest := []) X hW hS (cX10_isNear_met gs22) kb_X10_isNear kv_X10_isNear kl_X10_105 (it_v gq20).1 kX10 rfl rfl ⟨Nat.le_of_ble_eq_true rfl, Nat.le_of_ble_eq_true rfl⟩ rfl rfl (by decide) hl.1 dX10_send_84 ⟨(by decide), (by decide)⟩ (fun H locs hW hS => ?_)
            refine lv_if_ne (tgt := 97) hx hb dX10_send_87 (by decide) (fun c23 => ?_) (fun c23 => ?_)
            · replace h := it_f h c23
              refine lv_aload_n hx hb dX10_send_97 rfl (lv_at hl 2 rfl) ?_
              refine lv_aload hx hb dX10_send_98 (lv_at hl 1 rfl) ?_
              refine lv_aload hx hb dX10_send_100 (lv_at hl 0 rfl) ?_
              refine lv_iload_n hx hb dX10_send_102 rfl (lv_at hl 5 rfl) ?_
              replace h := b1_some h
              obtain ⟨q24, gq24, h⟩ := h
              replace h := b2_some h
              obtain ⟨x25, s26, gs26, h⟩ := h
              refine z_callVi (rest := []) X hW hS (cX10_sendName_met gs26) kb_X10_sendName kv_X10_sendName kl_X10_191 (it_v gq24).1 kX10 rfl rfl ⟨Nat.le_of_ble_eq_true rfl, Nat.le_of_ble_eq_true rfl⟩ rfl rfl (by decide) hl.1 dX10_send_103 ⟨(by decide), (by decide)⟩ (fun H locs hW hS => ?_)
              refine lv_istore (lv' := [(6, .int x25), (5, .ref a10), (4, .ref a9), (0, .ref o), (1, .int v1), (2, .int v2), (3, .int v3)]) hx hb dX10_send_106 hl (by decide) rfl (fun ls hl => ?_)
              refine lv_iload hx hb dX10_send_108 (lv_at hl 0 rfl) ?_
              refine lv_iconst (v := (-1)) hx hb dX10_send_110 (by decide) ?_
              refine lv_icmp_ne (tgt := 121) hx hb dX10_send_111 (by decide) (fun c27 => ?_) (fun c27 => ?_)
              · replace h := it_f h c27
                refine lv_aload_n hx hb dX10_send_121 rfl (lv_at hl 3 rfl) ?_
                refine lv_aload hx hb dX10_send_122 (lv_at hl 2 rfl) ?_
                replace h := b1_some h
                obtain ⟨x28, gx28, h⟩ := h
                refine z_getI X hW gx28 kX5 (by decide) (by decide) kf_X10_109 dX10_send_124 ?_
                replace h := b1_some h
                obtain ⟨q29, gq29, h⟩ := h
                replace h := b2_some h
                obtain ⟨_ur30, s31, gs31, h⟩ := h
                refine z_callVv (rest := []) X hW hS (cX10_touch_met gs31) kb_X10_touch kv_X10_touch kl_X10_85 (it_v gq29).1 kX10 rfl rfl ⟨Nat.le_of_ble_eq_true rfl, Nat.le_of_ble_eq_true rfl⟩ rfl rfl (by decide) hl.1 dX10_send_127 ⟨(by decide), (by decide)⟩ (fun H locs hW hS => ?_)
                refine lv_iload hx hb dX10_send_130 (lv_at hl 0 rfl) ?_
                exact z_eti X hlk hr hW hS h (by decide) (by decide) dX10_send_132
              · replace h := it_t h c27
                refine lv_aload_n hx hb dX10_send_114 rfl (lv_at hl 3 rfl) ?_
                refine lv_bipush (v := (-6)) hx hb dX10_send_115 (by decide) ?_
                replace h := b1_some h
                obtain ⟨q32, gq32, h⟩ := h
                replace h := b2_some h
                obtain ⟨x33, s34, gs34, h⟩ := h
                refine z_callVi (rest := []) X hW hS (cX10_refuse_met gs34) kb_X10_refuse kv_X10_refuse kl_X10_77 (it_v gq32).1 kX10 rfl rfl ⟨Nat.le_of_ble_eq_true rfl, Nat.le_of_ble_eq_true rfl⟩ rfl rfl (by decide) hl.1 dX10_send_117 ⟨(by decide), (by decide)⟩ (fun H locs hW hS => ?_)
                exact z_eti X hlk hr hW hS h (by decide) (by decide) dX10_send_120
            · replace h := it_t h c23
              exact wX10_send_90 X hlk hr o _ _ _ _ (lv_sub hl [2] rfl) hW hS h
        · replace h := it_t h c16
          refine lv_aload_n hx hb dX10_send_61 rfl (lv_at hl 2 rfl) ?_
          refine lv_bipush (v := (-3)) hx hb dX10_send_62 (by decide) ?_
          replace h := b1_some h
          obtain ⟨q35, gq35, h⟩ := h
          replace h := b2_some h
          obtain ⟨x36, s37, gs37, h⟩ := h
          refine z_callVi (rest := []) X hW hS (cX10_refuse_met gs37) kb_X10_refuse kv_X10_refuse kl_X10_77 (it_v gq35).1 kX10 rfl rfl ⟨Nat.le_of_ble_eq_true rfl, Nat.le_of_ble_eq_true rfl⟩ rfl rfl (by decide) hl.1 dX10_send_64 ⟨(by decide), (by decide)⟩ (fun H locs hW hS => ?_)
          exact z_eti X hlk hr hW hS h (by decide) (by decide) dX10_send_67
      · replace h := it_f h c12
        refine lv_aload_n hx hb dX10_send_45 rfl (lv_at hl 2 rfl) ?_
        refine lv_bipush (v := (-2)) hx hb dX10_send_46 (by decide) ?_
        replace h := b1_some h
        obtain ⟨q38, gq38, h⟩ := h
        replace h := b2_some h
        obtain ⟨x39, s40, gs40, h⟩ := h
        refine z_callVi (rest := []) X hW hS (cX10_refuse_met gs40) kb_X10_refuse kv_X10_refuse kl_X10_77 (it_v gq38).1 kX10 rfl rfl ⟨Nat.le_of_ble_eq_true rfl, Nat.le_of_ble_eq_true rfl⟩ rfl rfl (by decide) hl.1 dX10_send_48 ⟨(by decide), (by decide)⟩ (fun H locs hW hS => ?_)
        exact z_eti X hlk hr hW hS h (by decide) (by decide) dX10_send_51

set_option maxHeartbeats 4000000 in
set_option maxRecDepth 100000 in
theorem cX10_send_met {l : Launch} {A : Nat → Prop} {D : va_G} {cy : Nat → ClassId} {r0 : Int32} {h0 : Hz} {o : Nat} {v1 : Int32} {v2 : Int32} {v3 : Int32} {h : Hz} (g : fX10_send o v1 v2 v3 h = some (r0, h0)) : Met l yX10_send (Cond.code yX10_send cX10_send 7 (some .int) :: wT) ({ frames := 5, cells := 2, slots := 13, locals := 108 } : Room) (va_Pc [.ref o, .int v1, .int v2, .int v3] (zS A D cy h)) (va_Qi (fun r1 u => r1 = r0 ∧ u = h0) (zB A D cy) A) 2 13 A := by
  refine Met.ofW (cc := cX10_send) (maxL := 7) (ret := (some .int)) (by decide) rfl ?_
  intro p e s m args below meth c s₁ B hml hv
  obtain ⟨rfl, hW, hK, hN, hA⟩ := hv
  have X : zX A D cy p s m _ c cX10_send RX10 7 := ⟨B.exec, B.bytes, fun w hw => atoms_spec (ws := Cond.code yX10_send cX10_send 7 (some .int) :: wT) B.pre w (List.mem_cons_of_mem _ hw), findClass_of_methodNamed B.named, hK, hml, hN, hA⟩
  have hl := lv_entry [.ref o, .int v1, .int v2, .int v3] (n := 7) (Nat.le_of_ble_eq_true rfl)
  rw [lg_entry_eq]
  generalize (lg_sl [.ref o, .int v1, .int v2, .int v3] ++ List.replicate (7 - (lg_sl [.ref o, .int v1, .int v2, .int v3]).length) Slot.unset).toArray = ls at hl ⊢
  have hl : lv_has ls 7 [(0, .ref o), (1, .int v1), (2, .int v2), (3, .int v3)] := hl
  exact wX10_send_0 X B.notSynchronized B.returns o v1 v2 v3 _ _ _ _ (lv_sub hl [0, 1, 2, 3] rfl) hW va_S.rf g

theorem dX10_bringAlive_0 : decode cX10_bringAlive 0 = .ok (.aload_n 0, 1) := by decide +kernel
theorem dX10_bringAlive_1 : decode cX10_bringAlive 1 = .ok (.getfield 53, 3) := by decide +kernel
theorem dX10_bringAlive_4 : decode cX10_bringAlive 4 = .ok (.aload_n 1, 1) := by decide +kernel
theorem dX10_bringAlive_5 : decode cX10_bringAlive 5 = .ok (.invokevirtual 314, 3) := by decide +kernel
theorem dX10_bringAlive_8 : decode cX10_bringAlive 8 = .ok (.aload_n 1, 1) := by decide +kernel
theorem dX10_bringAlive_9 : decode cX10_bringAlive 9 = .ok (.invokevirtual 251, 3) := by decide +kernel
theorem dX10_bringAlive_12 : decode cX10_bringAlive 12 = .ok (.ifCond .eq 11, 3) := by decide +kernel
theorem dX10_bringAlive_15 : decode cX10_bringAlive 15 = .ok (.aload_n 0, 1) := by decide +kernel
theorem dX10_bringAlive_16 : decode cX10_bringAlive 16 = .ok (.getfield 49, 3) := by decide +kernel
theorem dX10_bringAlive_19 : decode cX10_bringAlive 19 = .ok (.aload_n 1, 1) := by decide +kernel
theorem dX10_bringAlive_20 : decode cX10_bringAlive 20 = .ok (.invokevirtual 314, 3) := by decide +kernel
theorem dX10_bringAlive_23 : decode cX10_bringAlive 23 = .ok (.return_, 1) := by decide +kernel
def fX10_bringAlive (o : Nat) (v1 : Option Nat) (h : Hz) : Option (Unit × Hz) := (b1 (gA 10 8 o h) fun a1 => (b1 (tg 3 a1 h) fun _ => (b2 (fX3_add a1 v1 h) fun _ s4 => b1 v1 fun a5 => (b1 (tg 5 a5 s4) fun _ => (b2 (fX5_isAnchor a5 s4) fun x7 s8 => (if x7 = 0 then some ((), s8) else (b1 (gA 10 7 o s8) fun a10 => (b1 (tg 3 a10 s8) fun _ => (b2 (fX3_add a10 (some a5) s8) fun _ s13 => some ((), s13))))))))))
set_option maxHeartbeats 4000000 in
set_option maxRecDepth 100000 in
theorem wX10_bringAlive_0 {r0 : Unit} {h0 : Hz} (X : zX A D cy p s m args c cX10_bringAlive RX10 2) (hlk : meth.locks = false) (hr : meth.sig.returnType = none) (o : Nat) (v1 : Option Nat) (h : Hz) (H : Heap) (locs : List Loc) (ls : Array Slot) (hl : lv_has ls 2 [(0, .ref o), (1, va_rf v1)]) (hW : zW A cy D h H) (hS : va_S A s.heap H locs) (h : fX10_bringAlive o v1 h = some (r0, h0)) : W p l e ({ frames := 1, cells := 0, slots := 0, locals := 21 } : Room) s m args below meth c H locs 0 0 (MQ below (va_Qv (fun u => u = h0) (zB A D cy) A) args s 0 0 A) (F0 m 0 ls []) := by
  obtain ⟨hx, hb, hts, hown, hK9, hml, hN9, hA9⟩ := id X
  unfold fX10_bringAlive at h
  refine lv_aload_n hx hb dX10_bringAlive_0 rfl (lv_at hl 0 rfl) ?_
  replace h := b1_some h
  obtain ⟨a1, ga1, h⟩ := h
  refine z_getA X hW ga1 kX10 (by decide) (by decide) kf_X10_53 dX10_bringAlive_1 ?_
  refine z_aload_n hx hb dX10_bringAlive_4 rfl (lv_at hl 1 rfl) ?_
  replace h := b1_some h
  obtain ⟨q2, gq2, h⟩ := h
  replace h := b2_some h
  obtain ⟨_ur3, s4, gs4, h⟩ := h
  refine z_callVv (rest := []) X hW hS (cX3_add_met gs4) kb_X3_add kv_X3_add kl_X10_314 (it_v gq2).1 kX3 rfl rfl ⟨Nat.le_of_ble_eq_true rfl, Nat.le_of_ble_eq_true rfl⟩ rfl rfl (by decide) hl.1 dX10_bringAlive_5 ⟨(by decide), (by decide)⟩ (fun H locs hW hS => ?_)
  refine z_aload_n hx hb dX10_bringAlive_8 rfl (lv_at hl 1 rfl) ?_
  replace h := b1_some h
  obtain ⟨a5, ea5, h⟩ := h
  subst ea5
  replace h := b1_some h
  obtain ⟨q6, gq6, h⟩ := h
  replace h := b2_some h
  obtain ⟨x7, s8, gs8, h⟩ := h
  refine z_callVi (rest := []) X hW hS (cX5_isAnchor_met gs8) kb_X5_isAnchor kv_X5_isAnchor kl_X10_251 (it_v gq6).1 kX5 rfl rfl ⟨Nat.le_of_ble_eq_true rfl, Nat.le_of_ble_eq_true rfl⟩ rfl rfl (by decide) hl.1 dX10_bringAlive_9 ⟨(by decide), (by decide)⟩ (fun H locs hW hS => ?_)
  refine lv_if_eq (tgt := 23) hx hb dX10_bringAlive_12 (by decide) (fun c9 => ?_) (fun c9 => ?_)
  · replace h := it_t h c9
    exact z_etv X hlk hr hW hS h (by decide) (by decide) dX10_bringAlive_23
  · replace h := it_f h c9
    refine lv_aload_n hx hb dX10_bringAlive_15 rfl (lv_at hl 0 rfl) ?_
    replace h := b1_some h
    obtain ⟨a10, ga10, h⟩ := h
    refine z_getA X hW ga10 kX10 (by decide) (by decide) kf_X10_49 dX10_bringAlive_16 ?_
    refine lv_aload_n hx hb dX10_bringAlive_19 rfl (lv_at hl 1 rfl) ?_
    replace h := b1_some h
    obtain ⟨q11, gq11, h⟩ := h
    replace h := b2_some h
    obtain ⟨_ur12, s13, gs13, h⟩ := h
    refine z_callVv (rest := []) X hW hS (cX3_add_met gs13) kb_X3_add kv_X3_add kl_X10_314 (it_v gq11).1 kX3 rfl rfl ⟨Nat.le_of_ble_eq_true rfl, Nat.le_of_ble_eq_true rfl⟩ rfl rfl (by decide) hl.1 dX10_bringAlive_20 ⟨(by decide), (by decide)⟩ (fun H locs hW hS => ?_)
    exact z_etv X hlk hr hW hS h (by decide) (by decide) dX10_bringAlive_23

set_option maxHeartbeats 4000000 in
set_option maxRecDepth 100000 in
theorem cX10_bringAlive_met {l : Launch} {A : Nat → Prop} {D : va_G} {cy : Nat → ClassId} {r0 : Unit} {h0 : Hz} {o : Nat} {v1 : Option Nat} {h : Hz} (g : fX10_bringAlive o v1 h = some (r0, h0)) : Met l yX10_bringAlive (Cond.code yX10_bringAlive cX10_bringAlive 2 none :: wT) ({ frames := 1, cells := 0, slots := 0, locals := 21 } : Room) (va_Pc [.ref o, va_rf v1] (zS A D cy h)) (va_Qv (fun u => u = h0) (zB A D cy) A) 0 0 A := by
  refine Met.ofW (cc := cX10_bringAlive) (maxL := 2) (ret := none) (by decide) rfl ?_
  intro p e s m args below meth c s₁ B hml hv
  obtain ⟨rfl, hW, hK, hN, hA⟩ := hv
  have X : zX A D cy p s m _ c cX10_bringAlive RX10 2 := ⟨B.exec, B.bytes, fun w hw => atoms_spec (ws := Cond.code yX10_bringAlive cX10_bringAlive 2 none :: wT) B.pre w (List.mem_cons_of_mem _ hw), findClass_of_methodNamed B.named, hK, hml, hN, hA⟩
  cases v1 with
  | none =>
    have hl := lv_entry [.ref o, va_rf none] (n := 2) (Nat.le_of_ble_eq_true rfl)
    rw [lg_entry_eq]
    generalize (lg_sl [.ref o, va_rf none] ++ List.replicate (2 - (lg_sl [.ref o, va_rf none]).length) Slot.unset).toArray = ls at hl ⊢
    have hl : lv_has ls 2 [(0, .ref o), (1, va_rf none)] := hl
    exact wX10_bringAlive_0 X B.notSynchronized B.returns o none _ _ _ _ (lv_sub hl [0, 1] rfl) hW va_S.rf g
  | some v1 =>
    have hl := lv_entry [.ref o, va_rf (some v1)] (n := 2) (Nat.le_of_ble_eq_true rfl)
    rw [lg_entry_eq]
    generalize (lg_sl [.ref o, va_rf (some v1)] ++ List.replicate (2 - (lg_sl [.ref o, va_rf (some v1)]).length) Slot.unset).toArray = ls at hl ⊢
    have hl : lv_has ls 2 [(0, .ref o), (1, va_rf (some v1))] := hl
    exact wX10_bringAlive_0 X B.notSynchronized B.returns o (some v1) _ _ _ _ (lv_sub hl [0, 1] rfl) hW va_S.rf g

theorem dX10_addLiveFromOutside_0 : decode cX10_addLiveFromOutside 0 = .ok (.iconst 0, 1) := by decide +kernel
theorem dX10_addLiveFromOutside_1 : decode cX10_addLiveFromOutside 1 = .ok (.istore_n 2, 1) := by decide +kernel
theorem dX10_addLiveFromOutside_2 : decode cX10_addLiveFromOutside 2 = .ok (.iload_n 2, 1) := by decide +kernel
theorem dX10_addLiveFromOutside_3 : decode cX10_addLiveFromOutside 3 = .ok (.aload_n 0, 1) := by decide +kernel
theorem dX10_addLiveFromOutside_4 : decode cX10_addLiveFromOutside 4 = .ok (.getfield 10, 3) := by decide +kernel
theorem dX10_addLiveFromOutside_7 : decode cX10_addLiveFromOutside 7 = .ok (.invokevirtual 241, 3) := by decide +kernel
theorem dX10_addLiveFromOutside_10 : decode cX10_addLiveFromOutside 10 = .ok (.if_icmp .ge 105, 3) := by decide +kernel
theorem dX10_addLiveFromOutside_13 : decode cX10_addLiveFromOutside 13 = .ok (.aload_n 0, 1) := by decide +kernel
theorem dX10_addLiveFromOutside_14 : decode cX10_addLiveFromOutside 14 = .ok (.getfield 10, 3) := by decide +kernel
theorem dX10_addLiveFromOutside_17 : decode cX10_addLiveFromOutside 17 = .ok (.iload_n 2, 1) := by decide +kernel
theorem dX10_addLiveFromOutside_18 : decode cX10_addLiveFromOutside 18 = .ok (.invokevirtual 94, 3) := by decide +kernel
theorem dX10_addLiveFromOutside_21 : decode cX10_addLiveFromOutside 21 = .ok (.astore_n 3, 1) := by decide +kernel
theorem dX10_addLiveFromOutside_22 : decode cX10_addLiveFromOutside 22 = .ok (.aload_n 3, 1) := by decide +kernel
theorem dX10_addLiveFromOutside_23 : decode cX10_addLiveFromOutside 23 = .ok (.ifnonnull 6, 3) := by decide +kernel
theorem dX10_addLiveFromOutside_26 : decode cX10_addLiveFromOutside 26 = .ok (.goto 83, 3) := by decide +kernel
theorem dX10_addLiveFromOutside_29 : decode cX10_addLiveFromOutside 29 = .ok (.aload_n 3, 1) := by decide +kernel
theorem dX10_addLiveFromOutside_30 : decode cX10_addLiveFromOutside 30 = .ok (.invokevirtual 251, 3) := by decide +kernel
theorem dX10_addLiveFromOutside_33 : decode cX10_addLiveFromOutside 33 = .ok (.ifCond .eq 15, 3) := by decide +kernel
theorem dX10_addLiveFromOutside_36 : decode cX10_addLiveFromOutside 36 = .ok (.aload_n 1, 1) := by decide +kernel
theorem dX10_addLiveFromOutside_37 : decode cX10_addLiveFromOutside 37 = .ok (.aload_n 3, 1) := by decide +kernel
theorem dX10_addLiveFromOutside_38 : decode cX10_addLiveFromOutside 38 = .ok (.invokevirtual 370, 3) := by decide +kernel
theorem dX10_addLiveFromOutside_41 : decode cX10_addLiveFromOutside 41 = .ok (.ifCond .ne 7, 3) := by decide +kernel
theorem dX10_addLiveFromOutside_44 : decode cX10_addLiveFromOutside 44 = .ok (.iconst 1, 1) := by decide +kernel
theorem dX10_addLiveFromOutside_45 : decode cX10_addLiveFromOutside 45 = .ok (.goto 4, 3) := by decide +kernel
theorem dX10_addLiveFromOutside_48 : decode cX10_addLiveFromOutside 48 = .ok (.iconst 0, 1) := by decide +kernel
theorem dX10_addLiveFromOutside_49 : decode cX10_addLiveFromOutside 49 = .ok (.istore 4, 2) := by decide +kernel
theorem dX10_addLiveFromOutside_51 : decode cX10_addLiveFromOutside 51 = .ok (.aload_n 3, 1) := by decide +kernel
theorem dX10_addLiveFromOutside_52 : decode cX10_addLiveFromOutside 52 = .ok (.getfield 173, 3) := by decide +kernel
theorem dX10_addLiveFromOutside_55 : decode cX10_addLiveFromOutside 55 = .ok (.iconst 2, 1) := by decide +kernel
theorem dX10_addLiveFromOutside_56 : decode cX10_addLiveFromOutside 56 = .ok (.if_icmp .eq 20, 3) := by decide +kernel
theorem dX10_addLiveFromOutside_59 : decode cX10_addLiveFromOutside 59 = .ok (.iload 4, 2) := by decide +kernel
theorem dX10_addLiveFromOutside_61 : decode cX10_addLiveFromOutside 61 = .ok (.ifCond .ne 15, 3) := by decide +kernel
theorem dX10_addLiveFromOutside_64 : decode cX10_addLiveFromOutside 64 = .ok (.aload_n 0, 1) := by decide +kernel
theorem dX10_addLiveFromOutside_65 : decode cX10_addLiveFromOutside 65 = .ok (.getfield 26, 3) := by decide +kernel
theorem dX10_addLiveFromOutside_68 : decode cX10_addLiveFromOutside 68 = .ok (.aload_n 3, 1) := by decide +kernel
theorem dX10_addLiveFromOutside_69 : decode cX10_addLiveFromOutside 69 = .ok (.invokevirtual 353, 3) := by decide +kernel
theorem dX10_addLiveFromOutside_72 : decode cX10_addLiveFromOutside 72 = .ok (.iconst (-1), 1) := by decide +kernel
theorem dX10_addLiveFromOutside_73 : decode cX10_addLiveFromOutside 73 = .ok (.if_icmp .eq 11, 3) := by decide +kernel
theorem dX10_addLiveFromOutside_76 : decode cX10_addLiveFromOutside 76 = .ok (.aload_n 0, 1) := by decide +kernel
theorem dX10_addLiveFromOutside_77 : decode cX10_addLiveFromOutside 77 = .ok (.getfield 49, 3) := by decide +kernel
theorem dX10_addLiveFromOutside_80 : decode cX10_addLiveFromOutside 80 = .ok (.aload_n 3, 1) := by decide +kernel
theorem dX10_addLiveFromOutside_81 : decode cX10_addLiveFromOutside 81 = .ok (.invokevirtual 314, 3) := by decide +kernel
theorem dX10_addLiveFromOutside_84 : decode cX10_addLiveFromOutside 84 = .ok (.aload_n 1, 1) := by decide +kernel
theorem dX10_addLiveFromOutside_85 : decode cX10_addLiveFromOutside 85 = .ok (.aload_n 3, 1) := by decide +kernel
theorem dX10_addLiveFromOutside_86 : decode cX10_addLiveFromOutside 86 = .ok (.invokevirtual 370, 3) := by decide +kernel
theorem dX10_addLiveFromOutside_89 : decode cX10_addLiveFromOutside 89 = .ok (.ifCond .eq 20, 3) := by decide +kernel
theorem dX10_addLiveFromOutside_92 : decode cX10_addLiveFromOutside 92 = .ok (.aload_n 3, 1) := by decide +kernel
theorem dX10_addLiveFromOutside_93 : decode cX10_addLiveFromOutside 93 = .ok (.getfield 163, 3) := by decide +kernel
theorem dX10_addLiveFromOutside_96 : decode cX10_addLiveFromOutside 96 = .ok (.aload_n 1, 1) := by decide +kernel
theorem dX10_addLiveFromOutside_97 : decode cX10_addLiveFromOutside 97 = .ok (.aload_n 3, 1) := by decide +kernel
theorem dX10_addLiveFromOutside_98 : decode cX10_addLiveFromOutside 98 = .ok (.invokevirtual 422, 3) := by decide +kernel
theorem dX10_addLiveFromOutside_101 : decode cX10_addLiveFromOutside 101 = .ok (.if_icmp .le 8, 3) := by decide +kernel
theorem dX10_addLiveFromOutside_104 : decode cX10_addLiveFromOutside 104 = .ok (.aload_n 0, 1) := by decide +kernel
theorem dX10_addLiveFromOutside_105 : decode cX10_addLiveFromOutside 105 = .ok (.aload_n 3, 1) := by decide +kernel
theorem dX10_addLiveFromOutside_106 : decode cX10_addLiveFromOutside 106 = .ok (.invokevirtual 425, 3) := by decide +kernel
theorem dX10_addLiveFromOutside_109 : decode cX10_addLiveFromOutside 109 = .ok (.iinc 2 1, 3) := by decide +kernel
theorem dX10_addLiveFromOutside_112 : decode cX10_addLiveFromOutside 112 = .ok (.goto (-110), 3) := by decide +kernel
theorem dX10_addLiveFromOutside_115 : decode cX10_addLiveFromOutside 115 = .ok (.return_, 1) := by decide +kernel
def fX10_addLiveFromOutside_84 (K2 : Nat → Option Nat → Int32 → Hz → Option (Unit × Hz)) (o : Nat) (v1 : Option Nat) (v2 : Int32) (v3 : Nat) (h : Hz) : Option (Unit × Hz) := b1 v1 fun a1 => (b1 (tg 9 a1 h) fun _ => (b2 (fX9_hasPassed a1 (some v3) h) fun x3 s4 => (if x3 = 0 then K2 o (some a1) (v2 + 1) s4 else (b1 (gI 5 8 v3 s4) fun x6 => (b1 (tg 9 a1 s4) fun _ => (b2 (fX9_weightMetFor a1 (some v3) s4) fun x8 s9 => (if x6 ≤ x8 then K2 o (some a1) (v2 + 1) s9 else (b1 (tg 10 o s9) fun _ => (b2 (fX10_bringAlive o (some v3) s9) fun _ s13 => K2 o (some a1) (v2 + 1) s13)))))))))
set_option maxHeartbeats 4000000 in
set_option maxRecDepth 100000 in
theorem wX10_addLiveFromOutside_84 {r0 : Unit} {h0 : Hz} (X : zX A D cy p s m args c cX10_addLiveFromOutside RX10 5) (hlk : meth.locks = false) (hr : meth.sig.returnType = none) {K2 : Nat → Option Nat → Int32 → Hz → Option (Unit × Hz)} (hK2 : ∀ (o : Nat) (u1 : Option Nat) (u2 : Int32) (h : Hz) (H : Heap) (locs : List Loc) (ls : Array Slot), lv_has ls 5 [(0, .ref o), (1, va_rf u1), (2, .int u2)] → zW A cy D h H → va_S A s.heap H locs → K2 o u1 u2 h = some (r0, h0) → W p l e ({ frames := 2, cells := 0, slots := 0, locals := 42 } : Room) s m args below meth c H locs 0 0 (MQ below (va_Qv (fun u => u = h0) (zB A D cy) A) args s 0 0 A) (F0 m 2 ls [])) (o : Nat) (v1 : Option Nat) (v2 : Int32) (v3 : Nat) (h : Hz) (H : Heap) (locs : List Loc) (ls : Array Slot) (hl : lv_has ls 5 [(0, .ref o), (1, va_rf v1), (2, .int v2), (3, .ref v3)]) (hW : zW A cy D h H) (hS : va_S A s.heap H locs) (h : fX10_addLiveFromOutside_84 K2 o v1 v2 v3 h = some (r0, h0)) : W p l e ({ frames := 2, cells := 0, slots := 0, locals := 42 } : Room) s m args below meth c H locs 0 0 (MQ below (va_Qv (fun u => u = h0) (zB A D cy) A) args s 0 0 A) (F0 m 84 ls []) := by
  obtain ⟨hx, hb, hts, hown, hK9, hml, hN9, hA9⟩ := id X
  unfold fX10_addLiveFromOutside_84 at h
  refine z_aload_n hx hb dX10_addLiveFromOutside_84 rfl (lv_at hl 1 rfl) ?_
  refine lv_aload_n hx hb dX10_addLiveFromOutside_85 rfl (lv_at hl 3 rfl) ?_
  replace h := b1_some h
  obtain ⟨a1, ea1, h⟩ := h
  subst ea1
  replace h := b1_some h
  obtain ⟨q2, gq2, h⟩ := h
  replace h := b2_some h
  obtain ⟨x3, s4, gs4, h⟩ := h
  refine z_callVi (rest := []) X hW hS (cX9_hasPassed_met gs4) kb_X9_hasPassed kv_X9_hasPassed kl_X10_370 (it_v gq2).1 kX9 rfl rfl ⟨Nat.le_of_ble_eq_true rfl, Nat.le_of_ble_eq_true rfl⟩ rfl rfl (by decide) hl.1 dX10_addLiveFromOutside_86 ⟨(by decide), (by decide)⟩ (fun H locs hW hS => ?_)
  refine lv_if_eq (tgt := 109) hx hb dX10_addLiveFromOutside_89 (by decide) (fun c5 => ?_) (fun c5 => ?_)
  · replace h := it_t h c5
    refine lv_iinc (v := (v2 + 1)) (lv' := [(2, .int (v2 + 1)), (0, .ref o), (1, .ref a1), (3, .ref v3)]) hx hb dX10_addLiveFromOutside_109 hl (k := 2) rfl rfl (by decide) rfl (fun ls hl => ?_)
    refine lv_goto (tgt := 2) hx hb dX10_addLiveFromOutside_112 (by decide) ?_
    exact hK2 o (some a1) (v2 + 1) _ _ _ _ (lv_sub hl [1, 2, 0] rfl) hW hS h
  · replace h := it_f h c5
    refine lv_aload_n hx hb dX10_addLiveFromOutside_92 rfl (lv_at hl 3 rfl) ?_
    replace h := b1_some h
    obtain ⟨x6, gx6, h⟩ := h
    refine z_getI X hW gx6 kX5 (by decide) (by decide) kf_X10_163 dX10_addLiveFromOutside_93 ?_
    refine lv_aload_n hx hb dX10_addLiveFromOutside_96 rfl (lv_at hl 1 rfl) ?_
    refine lv_aload_n hx hb dX10_addLiveFromOutside_97 rfl (lv_at hl 3 rfl) ?_
    replace h := b1_some h
    obtain ⟨q7, gq7, h⟩ := h
    replace h := b2_some h
    obtain ⟨x8, s9, gs9, h⟩ := h
    refine z_callVi (rest := [.int x6]) X hW hS (cX9_weightMetFor_met gs9) kb_X9_weightMetFor kv_X9_weightMetFor kl_X10_422 (it_v gq7).1 kX9 rfl rfl ⟨Nat.le_of_ble_eq_true rfl, Nat.le_of_ble_eq_true rfl⟩ rfl rfl (Nat.le_of_ble_eq_true rfl) hl.1 dX10_addLiveFromOutside_98 ⟨(by decide), (by decide)⟩ (fun H locs hW hS => ?_)
    refine lv_icmp_le (tgt := 109) hx hb dX10_addLiveFromOutside_101 (by decide) (fun c10 => ?_) (fun c10 => ?_)
    · replace h := it_t h c10
      refine lv_iinc (v := (v2 + 1)) (lv' := [(2, .int (v2 + 1)), (0, .ref o), (1, .ref a1), (3, .ref v3)]) hx hb dX10_addLiveFromOutside_109 hl (k := 2) rfl rfl (by decide) rfl (fun ls hl => ?_)
      refine lv_goto (tgt := 2) hx hb dX10_addLiveFromOutside_112 (by decide) ?_
      exact hK2 o (some a1) (v2 + 1) _ _ _ _ (lv_sub hl [1, 2, 0] rfl) hW hS h
    · replace h := it_f h c10
      refine lv_aload_n hx hb dX10_addLiveFromOutside_104 rfl (lv_at hl 0 rfl) ?_
      refine lv_aload_n hx hb dX10_addLiveFromOutside_105 rfl (lv_at hl 3 rfl) ?_
      replace h := b1_some h
      obtain ⟨q11, gq11, h⟩ := h
      replace h := b2_some h
      obtain ⟨_ur12, s13, gs13, h⟩ := h
      refine z_callVv (rest := []) X hW hS (cX10_bringAlive_met gs13) kb_X10_bringAlive kv_X10_bringAlive kl_X10_425 (it_v gq11).1 kX10 rfl rfl ⟨Nat.le_of_ble_eq_true rfl, Nat.le_of_ble_eq_true rfl⟩ rfl rfl (by decide) hl.1 dX10_addLiveFromOutside_106 ⟨(by decide), (by decide)⟩ (fun H locs hW hS => ?_)
      refine lv_iinc (v := (v2 + 1)) (lv' := [(2, .int (v2 + 1)), (0, .ref o), (1, .ref a1), (3, .ref v3)]) hx hb dX10_addLiveFromOutside_109 hl (k := 2) rfl rfl (by decide) rfl (fun ls hl => ?_)
      refine lv_goto (tgt := 2) hx hb dX10_addLiveFromOutside_112 (by decide) ?_
      exact hK2 o (some a1) (v2 + 1) _ _ _ _ (lv_sub hl [1, 2, 0] rfl) hW hS h

def fX10_addLiveFromOutside_76 (K2 : Nat → Option Nat → Int32 → Hz → Option (Unit × Hz)) (o : Nat) (v1 : Option Nat) (v2 : Int32) (v3 : Nat) (h : Hz) : Option (Unit × Hz) := (b1 (gA 10 7 o h) fun a1 => (b1 (tg 3 a1 h) fun _ => (b2 (fX3_add a1 (some v3) h) fun _ s4 => fX10_addLiveFromOutside_84 K2 o v1 v2 v3 s4)))
set_option maxHeartbeats 4000000 in
set_option maxRecDepth 100000 in
theorem wX10_addLiveFromOutside_76 {r0 : Unit} {h0 : Hz} (X : zX A D cy p s m args c cX10_addLiveFromOutside RX10 5) (hlk : meth.locks = false) (hr : meth.sig.returnType = none) {K2 : Nat → Option Nat → Int32 → Hz → Option (Unit × Hz)} (hK2 : ∀ (o : Nat) (u1 : Option Nat) (u2 : Int32) (h : Hz) (H : Heap) (locs : List Loc) (ls : Array Slot), lv_has ls 5 [(0, .ref o), (1, va_rf u1), (2, .int u2)] → zW A cy D h H → va_S A s.heap H locs → K2 o u1 u2 h = some (r0, h0) → W p l e ({ frames := 2, cells := 0, slots := 0, locals := 42 } : Room) s m args below meth c H locs 0 0 (MQ below (va_Qv (fun u => u = h0) (zB A D cy) A) args s 0 0 A) (F0 m 2 ls [])) (o : Nat) (v1 : Option Nat) (v2 : Int32) (v3 : Nat) (h : Hz) (H : Heap) (locs : List Loc) (ls : Array Slot) (hl : lv_has ls 5 [(0, .ref o), (1, va_rf v1), (2, .int v2), (3, .ref v3)]) (hW : zW A cy D h H) (hS : va_S A s.heap H locs) (h : fX10_addLiveFromOutside_76 K2 o v1 v2 v3 h = some (r0, h0)) : W p l e ({ frames := 2, cells := 0, slots := 0, locals := 42 } : Room) s m args below meth c H locs 0 0 (MQ below (va_Qv (fun u => u = h0) (zB A D cy) A) args s 0 0 A) (F0 m 76 ls []) := by
  obtain ⟨hx, hb, hts, hown, hK9, hml, hN9, hA9⟩ := id X
  unfold fX10_addLiveFromOutside_76 at h
  refine lv_aload_n hx hb dX10_addLiveFromOutside_76 rfl (lv_at hl 0 rfl) ?_
  replace h := b1_some h
  obtain ⟨a1, ga1, h⟩ := h
  refine z_getA X hW ga1 kX10 (by decide) (by decide) kf_X10_49 dX10_addLiveFromOutside_77 ?_
  refine lv_aload_n hx hb dX10_addLiveFromOutside_80 rfl (lv_at hl 3 rfl) ?_
  replace h := b1_some h
  obtain ⟨q2, gq2, h⟩ := h
  replace h := b2_some h
  obtain ⟨_ur3, s4, gs4, h⟩ := h
  refine z_callVv (rest := []) X hW hS (cX3_add_met gs4) kb_X3_add kv_X3_add kl_X10_314 (it_v gq2).1 kX3 rfl rfl ⟨Nat.le_of_ble_eq_true rfl, Nat.le_of_ble_eq_true rfl⟩ rfl rfl (by decide) hl.1 dX10_addLiveFromOutside_81 ⟨(by decide), (by decide)⟩ (fun H locs hW hS => ?_)
  exact wX10_addLiveFromOutside_84 X hlk hr hK2 o v1 v2 v3 _ _ _ _ (lv_sub hl [0, 1, 2, 3] rfl) hW hS h

def fX10_addLiveFromOutside_49 (K2 : Nat → Option Nat → Int32 → Hz → Option (Unit × Hz)) (o : Nat) (v1 : Option Nat) (v2 : Int32) (v3 : Nat) (w0 : Int32) (h : Hz) : Option (Unit × Hz) := (b1 (gI 5 1 v3 h) fun x1 => (if x1 = 2 then fX10_addLiveFromOutside_76 K2 o v1 v2 v3 h else (if w0 = 0 then (b1 (gA 10 2 o h) fun a4 => (b1 (tg 7 a4 h) fun _ => (b2 (fX7_firstFor a4 (some v3) h) fun x6 s7 => (if x6 = (-1) then fX10_addLiveFromOutside_84 K2 o v1 v2 v3 s7 else fX10_addLiveFromOutside_76 K2 o v1 v2 v3 s7)))) else fX10_addLiveFromOutside_76 K2 o v1 v2 v3 h)))
set_option maxHeartbeats 4000000 in
set_option maxRecDepth 100000 in
theorem wX10_addLiveFromOutside_49 {r0 : Unit} {h0 : Hz} (X : zX A D cy p s m args c cX10_addLiveFromOutside RX10 5) (hlk : meth.locks = false) (hr : meth.sig.returnType = none) {K2 : Nat → Option Nat → Int32 → Hz → Option (Unit × Hz)} (hK2 : ∀ (o : Nat) (u1 : Option Nat) (u2 : Int32) (h : Hz) (H : Heap) (locs : List Loc) (ls : Array Slot), lv_has ls 5 [(0, .ref o), (1, va_rf u1), (2, .int u2)] → zW A cy D h H → va_S A s.heap H locs → K2 o u1 u2 h = some (r0, h0) → W p l e ({ frames := 2, cells := 0, slots := 0, locals := 42 } : Room) s m args below meth c H locs 0 0 (MQ below (va_Qv (fun u => u = h0) (zB A D cy) A) args s 0 0 A) (F0 m 2 ls [])) (o : Nat) (v1 : Option Nat) (v2 : Int32) (v3 : Nat) (w0 : Int32) (h : Hz) (H : Heap) (locs : List Loc) (ls : Array Slot) (hl : lv_has ls 5 [(0, .ref o), (1, va_rf v1), (2, .int v2), (3, .ref v3)]) (hW : zW A cy D h H) (hS : va_S A s.heap H locs) (h : fX10_addLiveFromOutside_49 K2 o v1 v2 v3 w0 h = some (r0, h0)) : W p l e ({ frames := 2, cells := 0, slots := 0, locals := 42 } : Room) s m args below meth c H locs 0 0 (MQ below (va_Qv (fun u => u = h0) (zB A D cy) A) args s 0 0 A) (F0 m 49 ls [.int w0]) := by
  obtain ⟨hx, hb, hts, hown, hK9, hml, hN9, hA9⟩ := id X
  unfold fX10_addLiveFromOutside_49 at h
  refine lv_istore (lv' := [(4, .int w0), (0, .ref o), (1, va_rf v1), (2, .int v2), (3, .ref v3)]) hx hb dX10_addLiveFromOutside_49 hl (by decide) rfl (fun ls hl => ?_)
  refine lv_aload_n hx hb dX10_addLiveFromOutside_51 rfl (lv_at hl 4 rfl) ?_
  replace h := b1_some h
  obtain ⟨x1, gx1, h⟩ := h
  refine z_getI X hW gx1 kX5 (by decide) (by decide) kf_X10_173 dX10_addLiveFromOutside_52 ?_
  refine lv_iconst (v := 2) hx hb dX10_addLiveFromOutside_55 (by decide) ?_
  refine lv_icmp_eq (tgt := 76) hx hb dX10_addLiveFromOutside_56 (by decide) (fun c2 => ?_) (fun c2 => ?_)
  · replace h := it_t h c2
    exact wX10_addLiveFromOutside_76 X hlk hr hK2 o v1 v2 v3 _ _ _ _ (lv_sub hl [1, 2, 3, 4] rfl) hW hS h
  · replace h := it_f h c2
    refine lv_iload hx hb dX10_addLiveFromOutside_59 (lv_at hl 0 rfl) ?_
    refine lv_if_ne (tgt := 76) hx hb dX10_addLiveFromOutside_61 (by decide) (fun c3 => ?_) (fun c3 => ?_)
    · replace h := it_f h c3
      exact wX10_addLiveFromOutside_76 X hlk hr hK2 o v1 v2 v3 _ _ _ _ (lv_sub hl [1, 2, 3, 4] rfl) hW hS h
    · replace h := it_t h c3
      refine lv_aload_n hx hb dX10_addLiveFromOutside_64 rfl (lv_at hl 1 rfl) ?_
      replace h := b1_some h
      obtain ⟨a4, ga4, h⟩ := h
      refine z_getA X hW ga4 kX10 (by decide) (by decide) kf_X10_26 dX10_addLiveFromOutside_65 ?_
      refine lv_aload_n hx hb dX10_addLiveFromOutside_68 rfl (lv_at hl 4 rfl) ?_
      replace h := b1_some h
      obtain ⟨q5, gq5, h⟩ := h
      replace h := b2_some h
      obtain ⟨x6, s7, gs7, h⟩ := h
      refine z_callVi (rest := []) X hW hS (cX7_firstFor_met gs7) kb_X7_firstFor kv_X7_firstFor kl_X10_353 (it_v gq5).1 kX7 rfl rfl ⟨Nat.le_of_ble_eq_true rfl, Nat.le_of_ble_eq_true rfl⟩ rfl rfl (by decide) hl.1 dX10_addLiveFromOutside_69 ⟨(by decide), (by decide)⟩ (fun H locs hW hS => ?_)
      refine lv_iconst (v := (-1)) hx hb dX10_addLiveFromOutside_72 (by decide) ?_
      refine lv_icmp_eq (tgt := 84) hx hb dX10_addLiveFromOutside_73 (by decide) (fun c8 => ?_) (fun c8 => ?_)
      · replace h := it_t h c8
        exact wX10_addLiveFromOutside_84 X hlk hr hK2 o v1 v2 v3 _ _ _ _ (lv_sub hl [1, 2, 3, 4] rfl) hW hS h
      · replace h := it_f h c8
        exact wX10_addLiveFromOutside_76 X hlk hr hK2 o v1 v2 v3 _ _ _ _ (lv_sub hl [1, 2, 3, 4] rfl) hW hS h

def fX10_addLiveFromOutside_48 (K2 : Nat → Option Nat → Int32 → Hz → Option (Unit × Hz)) (o : Nat) (v1 : Option Nat) (v2 : Int32) (v3 : Nat) (h : Hz) : Option (Unit × Hz) := fX10_addLiveFromOutside_49 K2 o v1 v2 v3 0 h
set_option maxHeartbeats 4000000 in
set_option maxRecDepth 100000 in
theorem wX10_addLiveFromOutside_48 {r0 : Unit} {h0 : Hz} (X : zX A D cy p s m args c cX10_addLiveFromOutside RX10 5) (hlk : meth.locks = false) (hr : meth.sig.returnType = none) {K2 : Nat → Option Nat → Int32 → Hz → Option (Unit × Hz)} (hK2 : ∀ (o : Nat) (u1 : Option Nat) (u2 : Int32) (h : Hz) (H : Heap) (locs : List Loc) (ls : Array Slot), lv_has ls 5 [(0, .ref o), (1, va_rf u1), (2, .int u2)] → zW A cy D h H → va_S A s.heap H locs → K2 o u1 u2 h = some (r0, h0) → W p l e ({ frames := 2, cells := 0, slots := 0, locals := 42 } : Room) s m args below meth c H locs 0 0 (MQ below (va_Qv (fun u => u = h0) (zB A D cy) A) args s 0 0 A) (F0 m 2 ls [])) (o : Nat) (v1 : Option Nat) (v2 : Int32) (v3 : Nat) (h : Hz) (H : Heap) (locs : List Loc) (ls : Array Slot) (hl : lv_has ls 5 [(0, .ref o), (1, va_rf v1), (2, .int v2), (3, .ref v3)]) (hW : zW A cy D h H) (hS : va_S A s.heap H locs) (h : fX10_addLiveFromOutside_48 K2 o v1 v2 v3 h = some (r0, h0)) : W p l e ({ frames := 2, cells := 0, slots := 0, locals := 42 } : Room) s m args below meth c H locs 0 0 (MQ below (va_Qv (fun u => u = h0) (zB A D cy) A) args s 0 0 A) (F0 m 48 ls []) := by
  obtain ⟨hx, hb, hts, hown, hK9, hml, hN9, hA9⟩ := id X
  unfold fX10_addLiveFromOutside_48 at h
  refine lv_iconst (v := 0) hx hb dX10_addLiveFromOutside_48 (by decide) ?_
  exact wX10_addLiveFromOutside_49 X hlk hr hK2 o v1 v2 v3 0 _ _ _ _ (lv_sub hl [0, 1, 2, 3] rfl) hW hS h

def fX10_addLiveFromOutside_2 : Nat → Nat → Option Nat → Int32 → Hz → Option (Unit × Hz)
  | 0, _, _, _, _ => none
  | n + 1, o, v1, v2, h => (b1 (gA 10 0 o h) fun a1 => (b1 (tg 6 a1 h) fun _ => (b2 (fX6_size a1 h) fun x3 s4 => (if x3 ≤ v2 then some ((), s4) else (b1 (gA 10 0 o s4) fun a6 => (b1 (tg 6 a6 s4) fun _ => (b2 (fX6_find a6 v2 s4) fun r8 s9 => (oe r8 (fX10_addLiveFromOutside_2 n o v1 (v2 + 1) s9) fun a10 => (b1 (tg 5 a10 s9) fun _ => (b2 (fX5_isAnchor a10 s9) fun x12 s13 => (if x12 = 0 then fX10_addLiveFromOutside_48 (fX10_addLiveFromOutside_2 n) o v1 v2 a10 s13 else b1 v1 fun a15 => (b1 (tg 9 a15 s13) fun _ => (b2 (fX9_hasPassed a15 (some a10) s13) fun x17 s18 => (if x17 = 0 then fX10_addLiveFromOutside_49 (fX10_addLiveFromOutside_2 n) o (some a15) v2 a10 1 s18 else fX10_addLiveFromOutside_48 (fX10_addLiveFromOutside_2 n) o (some a15) v2 a10 s18))))))))))))))
set_option maxHeartbeats 4000000 in
set_option maxRecDepth 100000 in
theorem wX10_addLiveFromOutside_2 {r0 : Unit} {h0 : Hz} (X : zX A D cy p s m args c cX10_addLiveFromOutside RX10 5) (hlk : meth.locks = false) (hr : meth.sig.returnType = none) : ∀ (n : Nat) (o : Nat) (v1 : Option Nat) (v2 : Int32) (h : Hz) (H : Heap) (locs : List Loc) (ls : Array Slot) (hl : lv_has ls 5 [(0, .ref o), (1, va_rf v1), (2, .int v2)]) (hW : zW A cy D h H) (hS : va_S A s.heap H locs) (h : fX10_addLiveFromOutside_2 n o v1 v2 h = some (r0, h0)), W p l e ({ frames := 2, cells := 0, slots := 0, locals := 42 } : Room) s m args below meth c H locs 0 0 (MQ below (va_Qv (fun u => u = h0) (zB A D cy) A) args s 0 0 A) (F0 m 2 ls []) := by
  obtain ⟨hx, hb, hts, hown, hK9, hml, hN9, hA9⟩ := id X
  intro n
  induction n with
  | zero =>
    intro o v1 v2 h H locs ls hl hW hS h
    rw [fX10_addLiveFromOutside_2] at h
    cases h
  | succ n ih =>
    intro o v1 v2 h H locs ls hl hW hS h
    rw [fX10_addLiveFromOutside_2] at h
    refine lv_iload_n hx hb dX10_addLiveFromOutside_2 rfl (lv_at hl 2 rfl) ?_
    refine lv_aload_n hx hb dX10_addLiveFromOutside_3 rfl (lv_at hl 0 rfl) ?_
    replace h := b1_some h
    obtain ⟨a1, ga1, h⟩ := h
    refine z_getA X hW ga1 kX10 (by decide) (by decide) kf_X10_10 dX10_addLiveFromOutside_4 ?_
    replace h := b1_some h
    obtain ⟨q2, gq2, h⟩ := h
    replace h := b2_some h
    obtain ⟨x3, s4, gs4, h⟩ := h
    refine z_callVi (rest := [.int v2]) X hW hS (cX6_size_met gs4) kb_X6_size kv_X6_size kl_X10_241 (it_v gq2).1 kX6 rfl rfl ⟨Nat.le_of_ble_eq_true rfl, Nat.le_of_ble_eq_true rfl⟩ rfl rfl (Nat.le_of_ble_eq_true rfl) hl.1 dX10_addLiveFromOutside_7 ⟨(by decide), (by decide)⟩ (fun H locs hW hS => ?_)
    refine lv_icmp_ge (tgt := 115) hx hb dX10_addLiveFromOutside_10 (by decide) (fun c5 => ?_) (fun c5 => ?_)
    · replace h := it_t h c5
      exact z_etv X hlk hr hW hS h (by decide) (by decide) dX10_addLiveFromOutside_115
    · replace h := it_f h c5
      refine lv_aload_n hx hb dX10_addLiveFromOutside_13 rfl (lv_at hl 0 rfl) ?_
      replace h := b1_some h
      obtain ⟨a6, ga6, h⟩ := h
      refine z_getA X hW ga6 kX10 (by decide) (by decide) kf_X10_10 dX10_addLiveFromOutside_14 ?_
      refine lv_iload_n hx hb dX10_addLiveFromOutside_17 rfl (lv_at hl 2 rfl) ?_
      replace h := b1_some h
      obtain ⟨q7, gq7, h⟩ := h
      replace h := b2_some h
      obtain ⟨r8, s9, gs9, h⟩ := h
      refine z_callVq (rest := []) X hW hS (cX6_find_met gs9) kb_X6_find kv_X6_find kl_X10_94 (it_v gq7).1 kX6 rfl rfl ⟨Nat.le_of_ble_eq_true rfl, Nat.le_of_ble_eq_true rfl⟩ rfl rfl (by decide) hl.1 dX10_addLiveFromOutside_18 ⟨(by decide), (by decide)⟩ (fun H locs hW hS => ?_)
      refine z_astore_n (lv' := [(3, va_rf r8), (0, .ref o), (1, va_rf v1), (2, .int v2)]) hx hb dX10_addLiveFromOutside_21 rfl hl (by decide) rfl (fun ls hl => ?_)
      refine z_aload_n hx hb dX10_addLiveFromOutside_22 rfl (lv_at hl 0 rfl) ?_
      cases r8 with
      | none =>
        replace h := oe_n h
        have hl : lv_has ls 5 [(3, .null), (0, .ref o), (1, va_rf v1), (2, .int v2)] := hl
        refine lv_ifnonnullN hx hb dX10_addLiveFromOutside_23 ?_
        refine lv_goto (tgt := 109) hx hb dX10_addLiveFromOutside_26 (by decide) ?_
        refine lv_iinc (v := (v2 + 1)) (lv' := [(2, .int (v2 + 1)), (3, .null), (0, .ref o), (1, va_rf v1)]) hx hb dX10_addLiveFromOutside_109 hl (k := 3) rfl rfl (by decide) (by cases v1 <;> rfl) (fun ls hl => ?_)
        refine lv_goto (tgt := 2) hx hb dX10_addLiveFromOutside_112 (by decide) ?_
        exact ih o v1 (v2 + 1) _ _ _ _ (lv_sub hl [2, 3, 0] rfl) hW hS h
      | some a10 =>
        replace h := oe_s h
        have hl : lv_has ls 5 [(3, .ref a10), (0, .ref o), (1, va_rf v1), (2, .int v2)] := hl
        refine lv_ifnonnull (tgt := 29) hx hb dX10_addLiveFromOutside_23 (by decide) ?_
        refine lv_aload_n hx hb dX10_addLiveFromOutside_29 rfl (lv_at hl 0 rfl) ?_
        replace h := b1_some h
        obtain ⟨q11, gq11, h⟩ := h
        replace h := b2_some h
        obtain ⟨x12, s13, gs13, h⟩ := h
        refine z_callVi (rest := []) X hW hS (cX5_isAnchor_met gs13) kb_X5_isAnchor kv_X5_isAnchor kl_X10_251 (it_v gq11).1 kX5 rfl rfl ⟨Nat.le_of_ble_eq_true rfl, Nat.le_of_ble_eq_true rfl⟩ rfl rfl (by decide) hl.1 dX10_addLiveFromOutside_30 ⟨(by decide), (by decide)⟩ (fun H locs hW hS => ?_)
        refine lv_if_eq (tgt := 48) hx hb dX10_addLiveFromOutside_33 (by decide) (fun c14 => ?_) (fun c14 => ?_)
        · replace h := it_t h c14
          exact wX10_addLiveFromOutside_48 X hlk hr ih o v1 v2 a10 _ _ _ _ (lv_sub hl [1, 2, 3, 0] rfl) hW hS h
        · replace h := it_f h c14
          refine z_aload_n hx hb dX10_addLiveFromOutside_36 rfl (lv_at hl 2 rfl) ?_
          refine lv_aload_n hx hb dX10_addLiveFromOutside_37 rfl (lv_at hl 0 rfl) ?_
          replace h := b1_some h
          obtain ⟨a15, ea15, h⟩ := h
          subst ea15
          replace h := b1_some h
          obtain ⟨q16, gq16, h⟩ := h
          replace h := b2_some h
          obtain ⟨x17, s18, gs18, h⟩ := h
          refine z_callVi (rest := []) X hW hS (cX9_hasPassed_met gs18) kb_X9_hasPassed kv_X9_hasPassed kl_X10_370 (it_v gq16).1 kX9 rfl rfl ⟨Nat.le_of_ble_eq_true rfl, Nat.le_of_ble_eq_true rfl⟩ rfl rfl (by decide) hl.1 dX10_addLiveFromOutside_38 ⟨(by decide), (by decide)⟩ (fun H locs hW hS => ?_)
          refine lv_if_ne (tgt := 48) hx hb dX10_addLiveFromOutside_41 (by decide) (fun c19 => ?_) (fun c19 => ?_)
          · replace h := it_f h c19
            exact wX10_addLiveFromOutside_48 X hlk hr ih o (some a15) v2 a10 _ _ _ _ (lv_sub hl [1, 2, 3, 0] rfl) hW hS h
          · replace h := it_t h c19
            refine lv_iconst (v := 1) hx hb dX10_addLiveFromOutside_44 (by decide) ?_
            refine lv_goto (tgt := 49) hx hb dX10_addLiveFromOutside_45 (by decide) ?_
            exact wX10_addLiveFromOutside_49 X hlk hr ih o (some a15) v2 a10 1 _ _ _ _ (lv_sub hl [1, 2, 3, 0] rfl) hW hS h

def fX10_addLiveFromOutside (o : Nat) (v1 : Option Nat) (h : Hz) : Option (Unit × Hz) := fX10_addLiveFromOutside_2 100000 o v1 0 h
set_option maxHeartbeats 4000000 in
set_option maxRecDepth 100000 in
theorem wX10_addLiveFromOutside_0 {r0 : Unit} {h0 : Hz} (X : zX A D cy p s m args c cX10_addLiveFromOutside RX10 5) (hlk : meth.locks = false) (hr : meth.sig.returnType = none) (o : Nat) (v1 : Option Nat) (h : Hz) (H : Heap) (locs : List Loc) (ls : Array Slot) (hl : lv_has ls 5 [(0, .ref o), (1, va_rf v1)]) (hW : zW A cy D h H) (hS : va_S A s.heap H locs) (h : fX10_addLiveFromOutside o v1 h = some (r0, h0)) : W p l e ({ frames := 2, cells := 0, slots := 0, locals := 42 } : Room) s m args below meth c H locs 0 0 (MQ below (va_Qv (fun u => u = h0) (zB A D cy) A) args s 0 0 A) (F0 m 0 ls []) := by
  obtain ⟨hx, hb, hts, hown, hK9, hml, hN9, hA9⟩ := id X
  unfold fX10_addLiveFromOutside at h
  refine lv_iconst (v := 0) hx hb dX10_addLiveFromOutside_0 (by decide) ?_
  refine lv_istore_n (lv' := [(2, .int 0), (0, .ref o), (1, va_rf v1)]) hx hb dX10_addLiveFromOutside_1 rfl hl (by decide) (by cases v1 <;> rfl) (fun ls hl => ?_)
  exact wX10_addLiveFromOutside_2 X hlk hr _ o v1 0 _ _ _ _ (lv_sub hl [1, 2, 0] rfl) hW hS h

set_option maxHeartbeats 4000000 in
set_option maxRecDepth 100000 in
theorem cX10_addLiveFromOutside_met {l : Launch} {A : Nat → Prop} {D : va_G} {cy : Nat → ClassId} {r0 : Unit} {h0 : Hz} {o : Nat} {v1 : Option Nat} {h : Hz} (g : fX10_addLiveFromOutside o v1 h = some (r0, h0)) : Met l yX10_addLiveFromOutside (Cond.code yX10_addLiveFromOutside cX10_addLiveFromOutside 5 none :: wT) ({ frames := 2, cells := 0, slots := 0, locals := 42 } : Room) (va_Pc [.ref o, va_rf v1] (zS A D cy h)) (va_Qv (fun u => u = h0) (zB A D cy) A) 0 0 A := by
  refine Met.ofW (cc := cX10_addLiveFromOutside) (maxL := 5) (ret := none) (by decide) rfl ?_
  intro p e s m args below meth c s₁ B hml hv
  obtain ⟨rfl, hW, hK, hN, hA⟩ := hv
  have X : zX A D cy p s m _ c cX10_addLiveFromOutside RX10 5 := ⟨B.exec, B.bytes, fun w hw => atoms_spec (ws := Cond.code yX10_addLiveFromOutside cX10_addLiveFromOutside 5 none :: wT) B.pre w (List.mem_cons_of_mem _ hw), findClass_of_methodNamed B.named, hK, hml, hN, hA⟩
  cases v1 with
  | none =>
    have hl := lv_entry [.ref o, va_rf none] (n := 5) (Nat.le_of_ble_eq_true rfl)
    rw [lg_entry_eq]
    generalize (lg_sl [.ref o, va_rf none] ++ List.replicate (5 - (lg_sl [.ref o, va_rf none]).length) Slot.unset).toArray = ls at hl ⊢
    have hl : lv_has ls 5 [(0, .ref o), (1, va_rf none)] := hl
    exact wX10_addLiveFromOutside_0 X B.notSynchronized B.returns o none _ _ _ _ (lv_sub hl [0, 1] rfl) hW va_S.rf g
  | some v1 =>
    have hl := lv_entry [.ref o, va_rf (some v1)] (n := 5) (Nat.le_of_ble_eq_true rfl)
    rw [lg_entry_eq]
    generalize (lg_sl [.ref o, va_rf (some v1)] ++ List.replicate (5 - (lg_sl [.ref o, va_rf (some v1)]).length) Slot.unset).toArray = ls at hl ⊢
    have hl : lv_has ls 5 [(0, .ref o), (1, va_rf (some v1))] := hl
    exact wX10_addLiveFromOutside_0 X B.notSynchronized B.returns o (some v1) _ _ _ _ (lv_sub hl [0, 1] rfl) hW va_S.rf g

theorem dX10_revive_0 : decode cX10_revive 0 = .ok (.aload_n 2, 1) := by decide +kernel
theorem dX10_revive_1 : decode cX10_revive 1 = .ok (.astore_n 3, 1) := by decide +kernel
theorem dX10_revive_2 : decode cX10_revive 2 = .ok (.aload_n 2, 1) := by decide +kernel
theorem dX10_revive_3 : decode cX10_revive 3 = .ok (.getfield 173, 3) := by decide +kernel
theorem dX10_revive_6 : decode cX10_revive 6 = .ok (.iconst 3, 1) := by decide +kernel
theorem dX10_revive_7 : decode cX10_revive 7 = .ok (.if_icmp .ne 20, 3) := by decide +kernel
theorem dX10_revive_10 : decode cX10_revive 10 = .ok (.aload_n 1, 1) := by decide +kernel
theorem dX10_revive_11 : decode cX10_revive 11 = .ok (.aload_n 2, 1) := by decide +kernel
theorem dX10_revive_12 : decode cX10_revive 12 = .ok (.invokevirtual 391, 3) := by decide +kernel
theorem dX10_revive_15 : decode cX10_revive 15 = .ok (.ifCond .eq 10, 3) := by decide +kernel
theorem dX10_revive_18 : decode cX10_revive 18 = .ok (.aload_n 2, 1) := by decide +kernel
theorem dX10_revive_19 : decode cX10_revive 19 = .ok (.getfield 180, 3) := by decide +kernel
theorem dX10_revive_22 : decode cX10_revive 22 = .ok (.goto 4, 3) := by decide +kernel
theorem dX10_revive_25 : decode cX10_revive 25 = .ok (.aconst_null, 1) := by decide +kernel
theorem dX10_revive_26 : decode cX10_revive 26 = .ok (.astore_n 3, 1) := by decide +kernel
theorem dX10_revive_27 : decode cX10_revive 27 = .ok (.aload_n 3, 1) := by decide +kernel
theorem dX10_revive_28 : decode cX10_revive 28 = .ok (.ifnull 16, 3) := by decide +kernel
theorem dX10_revive_31 : decode cX10_revive 31 = .ok (.aload_n 1, 1) := by decide +kernel
theorem dX10_revive_32 : decode cX10_revive 32 = .ok (.aload_n 3, 1) := by decide +kernel
theorem dX10_revive_33 : decode cX10_revive 33 = .ok (.invokevirtual 370, 3) := by decide +kernel
theorem dX10_revive_36 : decode cX10_revive 36 = .ok (.ifCond .eq 8, 3) := by decide +kernel
theorem dX10_revive_39 : decode cX10_revive 39 = .ok (.aload_n 0, 1) := by decide +kernel
theorem dX10_revive_40 : decode cX10_revive 40 = .ok (.aload_n 3, 1) := by decide +kernel
theorem dX10_revive_41 : decode cX10_revive 41 = .ok (.invokevirtual 425, 3) := by decide +kernel
theorem dX10_revive_44 : decode cX10_revive 44 = .ok (.return_, 1) := by decide +kernel
def fX10_revive_27 (o : Nat) (v1 : Option Nat) (v3 : Option Nat) (h : Hz) : Option (Unit × Hz) := (oe v3 (some ((), h)) fun a1 => b1 v1 fun a2 => (b1 (tg 9 a2 h) fun _ => (b2 (fX9_hasPassed a2 (some a1) h) fun x4 s5 => (if x4 = 0 then some ((), s5) else (b1 (tg 10 o s5) fun _ => (b2 (fX10_bringAlive o (some a1) s5) fun _ s9 => some ((), s9)))))))
set_option maxHeartbeats 4000000 in
set_option maxRecDepth 100000 in
theorem wX10_revive_27 {r0 : Unit} {h0 : Hz} (X : zX A D cy p s m args c cX10_revive RX10 4) (hlk : meth.locks = false) (hr : meth.sig.returnType = none) (o : Nat) (v1 : Option Nat) (v3 : Option Nat) (h : Hz) (H : Heap) (locs : List Loc) (ls : Array Slot) (hl : lv_has ls 4 [(0, .ref o), (1, va_rf v1), (3, va_rf v3)]) (hW : zW A cy D h H) (hS : va_S A s.heap H locs) (h : fX10_revive_27 o v1 v3 h = some (r0, h0)) : W p l e ({ frames := 2, cells := 0, slots := 0, locals := 42 } : Room) s m args below meth c H locs 0 0 (MQ below (va_Qv (fun u => u = h0) (zB A D cy) A) args s 0 0 A) (F0 m 27 ls []) := by
  obtain ⟨hx, hb, hts, hown, hK9, hml, hN9, hA9⟩ := id X
  unfold fX10_revive_27 at h
  refine z_aload_n hx hb dX10_revive_27 rfl (lv_at hl 2 rfl) ?_
  cases v3 with
  | none =>
    replace h := oe_n h
    have hl : lv_has ls 4 [(0, .ref o), (1, va_rf v1), (3, .null)] := hl
    refine lv_ifnullN (tgt := 44) hx hb dX10_revive_28 (by decide) ?_
    exact z_etv X hlk hr hW hS h (by decide) (by decide) dX10_revive_44
  | some a1 =>
    replace h := oe_s h
    have hl : lv_has ls 4 [(0, .ref o), (1, va_rf v1), (3, .ref a1)] := hl
    refine lv_ifnull hx hb dX10_revive_28 ?_
    refine z_aload_n hx hb dX10_revive_31 rfl (lv_at hl 1 rfl) ?_
    refine lv_aload_n hx hb dX10_revive_32 rfl (lv_at hl 2 rfl) ?_
    replace h := b1_some h
    obtain ⟨a2, ea2, h⟩ := h
    subst ea2
    replace h := b1_some h
    obtain ⟨q3, gq3, h⟩ := h
    replace h := b2_some h
    obtain ⟨x4, s5, gs5, h⟩ := h
    refine z_callVi (rest := []) X hW hS (cX9_hasPassed_met gs5) kb_X9_hasPassed kv_X9_hasPassed kl_X10_370 (it_v gq3).1 kX9 rfl rfl ⟨Nat.le_of_ble_eq_true rfl, Nat.le_of_ble_eq_true rfl⟩ rfl rfl (by decide) hl.1 dX10_revive_33 ⟨(by decide), (by decide)⟩ (fun H locs hW hS => ?_)
    refine lv_if_eq (tgt := 44) hx hb dX10_revive_36 (by decide) (fun c6 => ?_) (fun c6 => ?_)
    · replace h := it_t h c6
      exact z_etv X hlk hr hW hS h (by decide) (by decide) dX10_revive_44
    · replace h := it_f h c6
      refine lv_aload_n hx hb dX10_revive_39 rfl (lv_at hl 0 rfl) ?_
      refine lv_aload_n hx hb dX10_revive_40 rfl (lv_at hl 2 rfl) ?_
      replace h := b1_some h
      obtain ⟨q7, gq7, h⟩ := h
      replace h := b2_some h
      obtain ⟨_ur8, s9, gs9, h⟩ := h
      refine z_callVv (rest := []) X hW hS (cX10_bringAlive_met gs9) kb_X10_bringAlive kv_X10_bringAlive kl_X10_425 (it_v gq7).1 kX10 rfl rfl ⟨Nat.le_of_ble_eq_true rfl, Nat.le_of_ble_eq_true rfl⟩ rfl rfl (by decide) hl.1 dX10_revive_41 ⟨(by decide), (by decide)⟩ (fun H locs hW hS => ?_)
      exact z_etv X hlk hr hW hS h (by decide) (by decide) dX10_revive_44

def fX10_revive_26 (o : Nat) (v1 : Nat) (w0 : Option Nat) (h : Hz) : Option (Unit × Hz) := fX10_revive_27 o (some v1) w0 h
set_option maxHeartbeats 4000000 in
set_option maxRecDepth 100000 in
theorem wX10_revive_26 {r0 : Unit} {h0 : Hz} (X : zX A D cy p s m args c cX10_revive RX10 4) (hlk : meth.locks = false) (hr : meth.sig.returnType = none) (o : Nat) (v1 : Nat) (w0 : Option Nat) (h : Hz) (H : Heap) (locs : List Loc) (ls : Array Slot) (hl : lv_has ls 4 [(0, .ref o), (1, .ref v1)]) (hW : zW A cy D h H) (hS : va_S A s.heap H locs) (h : fX10_revive_26 o v1 w0 h = some (r0, h0)) : W p l e ({ frames := 2, cells := 0, slots := 0, locals := 42 } : Room) s m args below meth c H locs 0 0 (MQ below (va_Qv (fun u => u = h0) (zB A D cy) A) args s 0 0 A) (F0 m 26 ls [va_rf w0]) := by
  obtain ⟨hx, hb, hts, hown, hK9, hml, hN9, hA9⟩ := id X
  unfold fX10_revive_26 at h
  refine z_astore_n (lv' := [(3, va_rf w0), (0, .ref o), (1, .ref v1)]) hx hb dX10_revive_26 rfl hl (by decide) rfl (fun ls hl => ?_)
  exact wX10_revive_27 X hlk hr o (some v1) w0 _ _ _ _ (lv_sub hl [1, 2, 0] rfl) hW hS h

def fX10_revive (o : Nat) (v1 : Option Nat) (v2 : Option Nat) (h : Hz) : Option (Unit × Hz) := b1 v2 fun a1 => (b1 (gI 5 1 a1 h) fun x2 => (if x2 = 3 then b1 v1 fun a4 => (b1 (tg 9 a4 h) fun _ => (b2 (fX9_hasMet a4 (some a1) h) fun x6 s7 => (if x6 = 0 then fX10_revive_26 o a4 none s7 else (b1 (gP 5 6 a1 s7) fun r9 => fX10_revive_26 o a4 r9 s7)))) else fX10_revive_27 o v1 (some a1) h))
set_option maxHeartbeats 4000000 in
set_option maxRecDepth 100000 in
theorem wX10_revive_0 {r0 : Unit} {h0 : Hz} (X : zX A D cy p s m args c cX10_revive RX10 4) (hlk : meth.locks = false) (hr : meth.sig.returnType = none) (o : Nat) (v1 : Option Nat) (v2 : Option Nat) (h : Hz) (H : Heap) (locs : List Loc) (ls : Array Slot) (hl : lv_has ls 4 [(0, .ref o), (1, va_rf v1), (2, va_rf v2)]) (hW : zW A cy D h H) (hS : va_S A s.heap H locs) (h : fX10_revive o v1 v2 h = some (r0, h0)) : W p l e ({ frames := 2, cells := 0, slots := 0, locals := 42 } : Room) s m args below meth c H locs 0 0 (MQ below (va_Qv (fun u => u = h0) (zB A D cy) A) args s 0 0 A) (F0 m 0 ls []) := by
  obtain ⟨hx, hb, hts, hown, hK9, hml, hN9, hA9⟩ := id X
  unfold fX10_revive at h
  refine z_aload_n hx hb dX10_revive_0 rfl (lv_at hl 2 rfl) ?_
  refine z_astore_n (lv' := [(3, va_rf v2), (0, .ref o), (1, va_rf v1), (2, va_rf v2)]) hx hb dX10_revive_1 rfl hl (by decide) (by cases v2 <;> rfl) (fun ls hl => ?_)
  refine z_aload_n hx hb dX10_revive_2 rfl (lv_at hl 3 rfl) ?_
  replace h := b1_some h
  obtain ⟨a1, ea1, h⟩ := h
  subst ea1
  replace h := b1_some h
  obtain ⟨x2, gx2, h⟩ := h
  refine z_getI X hW gx2 kX5 (by decide) (by decide) kf_X10_173 dX10_revive_3 ?_
  refine lv_iconst (v := 3) hx hb dX10_revive_6 (by decide) ?_
  refine lv_icmp_ne (tgt := 27) hx hb dX10_revive_7 (by decide) (fun c3 => ?_) (fun c3 => ?_)
  · replace h := it_f h c3
    exact wX10_revive_27 X hlk hr o v1 (some a1) _ _ _ _ (lv_sub hl [1, 2, 0] rfl) hW hS h
  · replace h := it_t h c3
    refine z_aload_n hx hb dX10_revive_10 rfl (lv_at hl 2 rfl) ?_
    refine lv_aload_n hx hb dX10_revive_11 rfl (lv_at hl 3 rfl) ?_
    replace h := b1_some h
    obtain ⟨a4, ea4, h⟩ := h
    subst ea4
    replace h := b1_some h
    obtain ⟨q5, gq5, h⟩ := h
    replace h := b2_some h
    obtain ⟨x6, s7, gs7, h⟩ := h
    refine z_callVi (rest := []) X hW hS (cX9_hasMet_met gs7) kb_X9_hasMet kv_X9_hasMet kl_X10_391 (it_v gq5).1 kX9 rfl rfl ⟨Nat.le_of_ble_eq_true rfl, Nat.le_of_ble_eq_true rfl⟩ rfl rfl (by decide) hl.1 dX10_revive_12 ⟨(by decide), (by decide)⟩ (fun H locs hW hS => ?_)
    refine lv_if_eq (tgt := 25) hx hb dX10_revive_15 (by decide) (fun c8 => ?_) (fun c8 => ?_)
    · replace h := it_t h c8
      refine lv_null hx hb dX10_revive_25 ?_
      exact wX10_revive_26 X hlk hr o a4 none _ _ _ _ (lv_sub hl [1, 2] rfl) hW hS h
    · replace h := it_f h c8
      refine lv_aload_n hx hb dX10_revive_18 rfl (lv_at hl 3 rfl) ?_
      replace h := b1_some h
      obtain ⟨r9, gr9, h⟩ := h
      refine z_getP X hW gr9 kX5 (by decide) (by decide) kf_X10_180 dX10_revive_19 ?_
      refine lv_goto (tgt := 26) hx hb dX10_revive_22 (by decide) ?_
      exact wX10_revive_26 X hlk hr o a4 r9 _ _ _ _ (lv_sub hl [1, 2] rfl) hW hS h

set_option maxHeartbeats 4000000 in
set_option maxRecDepth 100000 in
theorem cX10_revive_met {l : Launch} {A : Nat → Prop} {D : va_G} {cy : Nat → ClassId} {r0 : Unit} {h0 : Hz} {o : Nat} {v1 : Option Nat} {v2 : Option Nat} {h : Hz} (g : fX10_revive o v1 v2 h = some (r0, h0)) : Met l yX10_revive (Cond.code yX10_revive cX10_revive 4 none :: wT) ({ frames := 2, cells := 0, slots := 0, locals := 42 } : Room) (va_Pc [.ref o, va_rf v1, va_rf v2] (zS A D cy h)) (va_Qv (fun u => u = h0) (zB A D cy) A) 0 0 A := by
  refine Met.ofW (cc := cX10_revive) (maxL := 4) (ret := none) (by decide) rfl ?_
  intro p e s m args below meth c s₁ B hml hv
  obtain ⟨rfl, hW, hK, hN, hA⟩ := hv
  have X : zX A D cy p s m _ c cX10_revive RX10 4 := ⟨B.exec, B.bytes, fun w hw => atoms_spec (ws := Cond.code yX10_revive cX10_revive 4 none :: wT) B.pre w (List.mem_cons_of_mem _ hw), findClass_of_methodNamed B.named, hK, hml, hN, hA⟩
  cases v1 with
  | none =>
    cases v2 with
    | none =>
      have hl := lv_entry [.ref o, va_rf none, va_rf none] (n := 4) (Nat.le_of_ble_eq_true rfl)
      rw [lg_entry_eq]
      generalize (lg_sl [.ref o, va_rf none, va_rf none] ++ List.replicate (4 - (lg_sl [.ref o, va_rf none, va_rf none]).length) Slot.unset).toArray = ls at hl ⊢
      have hl : lv_has ls 4 [(0, .ref o), (1, va_rf none), (2, va_rf none)] := hl
      exact wX10_revive_0 X B.notSynchronized B.returns o none none _ _ _ _ (lv_sub hl [0, 1, 2] rfl) hW va_S.rf g
    | some v2 =>
      have hl := lv_entry [.ref o, va_rf none, va_rf (some v2)] (n := 4) (Nat.le_of_ble_eq_true rfl)
      rw [lg_entry_eq]
      generalize (lg_sl [.ref o, va_rf none, va_rf (some v2)] ++ List.replicate (4 - (lg_sl [.ref o, va_rf none, va_rf (some v2)]).length) Slot.unset).toArray = ls at hl ⊢
      have hl : lv_has ls 4 [(0, .ref o), (1, va_rf none), (2, va_rf (some v2))] := hl
      exact wX10_revive_0 X B.notSynchronized B.returns o none (some v2) _ _ _ _ (lv_sub hl [0, 1, 2] rfl) hW va_S.rf g
  | some v1 =>
    cases v2 with
    | none =>
      have hl := lv_entry [.ref o, va_rf (some v1), va_rf none] (n := 4) (Nat.le_of_ble_eq_true rfl)
      rw [lg_entry_eq]
      generalize (lg_sl [.ref o, va_rf (some v1), va_rf none] ++ List.replicate (4 - (lg_sl [.ref o, va_rf (some v1), va_rf none]).length) Slot.unset).toArray = ls at hl ⊢
      have hl : lv_has ls 4 [(0, .ref o), (1, va_rf (some v1)), (2, va_rf none)] := hl
      exact wX10_revive_0 X B.notSynchronized B.returns o (some v1) none _ _ _ _ (lv_sub hl [0, 1, 2] rfl) hW va_S.rf g
    | some v2 =>
      have hl := lv_entry [.ref o, va_rf (some v1), va_rf (some v2)] (n := 4) (Nat.le_of_ble_eq_true rfl)
      rw [lg_entry_eq]
      generalize (lg_sl [.ref o, va_rf (some v1), va_rf (some v2)] ++ List.replicate (4 - (lg_sl [.ref o, va_rf (some v1), va_rf (some v2)]).length) Slot.unset).toArray = ls at hl ⊢
      have hl : lv_has ls 4 [(0, .ref o), (1, va_rf (some v1)), (2, va_rf (some v2))] := hl
      exact wX10_revive_0 X B.notSynchronized B.returns o (some v1) (some v2) _ _ _ _ (lv_sub hl [0, 1, 2] rfl) hW va_S.rf g

theorem dX10_isStartAlive_0 : decode cX10_isStartAlive 0 = .ok (.aload_n 0, 1) := by decide +kernel
theorem dX10_isStartAlive_1 : decode cX10_isStartAlive 1 = .ok (.getfield 49, 3) := by decide +kernel
theorem dX10_isStartAlive_4 : decode cX10_isStartAlive 4 = .ok (.invokevirtual 305, 3) := by decide +kernel
theorem dX10_isStartAlive_7 : decode cX10_isStartAlive 7 = .ok (.aload_n 0, 1) := by decide +kernel
theorem dX10_isStartAlive_8 : decode cX10_isStartAlive 8 = .ok (.getfield 53, 3) := by decide +kernel
theorem dX10_isStartAlive_11 : decode cX10_isStartAlive 11 = .ok (.invokevirtual 305, 3) := by decide +kernel
theorem dX10_isStartAlive_14 : decode cX10_isStartAlive 14 = .ok (.aload_n 0, 1) := by decide +kernel
theorem dX10_isStartAlive_15 : decode cX10_isStartAlive 15 = .ok (.aload_n 1, 1) := by decide +kernel
theorem dX10_isStartAlive_16 : decode cX10_isStartAlive 16 = .ok (.invokevirtual 413, 3) := by decide +kernel
theorem dX10_isStartAlive_19 : decode cX10_isStartAlive 19 = .ok (.iconst 0, 1) := by decide +kernel
theorem dX10_isStartAlive_20 : decode cX10_isStartAlive 20 = .ok (.istore_n 2, 1) := by decide +kernel
theorem dX10_isStartAlive_21 : decode cX10_isStartAlive 21 = .ok (.iload_n 2, 1) := by decide +kernel
theorem dX10_isStartAlive_22 : decode cX10_isStartAlive 22 = .ok (.aload_n 0, 1) := by decide +kernel
theorem dX10_isStartAlive_23 : decode cX10_isStartAlive 23 = .ok (.getfield 49, 3) := by decide +kernel
theorem dX10_isStartAlive_26 : decode cX10_isStartAlive 26 = .ok (.invokevirtual 388, 3) := by decide +kernel
theorem dX10_isStartAlive_29 : decode cX10_isStartAlive 29 = .ok (.if_icmp .ge 46, 3) := by decide +kernel
theorem dX10_isStartAlive_32 : decode cX10_isStartAlive 32 = .ok (.iload_n 2, 1) := by decide +kernel
theorem dX10_isStartAlive_33 : decode cX10_isStartAlive 33 = .ok (.sipush 300, 3) := by decide +kernel
theorem dX10_isStartAlive_36 : decode cX10_isStartAlive 36 = .ok (.if_icmp .ge 39, 3) := by decide +kernel
theorem dX10_isStartAlive_39 : decode cX10_isStartAlive 39 = .ok (.aload_n 0, 1) := by decide +kernel
theorem dX10_isStartAlive_40 : decode cX10_isStartAlive 40 = .ok (.getfield 49, 3) := by decide +kernel
theorem dX10_isStartAlive_43 : decode cX10_isStartAlive 43 = .ok (.iload_n 2, 1) := by decide +kernel
theorem dX10_isStartAlive_44 : decode cX10_isStartAlive 44 = .ok (.invokevirtual 389, 3) := by decide +kernel
theorem dX10_isStartAlive_47 : decode cX10_isStartAlive 47 = .ok (.astore_n 3, 1) := by decide +kernel
theorem dX10_isStartAlive_48 : decode cX10_isStartAlive 48 = .ok (.aload_n 3, 1) := by decide +kernel
theorem dX10_isStartAlive_49 : decode cX10_isStartAlive 49 = .ok (.ifnonnull 6, 3) := by decide +kernel
theorem dX10_isStartAlive_52 : decode cX10_isStartAlive 52 = .ok (.goto 17, 3) := by decide +kernel
theorem dX10_isStartAlive_55 : decode cX10_isStartAlive 55 = .ok (.aload_n 0, 1) := by decide +kernel
theorem dX10_isStartAlive_56 : decode cX10_isStartAlive 56 = .ok (.getfield 49, 3) := by decide +kernel
theorem dX10_isStartAlive_59 : decode cX10_isStartAlive 59 = .ok (.aload_n 3, 1) := by decide +kernel
theorem dX10_isStartAlive_60 : decode cX10_isStartAlive 60 = .ok (.invokevirtual 416, 3) := by decide +kernel
theorem dX10_isStartAlive_63 : decode cX10_isStartAlive 63 = .ok (.aload_n 0, 1) := by decide +kernel
theorem dX10_isStartAlive_64 : decode cX10_isStartAlive 64 = .ok (.aload_n 1, 1) := by decide +kernel
theorem dX10_isStartAlive_65 : decode cX10_isStartAlive 65 = .ok (.aload_n 3, 1) := by decide +kernel
theorem dX10_isStartAlive_66 : decode cX10_isStartAlive 66 = .ok (.invokevirtual 419, 3) := by decide +kernel
theorem dX10_isStartAlive_69 : decode cX10_isStartAlive 69 = .ok (.iinc 2 1, 3) := by decide +kernel
theorem dX10_isStartAlive_72 : decode cX10_isStartAlive 72 = .ok (.goto (-51), 3) := by decide +kernel
theorem dX10_isStartAlive_75 : decode cX10_isStartAlive 75 = .ok (.aload_n 0, 1) := by decide +kernel
theorem dX10_isStartAlive_76 : decode cX10_isStartAlive 76 = .ok (.getfield 53, 3) := by decide +kernel
theorem dX10_isStartAlive_79 : decode cX10_isStartAlive 79 = .ok (.aload_n 1, 1) := by decide +kernel
theorem dX10_isStartAlive_80 : decode cX10_isStartAlive 80 = .ok (.getfield 263, 3) := by decide +kernel
theorem dX10_isStartAlive_83 : decode cX10_isStartAlive 83 = .ok (.invokevirtual 244, 3) := by decide +kernel
theorem dX10_isStartAlive_86 : decode cX10_isStartAlive 86 = .ok (.ireturn, 1) := by decide +kernel
def fX10_isStartAlive_75 (o : Nat) (v1 : Option Nat) (h : Hz) : Option (Int32 × Hz) := (b1 (gA 10 8 o h) fun a1 => b1 v1 fun a2 => (b1 (gA 9 1 a2 h) fun a3 => (b1 (tg 3 a1 h) fun _ => (b2 (fX3_has a1 (some a3) h) fun x5 s6 => rz x5 s6))))
set_option maxHeartbeats 4000000 in
set_option maxRecDepth 100000 in
theorem wX10_isStartAlive_75 {r0 : Int32} {h0 : Hz} (X : zX A D cy p s m args c cX10_isStartAlive RX10 4) (hlk : meth.locks = false) (hr : meth.sig.returnType = (some .boolean)) (o : Nat) (v1 : Option Nat) (h : Hz) (H : Heap) (locs : List Loc) (ls : Array Slot) (hl : lv_has ls 4 [(0, .ref o), (1, va_rf v1)]) (hW : zW A cy D h H) (hS : va_S A s.heap H locs) (h : fX10_isStartAlive_75 o v1 h = some (r0, h0)) : W p l e ({ frames := 3, cells := 0, slots := 0, locals := 66 } : Room) s m args below meth c H locs 0 0 (MQ below (va_Qi (fun r1 u => r1 = r0 ∧ u = h0) (zB A D cy) A) args s 0 0 A) (F0 m 75 ls []) := by
  obtain ⟨hx, hb, hts, hown, hK9, hml, hN9, hA9⟩ := id X
  unfold fX10_isStartAlive_75 at h
  refine lv_aload_n hx hb dX10_isStartAlive_75 rfl (lv_at hl 0 rfl) ?_
  replace h := b1_some h
  obtain ⟨a1, ga1, h⟩ := h
  refine z_getA X hW ga1 kX10 (by decide) (by decide) kf_X10_53 dX10_isStartAlive_76 ?_
  refine z_aload_n hx hb dX10_isStartAlive_79 rfl (lv_at hl 1 rfl) ?_
  replace h := b1_some h
  obtain ⟨a2, ea2, h⟩ := h
  subst ea2
  replace h := b1_some h
  obtain ⟨a3, ga3, h⟩ := h
  refine z_getA X hW ga3 kX9 (by decide) (by decide) kf_X10_263 dX10_isStartAlive_80 ?_
  replace h := b1_some h
  obtain ⟨q4, gq4, h⟩ := h
  replace h := b2_some h
  obtain ⟨x5, s6, gs6, h⟩ := h
  refine z_callVi (rest := []) X hW hS (cX3_has_met gs6) kb_X3_has kv_X3_has kl_X10_244 (it_v gq4).1 kX3 rfl rfl ⟨Nat.le_of_ble_eq_true rfl, Nat.le_of_ble_eq_true rfl⟩ rfl rfl (by decide) hl.1 dX10_isStartAlive_83 ⟨(by decide), (by decide)⟩ (fun H locs hW hS => ?_)
  exact z_etz X hlk hr hW hS h (by decide) (by decide) dX10_isStartAlive_86

def fX10_isStartAlive_21 : Nat → Nat → Option Nat → Int32 → Hz → Option (Int32 × Hz)
  | 0, _, _, _, _ => none
  | n + 1, o, v1, v2, h => (b1 (gA 10 7 o h) fun a1 => (b1 (tg 3 a1 h) fun _ => (b2 (fX3_size a1 h) fun x3 s4 => (if x3 ≤ v2 then fX10_isStartAlive_75 o v1 s4 else (if 300 ≤ v2 then fX10_isStartAlive_75 o v1 s4 else (b1 (gA 10 7 o s4) fun a7 => (b1 (tg 3 a7 s4) fun _ => (b2 (fX3_at a7 v2 s4) fun r9 s10 => (oe r9 (fX10_isStartAlive_21 n o v1 (v2 + 1) s10) fun a11 => (b1 (gA 10 7 o s10) fun a12 => (b1 (tg 3 a12 s10) fun _ => (b2 (fX3_addHeldBy a12 (some a11) s10) fun _ s15 => (b1 (tg 10 o s15) fun _ => (b2 (fX10_revive o v1 (some a11) s15) fun _ s18 => fX10_isStartAlive_21 n o v1 (v2 + 1) s18))))))))))))))
set_option maxHeartbeats 4000000 in
set_option maxRecDepth 100000 in
theorem wX10_isStartAlive_21 {r0 : Int32} {h0 : Hz} (X : zX A D cy p s m args c cX10_isStartAlive RX10 4) (hlk : meth.locks = false) (hr : meth.sig.returnType = (some .boolean)) : ∀ (n : Nat) (o : Nat) (v1 : Option Nat) (v2 : Int32) (h : Hz) (H : Heap) (locs : List Loc) (ls : Array Slot) (hl : lv_has ls 4 [(0, .ref o), (1, va_rf v1), (2, .int v2)]) (hW : zW A cy D h H) (hS : va_S A s.heap H locs) (h : fX10_isStartAlive_21 n o v1 v2 h = some (r0, h0)), W p l e ({ frames := 3, cells := 0, slots := 0, locals := 66 } : Room) s m args below meth c H locs 0 0 (MQ below (va_Qi (fun r1 u => r1 = r0 ∧ u = h0) (zB A D cy) A) args s 0 0 A) (F0 m 21 ls []) := by
  obtain ⟨hx, hb, hts, hown, hK9, hml, hN9, hA9⟩ := id X
  intro n
  induction n with
  | zero =>
    intro o v1 v2 h H locs ls hl hW hS h
    rw [fX10_isStartAlive_21] at h
    cases h
  | succ n ih =>
    intro o v1 v2 h H locs ls hl hW hS h
    rw [fX10_isStartAlive_21] at h
    refine lv_iload_n hx hb dX10_isStartAlive_21 rfl (lv_at hl 2 rfl) ?_
    refine lv_aload_n hx hb dX10_isStartAlive_22 rfl (lv_at hl 0 rfl) ?_
    replace h := b1_some h
    obtain ⟨a1, ga1, h⟩ := h
    refine z_getA X hW ga1 kX10 (by decide) (by decide) kf_X10_49 dX10_isStartAlive_23 ?_
    replace h := b1_some h
    obtain ⟨q2, gq2, h⟩ := h
    replace h := b2_some h
    obtain ⟨x3, s4, gs4, h⟩ := h
    refine z_callVi (rest := [.int v2]) X hW hS (cX3_size_met gs4) kb_X3_size kv_X3_size kl_X10_388 (it_v gq2).1 kX3 rfl rfl ⟨Nat.le_of_ble_eq_true rfl, Nat.le_of_ble_eq_true rfl⟩ rfl rfl (Nat.le_of_ble_eq_true rfl) hl.1 dX10_isStartAlive_26 ⟨(by decide), (by decide)⟩ (fun H locs hW hS => ?_)
    refine lv_icmp_ge (tgt := 75) hx hb dX10_isStartAlive_29 (by decide) (fun c5 => ?_) (fun c5 => ?_)
    · replace h := it_t h c5
      exact wX10_isStartAlive_75 X hlk hr o v1 _ _ _ _ (lv_sub hl [0, 1] rfl) hW hS h
    · replace h := it_f h c5
      refine lv_iload_n hx hb dX10_isStartAlive_32 rfl (lv_at hl 2 rfl) ?_
      refine lv_sipush (v := 300) hx hb dX10_isStartAlive_33 (by decide) ?_
      refine lv_icmp_ge (tgt := 75) hx hb dX10_isStartAlive_36 (by decide) (fun c6 => ?_) (fun c6 => ?_)
      · replace h := it_t h c6
        exact wX10_isStartAlive_75 X hlk hr o v1 _ _ _ _ (lv_sub hl [0, 1] rfl) hW hS h
      · replace h := it_f h c6
        refine lv_aload_n hx hb dX10_isStartAlive_39 rfl (lv_at hl 0 rfl) ?_
        replace h := b1_some h
        obtain ⟨a7, ga7, h⟩ := h
        refine z_getA X hW ga7 kX10 (by decide) (by decide) kf_X10_49 dX10_isStartAlive_40 ?_
        refine lv_iload_n hx hb dX10_isStartAlive_43 rfl (lv_at hl 2 rfl) ?_
        replace h := b1_some h
        obtain ⟨q8, gq8, h⟩ := h
        replace h := b2_some h
        obtain ⟨r9, s10, gs10, h⟩ := h
        refine z_callVq (rest := []) X hW hS (cX3_at_met gs10) kb_X3_at kv_X3_at kl_X10_389 (it_v gq8).1 kX3 rfl rfl ⟨Nat.le_of_ble_eq_true rfl, Nat.le_of_ble_eq_true rfl⟩ rfl rfl (by decide) hl.1 dX10_isStartAlive_44 ⟨(by decide), (by decide)⟩ (fun H locs hW hS => ?_)
        refine z_astore_n (lv' := [(3, va_rf r9), (0, .ref o), (1, va_rf v1), (2, .int v2)]) hx hb dX10_isStartAlive_47 rfl hl (by decide) rfl (fun ls hl => ?_)
        refine z_aload_n hx hb dX10_isStartAlive_48 rfl (lv_at hl 0 rfl) ?_
        cases r9 with
        | none =>
          replace h := oe_n h
          have hl : lv_has ls 4 [(3, .null), (0, .ref o), (1, va_rf v1), (2, .int v2)] := hl
          refine lv_ifnonnullN hx hb dX10_isStartAlive_49 ?_
          refine lv_goto (tgt := 69) hx hb dX10_isStartAlive_52 (by decide) ?_
          refine lv_iinc (v := (v2 + 1)) (lv' := [(2, .int (v2 + 1)), (3, .null), (0, .ref o), (1, va_rf v1)]) hx hb dX10_isStartAlive_69 hl (k := 3) rfl rfl (by decide) (by cases v1 <;> rfl) (fun ls hl => ?_)
          refine lv_goto (tgt := 21) hx hb dX10_isStartAlive_72 (by decide) ?_
          exact ih o v1 (v2 + 1) _ _ _ _ (lv_sub hl [2, 3, 0] rfl) hW hS h
        | some a11 =>
          replace h := oe_s h
          have hl : lv_has ls 4 [(3, .ref a11), (0, .ref o), (1, va_rf v1), (2, .int v2)] := hl
          refine lv_ifnonnull (tgt := 55) hx hb dX10_isStartAlive_49 (by decide) ?_
          refine lv_aload_n hx hb dX10_isStartAlive_55 rfl (lv_at hl 1 rfl) ?_
          replace h := b1_some h
          obtain ⟨a12, ga12, h⟩ := h
          refine z_getA X hW ga12 kX10 (by decide) (by decide) kf_X10_49 dX10_isStartAlive_56 ?_
          refine lv_aload_n hx hb dX10_isStartAlive_59 rfl (lv_at hl 0 rfl) ?_
          replace h := b1_some h
          obtain ⟨q13, gq13, h⟩ := h
          replace h := b2_some h
          obtain ⟨_ur14, s15, gs15, h⟩ := h
          refine z_callVv (rest := []) X hW hS (cX3_addHeldBy_met gs15) kb_X3_addHeldBy kv_X3_addHeldBy kl_X10_416 (it_v gq13).1 kX3 rfl rfl ⟨Nat.le_of_ble_eq_true rfl, Nat.le_of_ble_eq_true rfl⟩ rfl rfl (by decide) hl.1 dX10_isStartAlive_60 ⟨(by decide), (by decide)⟩ (fun H locs hW hS => ?_)
          refine lv_aload_n hx hb dX10_isStartAlive_63 rfl (lv_at hl 1 rfl) ?_
          refine z_aload_n hx hb dX10_isStartAlive_64 rfl (lv_at hl 2 rfl) ?_
          refine lv_aload_n hx hb dX10_isStartAlive_65 rfl (lv_at hl 0 rfl) ?_
          replace h := b1_some h
          obtain ⟨q16, gq16, h⟩ := h
          replace h := b2_some h
          obtain ⟨_ur17, s18, gs18, h⟩ := h
          refine z_callVv (rest := []) X hW hS (cX10_revive_met gs18) kb_X10_revive kv_X10_revive kl_X10_419 (it_v gq16).1 kX10 rfl rfl ⟨Nat.le_of_ble_eq_true rfl, Nat.le_of_ble_eq_true rfl⟩ rfl rfl (by decide) hl.1 dX10_isStartAlive_66 ⟨(by decide), (by decide)⟩ (fun H locs hW hS => ?_)
          refine lv_iinc (v := (v2 + 1)) (lv' := [(2, .int (v2 + 1)), (3, .ref a11), (0, .ref o), (1, va_rf v1)]) hx hb dX10_isStartAlive_69 hl (k := 3) rfl rfl (by decide) (by cases v1 <;> rfl) (fun ls hl => ?_)
          refine lv_goto (tgt := 21) hx hb dX10_isStartAlive_72 (by decide) ?_
          exact ih o v1 (v2 + 1) _ _ _ _ (lv_sub hl [2, 3, 0] rfl) hW hS h

def fX10_isStartAlive (o : Nat) (v1 : Option Nat) (h : Hz) : Option (Int32 × Hz) := (b1 (gA 10 7 o h) fun a1 => (b1 (tg 3 a1 h) fun _ => (b2 (fX3_restart a1 h) fun _ s4 => (b1 (gA 10 8 o s4) fun a5 => (b1 (tg 3 a5 s4) fun _ => (b2 (fX3_restart a5 s4) fun _ s8 => (b1 (tg 10 o s8) fun _ => (b2 (fX10_addLiveFromOutside o v1 s8) fun _ s11 => fX10_isStartAlive_21 100000 o v1 0 s11))))))))
set_option maxHeartbeats 4000000 in
set_option maxRecDepth 100000 in
theorem wX10_isStartAlive_0 {r0 : Int32} {h0 : Hz} (X : zX A D cy p s m args c cX10_isStartAlive RX10 4) (hlk : meth.locks = false) (hr : meth.sig.returnType = (some .boolean)) (o : Nat) (v1 : Option Nat) (h : Hz) (H : Heap) (locs : List Loc) (ls : Array Slot) (hl : lv_has ls 4 [(0, .ref o), (1, va_rf v1)]) (hW : zW A cy D h H) (hS : va_S A s.heap H locs) (h : fX10_isStartAlive o v1 h = some (r0, h0)) : W p l e ({ frames := 3, cells := 0, slots := 0, locals := 66 } : Room) s m args below meth c H locs 0 0 (MQ below (va_Qi (fun r1 u => r1 = r0 ∧ u = h0) (zB A D cy) A) args s 0 0 A) (F0 m 0 ls []) := by
  obtain ⟨hx, hb, hts, hown, hK9, hml, hN9, hA9⟩ := id X
  unfold fX10_isStartAlive at h
  refine lv_aload_n hx hb dX10_isStartAlive_0 rfl (lv_at hl 0 rfl) ?_
  replace h := b1_some h
  obtain ⟨a1, ga1, h⟩ := h
  refine z_getA X hW ga1 kX10 (by decide) (by decide) kf_X10_49 dX10_isStartAlive_1 ?_
  replace h := b1_some h
  obtain ⟨q2, gq2, h⟩ := h
  replace h := b2_some h
  obtain ⟨_ur3, s4, gs4, h⟩ := h
  refine z_callVv (rest := []) X hW hS (cX3_restart_met gs4) kb_X3_restart kv_X3_restart kl_X10_305 (it_v gq2).1 kX3 rfl rfl ⟨Nat.le_of_ble_eq_true rfl, Nat.le_of_ble_eq_true rfl⟩ rfl rfl (by decide) hl.1 dX10_isStartAlive_4 ⟨(by decide), (by decide)⟩ (fun H locs hW hS => ?_)
  refine lv_aload_n hx hb dX10_isStartAlive_7 rfl (lv_at hl 0 rfl) ?_
  replace h := b1_some h
  obtain ⟨a5, ga5, h⟩ := h
  refine z_getA X hW ga5 kX10 (by decide) (by decide) kf_X10_53 dX10_isStartAlive_8 ?_
  replace h := b1_some h
  obtain ⟨q6, gq6, h⟩ := h
  replace h := b2_some h
  obtain ⟨_ur7, s8, gs8, h⟩ := h
  refine z_callVv (rest := []) X hW hS (cX3_restart_met gs8) kb_X3_restart kv_X3_restart kl_X10_305 (it_v gq6).1 kX3 rfl rfl ⟨Nat.le_of_ble_eq_true rfl, Nat.le_of_ble_eq_true rfl⟩ rfl rfl (by decide) hl.1 dX10_isStartAlive_11 ⟨(by decide), (by decide)⟩ (fun H locs hW hS => ?_)
  refine lv_aload_n hx hb dX10_isStartAlive_14 rfl (lv_at hl 0 rfl) ?_
  refine z_aload_n hx hb dX10_isStartAlive_15 rfl (lv_at hl 1 rfl) ?_
  replace h := b1_some h
  obtain ⟨q9, gq9, h⟩ := h
  replace h := b2_some h
  obtain ⟨_ur10, s11, gs11, h⟩ := h
  refine z_callVv (rest := []) X hW hS (cX10_addLiveFromOutside_met gs11) kb_X10_addLiveFromOutside kv_X10_addLiveFromOutside kl_X10_413 (it_v gq9).1 kX10 rfl rfl ⟨Nat.le_of_ble_eq_true rfl, Nat.le_of_ble_eq_true rfl⟩ rfl rfl (by decide) hl.1 dX10_isStartAlive_16 ⟨(by decide), (by decide)⟩ (fun H locs hW hS => ?_)
  refine lv_iconst (v := 0) hx hb dX10_isStartAlive_19 (by decide) ?_
  refine lv_istore_n (lv' := [(2, .int 0), (0, .ref o), (1, va_rf v1)]) hx hb dX10_isStartAlive_20 rfl hl (by decide) (by cases v1 <;> rfl) (fun ls hl => ?_)
  exact wX10_isStartAlive_21 X hlk hr _ o v1 0 _ _ _ _ (lv_sub hl [1, 2, 0] rfl) hW hS h

set_option maxHeartbeats 4000000 in
set_option maxRecDepth 100000 in
theorem cX10_isStartAlive_met {l : Launch} {A : Nat → Prop} {D : va_G} {cy : Nat → ClassId} {r0 : Int32} {h0 : Hz} {o : Nat} {v1 : Option Nat} {h : Hz} (g : fX10_isStartAlive o v1 h = some (r0, h0)) : Met l yX10_isStartAlive (Cond.code yX10_isStartAlive cX10_isStartAlive 4 (some .boolean) :: wT) ({ frames := 3, cells := 0, slots := 0, locals := 66 } : Room) (va_Pc [.ref o, va_rf v1] (zS A D cy h)) (va_Qi (fun r1 u => r1 = r0 ∧ u = h0) (zB A D cy) A) 0 0 A := by
  refine Met.ofW (cc := cX10_isStartAlive) (maxL := 4) (ret := (some .boolean)) (by decide) rfl ?_
  intro p e s m args below meth c s₁ B hml hv
  obtain ⟨rfl, hW, hK, hN, hA⟩ := hv
  have X : zX A D cy p s m _ c cX10_isStartAlive RX10 4 := ⟨B.exec, B.bytes, fun w hw => atoms_spec (ws := Cond.code yX10_isStartAlive cX10_isStartAlive 4 (some .boolean) :: wT) B.pre w (List.mem_cons_of_mem _ hw), findClass_of_methodNamed B.named, hK, hml, hN, hA⟩
  cases v1 with
  | none =>
    have hl := lv_entry [.ref o, va_rf none] (n := 4) (Nat.le_of_ble_eq_true rfl)
    rw [lg_entry_eq]
    generalize (lg_sl [.ref o, va_rf none] ++ List.replicate (4 - (lg_sl [.ref o, va_rf none]).length) Slot.unset).toArray = ls at hl ⊢
    have hl : lv_has ls 4 [(0, .ref o), (1, va_rf none)] := hl
    exact wX10_isStartAlive_0 X B.notSynchronized B.returns o none _ _ _ _ (lv_sub hl [0, 1] rfl) hW va_S.rf g
  | some v1 =>
    have hl := lv_entry [.ref o, va_rf (some v1)] (n := 4) (Nat.le_of_ble_eq_true rfl)
    rw [lg_entry_eq]
    generalize (lg_sl [.ref o, va_rf (some v1)] ++ List.replicate (4 - (lg_sl [.ref o, va_rf (some v1)]).length) Slot.unset).toArray = ls at hl ⊢
    have hl : lv_has ls 4 [(0, .ref o), (1, va_rf (some v1))] := hl
    exact wX10_isStartAlive_0 X B.notSynchronized B.returns o (some v1) _ _ _ _ (lv_sub hl [0, 1] rfl) hW va_S.rf g

theorem dX10_endWalk_0 : decode cX10_endWalk 0 = .ok (.aload_n 1, 1) := by decide +kernel
theorem dX10_endWalk_1 : decode cX10_endWalk 1 = .ok (.aload_n 0, 1) := by decide +kernel
theorem dX10_endWalk_2 : decode cX10_endWalk 2 = .ok (.getfield 36, 3) := by decide +kernel
theorem dX10_endWalk_5 : decode cX10_endWalk 5 = .ok (.invokevirtual 405, 3) := by decide +kernel
theorem dX10_endWalk_8 : decode cX10_endWalk 8 = .ok (.ifCond .eq 11, 3) := by decide +kernel
theorem dX10_endWalk_11 : decode cX10_endWalk 11 = .ok (.aload_n 1, 1) := by decide +kernel
theorem dX10_endWalk_12 : decode cX10_endWalk 12 = .ok (.iconst 2, 1) := by decide +kernel
theorem dX10_endWalk_13 : decode cX10_endWalk 13 = .ok (.putfield 260, 3) := by decide +kernel
theorem dX10_endWalk_16 : decode cX10_endWalk 16 = .ok (.goto 43, 3) := by decide +kernel
theorem dX10_endWalk_19 : decode cX10_endWalk 19 = .ok (.aload_n 0, 1) := by decide +kernel
theorem dX10_endWalk_20 : decode cX10_endWalk 20 = .ok (.aload_n 1, 1) := by decide +kernel
theorem dX10_endWalk_21 : decode cX10_endWalk 21 = .ok (.invokevirtual 409, 3) := by decide +kernel
theorem dX10_endWalk_24 : decode cX10_endWalk 24 = .ok (.ifCond .eq 11, 3) := by decide +kernel
theorem dX10_endWalk_27 : decode cX10_endWalk 27 = .ok (.aload_n 1, 1) := by decide +kernel
theorem dX10_endWalk_28 : decode cX10_endWalk 28 = .ok (.iconst 1, 1) := by decide +kernel
theorem dX10_endWalk_29 : decode cX10_endWalk 29 = .ok (.putfield 260, 3) := by decide +kernel
theorem dX10_endWalk_32 : decode cX10_endWalk 32 = .ok (.goto 27, 3) := by decide +kernel
theorem dX10_endWalk_35 : decode cX10_endWalk 35 = .ok (.aload_n 1, 1) := by decide +kernel
theorem dX10_endWalk_36 : decode cX10_endWalk 36 = .ok (.iconst 3, 1) := by decide +kernel
theorem dX10_endWalk_37 : decode cX10_endWalk 37 = .ok (.putfield 260, 3) := by decide +kernel
theorem dX10_endWalk_40 : decode cX10_endWalk 40 = .ok (.aload_n 1, 1) := by decide +kernel
theorem dX10_endWalk_41 : decode cX10_endWalk 41 = .ok (.getfield 263, 3) := by decide +kernel
theorem dX10_endWalk_44 : decode cX10_endWalk 44 = .ok (.iconst 1, 1) := by decide +kernel
theorem dX10_endWalk_45 : decode cX10_endWalk 45 = .ok (.putfield 166, 3) := by decide +kernel
theorem dX10_endWalk_48 : decode cX10_endWalk 48 = .ok (.aload_n 0, 1) := by decide +kernel
theorem dX10_endWalk_49 : decode cX10_endWalk 49 = .ok (.aload_n 1, 1) := by decide +kernel
theorem dX10_endWalk_50 : decode cX10_endWalk 50 = .ok (.getfield 263, 3) := by decide +kernel
theorem dX10_endWalk_53 : decode cX10_endWalk 53 = .ok (.getfield 109, 3) := by decide +kernel
theorem dX10_endWalk_56 : decode cX10_endWalk 56 = .ok (.invokevirtual 85, 3) := by decide +kernel
theorem dX10_endWalk_59 : decode cX10_endWalk 59 = .ok (.return_, 1) := by decide +kernel
def fX10_endWalk (o : Nat) (v1 : Option Nat) (h : Hz) : Option (Unit × Hz) := (b1 (gA 10 4 o h) fun a1 => b1 v1 fun a2 => (b1 (tg 9 a2 h) fun _ => (b2 (fX9_isChanged a2 (some a1) h) fun x4 s5 => (if x4 = 0 then (b1 (tg 10 o s5) fun _ => (b2 (fX10_isStartAlive o (some a2) s5) fun x8 s9 => (if x8 = 0 then (b1 (pI 9 6 a2 3 s9) fun s11 => (b1 (gA 9 1 a2 s11) fun a12 => (b1 (pZ 5 9 a12 1 s11) fun s13 => (b1 (gA 9 1 a2 s13) fun a14 => (b1 (gI 5 2 a14 s13) fun x15 => (b1 (tg 10 o s13) fun _ => (b2 (fX10_touch o x15 s13) fun _ s18 => some ((), s18)))))))) else (b1 (pI 9 6 a2 1 s9) fun s19 => some ((), s19))))) else (b1 (pI 9 6 a2 2 s5) fun s20 => some ((), s20))))))
set_option maxHeartbeats 4000000 in
set_option maxRecDepth 100000 in
theorem wX10_endWalk_0 {r0 : Unit} {h0 : Hz} (X : zX A D cy p s m args c cX10_endWalk RX10 2) (hlk : meth.locks = false) (hr : meth.sig.returnType = none) (o : Nat) (v1 : Option Nat) (h : Hz) (H : Heap) (locs : List Loc) (ls : Array Slot) (hl : lv_has ls 2 [(0, .ref o), (1, va_rf v1)]) (hW : zW A cy D h H) (hS : va_S A s.heap H locs) (h : fX10_endWalk o v1 h = some (r0, h0)) : W p l e ({ frames := 4, cells := 0, slots := 0, locals := 89 } : Room) s m args below meth c H locs 0 0 (MQ below (va_Qv (fun u => u = h0) (zB A D cy) A) args s 0 0 A) (F0 m 0 ls []) := by
  obtain ⟨hx, hb, hts, hown, hK9, hml, hN9, hA9⟩ := id X
  unfold fX10_endWalk at h
  refine z_aload_n hx hb dX10_endWalk_0 rfl (lv_at hl 1 rfl) ?_
  refine lv_aload_n hx hb dX10_endWalk_1 rfl (lv_at hl 0 rfl) ?_
  replace h := b1_some h
  obtain ⟨a1, ga1, h⟩ := h
  refine z_getA X hW ga1 kX10 (by decide) (by decide) kf_X10_36 dX10_endWalk_2 ?_
  replace h := b1_some h
  obtain ⟨a2, ea2, h⟩ := h
  subst ea2
  replace h := b1_some h
  obtain ⟨q3, gq3, h⟩ := h
  replace h := b2_some h
  obtain ⟨x4, s5, gs5, h⟩ := h
  refine z_callVi (rest := []) X hW hS (cX9_isChanged_met gs5) kb_X9_isChanged kv_X9_isChanged kl_X10_405 (it_v gq3).1 kX9 rfl rfl ⟨Nat.le_of_ble_eq_true rfl, Nat.le_of_ble_eq_true rfl⟩ rfl rfl (by decide) hl.1 dX10_endWalk_5 ⟨(by decide), (by decide)⟩ (fun H locs hW hS => ?_)
  refine lv_if_eq (tgt := 19) hx hb dX10_endWalk_8 (by decide) (fun c6 => ?_) (fun c6 => ?_)
  · replace h := it_t h c6
    refine lv_aload_n hx hb dX10_endWalk_19 rfl (lv_at hl 0 rfl) ?_
    refine lv_aload_n hx hb dX10_endWalk_20 rfl (lv_at hl 1 rfl) ?_
    replace h := b1_some h
    obtain ⟨q7, gq7, h⟩ := h
    replace h := b2_some h
    obtain ⟨x8, s9, gs9, h⟩ := h
    refine z_callVi (rest := []) X hW hS (cX10_isStartAlive_met gs9) kb_X10_isStartAlive kv_X10_isStartAlive kl_X10_409 (it_v gq7).1 kX10 rfl rfl ⟨Nat.le_of_ble_eq_true rfl, Nat.le_of_ble_eq_true rfl⟩ rfl rfl (by decide) hl.1 dX10_endWalk_21 ⟨(by decide), (by decide)⟩ (fun H locs hW hS => ?_)
    refine lv_if_eq (tgt := 35) hx hb dX10_endWalk_24 (by decide) (fun c10 => ?_) (fun c10 => ?_)
    · replace h := it_t h c10
      refine lv_aload_n hx hb dX10_endWalk_35 rfl (lv_at hl 1 rfl) ?_
      refine lv_iconst (v := 3) hx hb dX10_endWalk_36 (by decide) ?_
      replace h := b1_some h
      obtain ⟨s11, gs11, h⟩ := h
      refine z_putI X hW hS gs11 kX9 (by decide) (by decide) rfl (Or.inl rfl) kf_X10_260 dX10_endWalk_37 (fun H locs hW hS => ?_)
      refine lv_aload_n hx hb dX10_endWalk_40 rfl (lv_at hl 1 rfl) ?_
      replace h := b1_some h
      obtain ⟨a12, ga12, h⟩ := h
      refine z_getA X hW ga12 kX9 (by decide) (by decide) kf_X10_263 dX10_endWalk_41 ?_
      refine lv_iconst (v := 1) hx hb dX10_endWalk_44 (by decide) ?_
      replace h := b1_some h
      obtain ⟨s13, gs13, h⟩ := h
      refine z_putZ X hW hS gs13 kX5 (by decide) (by decide) rfl (Or.inl rfl) kf_X10_166 dX10_endWalk_45 (fun H locs hW hS => ?_)
      refine lv_aload_n hx hb dX10_endWalk_48 rfl (lv_at hl 0 rfl) ?_
      refine lv_aload_n hx hb dX10_endWalk_49 rfl (lv_at hl 1 rfl) ?_
      replace h := b1_some h
      obtain ⟨a14, ga14, h⟩ := h
      refine z_getA X hW ga14 kX9 (by decide) (by decide) kf_X10_263 dX10_endWalk_50 ?_
      replace h := b1_some h
      obtain ⟨x15, gx15, h⟩ := h
      refine z_getI X hW gx15 kX5 (by decide) (by decide) kf_X10_109 dX10_endWalk_53 ?_
      replace h := b1_some h
      obtain ⟨q16, gq16, h⟩ := h
      replace h := b2_some h
      obtain ⟨_ur17, s18, gs18, h⟩ := h
      refine z_callVv (rest := []) X hW hS (cX10_touch_met gs18) kb_X10_touch kv_X10_touch kl_X10_85 (it_v gq16).1 kX10 rfl rfl ⟨Nat.le_of_ble_eq_true rfl, Nat.le_of_ble_eq_true rfl⟩ rfl rfl (by decide) hl.1 dX10_endWalk_56 ⟨(by decide), (by decide)⟩ (fun H locs hW hS => ?_)
      exact z_etv X hlk hr hW hS h (by decide) (by decide) dX10_endWalk_59
    · replace h := it_f h c10
      refine lv_aload_n hx hb dX10_endWalk_27 rfl (lv_at hl 1 rfl) ?_
      refine lv_iconst (v := 1) hx hb dX10_endWalk_28 (by decide) ?_
      replace h := b1_some h
      obtain ⟨s19, gs19, h⟩ := h
      refine z_putI X hW hS gs19 kX9 (by decide) (by decide) rfl (Or.inl rfl) kf_X10_260 dX10_endWalk_29 (fun H locs hW hS => ?_)
      refine lv_goto (tgt := 59) hx hb dX10_endWalk_32 (by decide) ?_
      exact z_etv X hlk hr hW hS h (by decide) (by decide) dX10_endWalk_59
  · replace h := it_f h c6
    refine lv_aload_n hx hb dX10_endWalk_11 rfl (lv_at hl 1 rfl) ?_
    refine lv_iconst (v := 2) hx hb dX10_endWalk_12 (by decide) ?_
    replace h := b1_some h
    obtain ⟨s20, gs20, h⟩ := h
    refine z_putI X hW hS gs20 kX9 (by decide) (by decide) rfl (Or.inl rfl) kf_X10_260 dX10_endWalk_13 (fun H locs hW hS => ?_)
    refine lv_goto (tgt := 59) hx hb dX10_endWalk_16 (by decide) ?_
    exact z_etv X hlk hr hW hS h (by decide) (by decide) dX10_endWalk_59

set_option maxHeartbeats 4000000 in
set_option maxRecDepth 100000 in
theorem cX10_endWalk_met {l : Launch} {A : Nat → Prop} {D : va_G} {cy : Nat → ClassId} {r0 : Unit} {h0 : Hz} {o : Nat} {v1 : Option Nat} {h : Hz} (g : fX10_endWalk o v1 h = some (r0, h0)) : Met l yX10_endWalk (Cond.code yX10_endWalk cX10_endWalk 2 none :: wT) ({ frames := 4, cells := 0, slots := 0, locals := 89 } : Room) (va_Pc [.ref o, va_rf v1] (zS A D cy h)) (va_Qv (fun u => u = h0) (zB A D cy) A) 0 0 A := by
  refine Met.ofW (cc := cX10_endWalk) (maxL := 2) (ret := none) (by decide) rfl ?_
  intro p e s m args below meth c s₁ B hml hv
  obtain ⟨rfl, hW, hK, hN, hA⟩ := hv
  have X : zX A D cy p s m _ c cX10_endWalk RX10 2 := ⟨B.exec, B.bytes, fun w hw => atoms_spec (ws := Cond.code yX10_endWalk cX10_endWalk 2 none :: wT) B.pre w (List.mem_cons_of_mem _ hw), findClass_of_methodNamed B.named, hK, hml, hN, hA⟩
  cases v1 with
  | none =>
    have hl := lv_entry [.ref o, va_rf none] (n := 2) (Nat.le_of_ble_eq_true rfl)
    rw [lg_entry_eq]
    generalize (lg_sl [.ref o, va_rf none] ++ List.replicate (2 - (lg_sl [.ref o, va_rf none]).length) Slot.unset).toArray = ls at hl ⊢
    have hl : lv_has ls 2 [(0, .ref o), (1, va_rf none)] := hl
    exact wX10_endWalk_0 X B.notSynchronized B.returns o none _ _ _ _ (lv_sub hl [0, 1] rfl) hW va_S.rf g
  | some v1 =>
    have hl := lv_entry [.ref o, va_rf (some v1)] (n := 2) (Nat.le_of_ble_eq_true rfl)
    rw [lg_entry_eq]
    generalize (lg_sl [.ref o, va_rf (some v1)] ++ List.replicate (2 - (lg_sl [.ref o, va_rf (some v1)]).length) Slot.unset).toArray = ls at hl ⊢
    have hl : lv_has ls 2 [(0, .ref o), (1, va_rf (some v1))] := hl
    exact wX10_endWalk_0 X B.notSynchronized B.returns o (some v1) _ _ _ _ (lv_sub hl [0, 1] rfl) hW va_S.rf g

theorem dX10_arriveBack_0 : decode cX10_arriveBack 0 = .ok (.aload_n 1, 1) := by decide +kernel
theorem dX10_arriveBack_1 : decode cX10_arriveBack 1 = .ok (.getfield 224, 3) := by decide +kernel
theorem dX10_arriveBack_4 : decode cX10_arriveBack 4 = .ok (.astore_n 2, 1) := by decide +kernel
theorem dX10_arriveBack_5 : decode cX10_arriveBack 5 = .ok (.aload_n 2, 1) := by decide +kernel
theorem dX10_arriveBack_6 : decode cX10_arriveBack 6 = .ok (.ifnull 10, 3) := by decide +kernel
theorem dX10_arriveBack_9 : decode cX10_arriveBack 9 = .ok (.aload_n 2, 1) := by decide +kernel
theorem dX10_arriveBack_10 : decode cX10_arriveBack 10 = .ok (.getfield 260, 3) := by decide +kernel
theorem dX10_arriveBack_13 : decode cX10_arriveBack 13 = .ok (.ifCond .eq 5, 3) := by decide +kernel
theorem dX10_arriveBack_16 : decode cX10_arriveBack 16 = .ok (.iconst 1, 1) := by decide +kernel
theorem dX10_arriveBack_17 : decode cX10_arriveBack 17 = .ok (.ireturn, 1) := by decide +kernel
theorem dX10_arriveBack_18 : decode cX10_arriveBack 18 = .ok (.aload_n 2, 1) := by decide +kernel
theorem dX10_arriveBack_19 : decode cX10_arriveBack 19 = .ok (.aload_n 1, 1) := by decide +kernel
theorem dX10_arriveBack_20 : decode cX10_arriveBack 20 = .ok (.getfield 229, 3) := by decide +kernel
theorem dX10_arriveBack_23 : decode cX10_arriveBack 23 = .ok (.invokevirtual 398, 3) := by decide +kernel
theorem dX10_arriveBack_26 : decode cX10_arriveBack 26 = .ok (.aload_n 2, 1) := by decide +kernel
theorem dX10_arriveBack_27 : decode cX10_arriveBack 27 = .ok (.getfield 269, 3) := by decide +kernel
theorem dX10_arriveBack_30 : decode cX10_arriveBack 30 = .ok (.aload_n 2, 1) := by decide +kernel
theorem dX10_arriveBack_31 : decode cX10_arriveBack 31 = .ok (.getfield 266, 3) := by decide +kernel
theorem dX10_arriveBack_34 : decode cX10_arriveBack 34 = .ok (.if_icmp .ne 8, 3) := by decide +kernel
theorem dX10_arriveBack_37 : decode cX10_arriveBack 37 = .ok (.aload_n 0, 1) := by decide +kernel
theorem dX10_arriveBack_38 : decode cX10_arriveBack 38 = .ok (.aload_n 2, 1) := by decide +kernel
theorem dX10_arriveBack_39 : decode cX10_arriveBack 39 = .ok (.invokevirtual 401, 3) := by decide +kernel
theorem dX10_arriveBack_42 : decode cX10_arriveBack 42 = .ok (.iconst 1, 1) := by decide +kernel
theorem dX10_arriveBack_43 : decode cX10_arriveBack 43 = .ok (.ireturn, 1) := by decide +kernel
def fX10_arriveBack (o : Nat) (v1 : Option Nat) (h : Hz) : Option (Int32 × Hz) := b1 v1 fun a1 => (b1 (gP 0 7 a1 h) fun r2 => (oe r2 (rz 1 h) fun a3 => (b1 (gI 9 6 a3 h) fun x4 => (if x4 = 0 then (b1 (gI 0 8 a1 h) fun x6 => (b1 (tg 9 a3 h) fun _ => (b2 (fX9_comeBack a3 x6 h) fun _ s9 => (b1 (gI 9 8 a3 s9) fun x10 => (b1 (gI 9 7 a3 s9) fun x11 => (if x10 = x11 then (b1 (tg 10 o s9) fun _ => (b2 (fX10_endWalk o (some a3) s9) fun _ s15 => rz 1 s15)) else rz 1 s9)))))) else rz 1 h))))
set_option maxHeartbeats 4000000 in
set_option maxRecDepth 100000 in
theorem wX10_arriveBack_0 {r0 : Int32} {h0 : Hz} (X : zX A D cy p s m args c cX10_arriveBack RX10 3) (hlk : meth.locks = false) (hr : meth.sig.returnType = (some .boolean)) (o : Nat) (v1 : Option Nat) (h : Hz) (H : Heap) (locs : List Loc) (ls : Array Slot) (hl : lv_has ls 3 [(0, .ref o), (1, va_rf v1)]) (hW : zW A cy D h H) (hS : va_S A s.heap H locs) (h : fX10_arriveBack o v1 h = some (r0, h0)) : W p l e ({ frames := 5, cells := 0, slots := 0, locals := 110 } : Room) s m args below meth c H locs 0 0 (MQ below (va_Qi (fun r1 u => r1 = r0 ∧ u = h0) (zB A D cy) A) args s 0 0 A) (F0 m 0 ls []) := by
  obtain ⟨hx, hb, hts, hown, hK9, hml, hN9, hA9⟩ := id X
  unfold fX10_arriveBack at h
  refine z_aload_n hx hb dX10_arriveBack_0 rfl (lv_at hl 1 rfl) ?_
  replace h := b1_some h
  obtain ⟨a1, ea1, h⟩ := h
  subst ea1
  replace h := b1_some h
  obtain ⟨r2, gr2, h⟩ := h
  refine z_getP X hW gr2 kX0 (by decide) (by decide) kf_X10_224 dX10_arriveBack_1 ?_
  refine z_astore_n (lv' := [(2, va_rf r2), (0, .ref o), (1, .ref a1)]) hx hb dX10_arriveBack_4 rfl hl (by decide) rfl (fun ls hl => ?_)
  refine z_aload_n hx hb dX10_arriveBack_5 rfl (lv_at hl 0 rfl) ?_
  cases r2 with
  | none =>
    replace h := oe_n h
    have hl : lv_has ls 3 [(2, .null), (0, .ref o), (1, .ref a1)] := hl
    refine lv_ifnullN (tgt := 16) hx hb dX10_arriveBack_6 (by decide) ?_
    refine lv_iconst (v := 1) hx hb dX10_arriveBack_16 (by decide) ?_
    exact z_etz X hlk hr hW hS h (by decide) (by decide) dX10_arriveBack_17
  | some a3 =>
    replace h := oe_s h
    have hl : lv_has ls 3 [(2, .ref a3), (0, .ref o), (1, .ref a1)] := hl
    refine lv_ifnull hx hb dX10_arriveBack_6 ?_
    refine lv_aload_n hx hb dX10_arriveBack_9 rfl (lv_at hl 0 rfl) ?_
    replace h := b1_some h
    obtain ⟨x4, gx4, h⟩ := h
    refine z_getI X hW gx4 kX9 (by decide) (by decide) kf_X10_260 dX10_arriveBack_10 ?_
    refine lv_if_eq (tgt := 18) hx hb dX10_arriveBack_13 (by decide) (fun c5 => ?_) (fun c5 => ?_)
    · replace h := it_t h c5
      refine lv_aload_n hx hb dX10_arriveBack_18 rfl (lv_at hl 0 rfl) ?_
      refine lv_aload_n hx hb dX10_arriveBack_19 rfl (lv_at hl 2 rfl) ?_
      replace h := b1_some h
      obtain ⟨x6, gx6, h⟩ := h
      refine z_getI X hW gx6 kX0 (by decide) (by decide) kf_X10_229 dX10_arriveBack_20 ?_
      replace h := b1_some h
      obtain ⟨q7, gq7, h⟩ := h
      replace h := b2_some h
      obtain ⟨_ur8, s9, gs9, h⟩ := h
      refine z_callVv (rest := []) X hW hS (cX9_comeBack_met gs9) kb_X9_comeBack kv_X9_comeBack kl_X10_398 (it_v gq7).1 kX9 rfl rfl ⟨Nat.le_of_ble_eq_true rfl, Nat.le_of_ble_eq_true rfl⟩ rfl rfl (by decide) hl.1 dX10_arriveBack_23 ⟨(by decide), (by decide)⟩ (fun H locs hW hS => ?_)
      refine lv_aload_n hx hb dX10_arriveBack_26 rfl (lv_at hl 0 rfl) ?_
      replace h := b1_some h
      obtain ⟨x10, gx10, h⟩ := h
      refine z_getI X hW gx10 kX9 (by decide) (by decide) kf_X10_269 dX10_arriveBack_27 ?_
      refine lv_aload_n hx hb dX10_arriveBack_30 rfl (lv_at hl 0 rfl) ?_
      replace h := b1_some h
      obtain ⟨x11, gx11, h⟩ := h
      refine z_getI X hW gx11 kX9 (by decide) (by decide) kf_X10_266 dX10_arriveBack_31 ?_
      refine lv_icmp_ne (tgt := 42) hx hb dX10_arriveBack_34 (by decide) (fun c12 => ?_) (fun c12 => ?_)
      · replace h := it_f h c12
        refine lv_iconst (v := 1) hx hb dX10_arriveBack_42 (by decide) ?_
        exact z_etz X hlk hr hW hS h (by decide) (by decide) dX10_arriveBack_43
      · replace h := it_t h c12
        refine lv_aload_n hx hb dX10_arriveBack_37 rfl (lv_at hl 1 rfl) ?_
        refine lv_aload_n hx hb dX10_arriveBack_38 rfl (lv_at hl 0 rfl) ?_
        replace h := b1_some h
        obtain ⟨q13, gq13, h⟩ := h
        replace h := b2_some h
        obtain ⟨_ur14, s15, gs15, h⟩ := h
        refine z_callVv (rest := []) X hW hS (cX10_endWalk_met gs15) kb_X10_endWalk kv_X10_endWalk kl_X10_401 (it_v gq13).1 kX10 rfl rfl ⟨Nat.le_of_ble_eq_true rfl, Nat.le_of_ble_eq_true rfl⟩ rfl rfl (by decide) hl.1 dX10_arriveBack_39 ⟨(by decide), (by decide)⟩ (fun H locs hW hS => ?_)
        refine lv_iconst (v := 1) hx hb dX10_arriveBack_42 (by decide) ?_
        exact z_etz X hlk hr hW hS h (by decide) (by decide) dX10_arriveBack_43
    · replace h := it_f h c5
      refine lv_iconst (v := 1) hx hb dX10_arriveBack_16 (by decide) ?_
      exact z_etz X hlk hr hW hS h (by decide) (by decide) dX10_arriveBack_17

set_option maxHeartbeats 4000000 in
set_option maxRecDepth 100000 in
theorem cX10_arriveBack_met {l : Launch} {A : Nat → Prop} {D : va_G} {cy : Nat → ClassId} {r0 : Int32} {h0 : Hz} {o : Nat} {v1 : Option Nat} {h : Hz} (g : fX10_arriveBack o v1 h = some (r0, h0)) : Met l yX10_arriveBack (Cond.code yX10_arriveBack cX10_arriveBack 3 (some .boolean) :: wT) ({ frames := 5, cells := 0, slots := 0, locals := 110 } : Room) (va_Pc [.ref o, va_rf v1] (zS A D cy h)) (va_Qi (fun r1 u => r1 = r0 ∧ u = h0) (zB A D cy) A) 0 0 A := by
  refine Met.ofW (cc := cX10_arriveBack) (maxL := 3) (ret := (some .boolean)) (by decide) rfl ?_
  intro p e s m args below meth c s₁ B hml hv
  obtain ⟨rfl, hW, hK, hN, hA⟩ := hv
  have X : zX A D cy p s m _ c cX10_arriveBack RX10 3 := ⟨B.exec, B.bytes, fun w hw => atoms_spec (ws := Cond.code yX10_arriveBack cX10_arriveBack 3 (some .boolean) :: wT) B.pre w (List.mem_cons_of_mem _ hw), findClass_of_methodNamed B.named, hK, hml, hN, hA⟩
  cases v1 with
  | none =>
    have hl := lv_entry [.ref o, va_rf none] (n := 3) (Nat.le_of_ble_eq_true rfl)
    rw [lg_entry_eq]
    generalize (lg_sl [.ref o, va_rf none] ++ List.replicate (3 - (lg_sl [.ref o, va_rf none]).length) Slot.unset).toArray = ls at hl ⊢
    have hl : lv_has ls 3 [(0, .ref o), (1, va_rf none)] := hl
    exact wX10_arriveBack_0 X B.notSynchronized B.returns o none _ _ _ _ (lv_sub hl [0, 1] rfl) hW va_S.rf g
  | some v1 =>
    have hl := lv_entry [.ref o, va_rf (some v1)] (n := 3) (Nat.le_of_ble_eq_true rfl)
    rw [lg_entry_eq]
    generalize (lg_sl [.ref o, va_rf (some v1)] ++ List.replicate (3 - (lg_sl [.ref o, va_rf (some v1)]).length) Slot.unset).toArray = ls at hl ⊢
    have hl : lv_has ls 3 [(0, .ref o), (1, va_rf (some v1))] := hl
    exact wX10_arriveBack_0 X B.notSynchronized B.returns o (some v1) _ _ _ _ (lv_sub hl [0, 1] rfl) hW va_S.rf g

theorem dX10_arriveGive_0 : decode cX10_arriveGive 0 = .ok (.aload_n 0, 1) := by decide +kernel
theorem dX10_arriveGive_1 : decode cX10_arriveGive 1 = .ok (.getfield 10, 3) := by decide +kernel
theorem dX10_arriveGive_4 : decode cX10_arriveGive 4 = .ok (.aload_n 1, 1) := by decide +kernel
theorem dX10_arriveGive_5 : decode cX10_arriveGive 5 = .ok (.getfield 208, 3) := by decide +kernel
theorem dX10_arriveGive_8 : decode cX10_arriveGive 8 = .ok (.aload_n 1, 1) := by decide +kernel
theorem dX10_arriveGive_9 : decode cX10_arriveGive 9 = .ok (.getfield 214, 3) := by decide +kernel
theorem dX10_arriveGive_12 : decode cX10_arriveGive 12 = .ok (.invokevirtual 187, 3) := by decide +kernel
theorem dX10_arriveGive_15 : decode cX10_arriveGive 15 = .ok (.astore_n 2, 1) := by decide +kernel
theorem dX10_arriveGive_16 : decode cX10_arriveGive 16 = .ok (.aload_n 2, 1) := by decide +kernel
theorem dX10_arriveGive_17 : decode cX10_arriveGive 17 = .ok (.ifnonnull 7, 3) := by decide +kernel
theorem dX10_arriveGive_20 : decode cX10_arriveGive 20 = .ok (.iconst (-1), 1) := by decide +kernel
theorem dX10_arriveGive_21 : decode cX10_arriveGive 21 = .ok (.goto 11, 3) := by decide +kernel
theorem dX10_arriveGive_24 : decode cX10_arriveGive 24 = .ok (.aload_n 0, 1) := by decide +kernel
theorem dX10_arriveGive_25 : decode cX10_arriveGive 25 = .ok (.getfield 26, 3) := by decide +kernel
theorem dX10_arriveGive_28 : decode cX10_arriveGive 28 = .ok (.aload_n 2, 1) := by decide +kernel
theorem dX10_arriveGive_29 : decode cX10_arriveGive 29 = .ok (.invokevirtual 353, 3) := by decide +kernel
theorem dX10_arriveGive_32 : decode cX10_arriveGive 32 = .ok (.istore_n 3, 1) := by decide +kernel
theorem dX10_arriveGive_33 : decode cX10_arriveGive 33 = .ok (.aload_n 0, 1) := by decide +kernel
theorem dX10_arriveGive_34 : decode cX10_arriveGive 34 = .ok (.getfield 26, 3) := by decide +kernel
theorem dX10_arriveGive_37 : decode cX10_arriveGive 37 = .ok (.iload_n 3, 1) := by decide +kernel
theorem dX10_arriveGive_38 : decode cX10_arriveGive 38 = .ok (.invokevirtual 356, 3) := by decide +kernel
theorem dX10_arriveGive_41 : decode cX10_arriveGive 41 = .ok (.astore 4, 2) := by decide +kernel
theorem dX10_arriveGive_43 : decode cX10_arriveGive 43 = .ok (.aload 4, 2) := by decide +kernel
theorem dX10_arriveGive_45 : decode cX10_arriveGive 45 = .ok (.ifnull 16, 3) := by decide +kernel
theorem dX10_arriveGive_48 : decode cX10_arriveGive 48 = .ok (.aload_n 0, 1) := by decide +kernel
theorem dX10_arriveGive_49 : decode cX10_arriveGive 49 = .ok (.getfield 19, 3) := by decide +kernel
theorem dX10_arriveGive_52 : decode cX10_arriveGive 52 = .ok (.iconst 1, 1) := by decide +kernel
theorem dX10_arriveGive_53 : decode cX10_arriveGive 53 = .ok (.invokevirtual 238, 3) := by decide +kernel
theorem dX10_arriveGive_56 : decode cX10_arriveGive 56 = .ok (.ifCond .ne 5, 3) := by decide +kernel
theorem dX10_arriveGive_59 : decode cX10_arriveGive 59 = .ok (.iconst 0, 1) := by decide +kernel
theorem dX10_arriveGive_60 : decode cX10_arriveGive 60 = .ok (.ireturn, 1) := by decide +kernel
theorem dX10_arriveGive_61 : decode cX10_arriveGive 61 = .ok (.aload_n 2, 1) := by decide +kernel
theorem dX10_arriveGive_62 : decode cX10_arriveGive 62 = .ok (.ifnull 16, 3) := by decide +kernel
theorem dX10_arriveGive_65 : decode cX10_arriveGive 65 = .ok (.aload_n 2, 1) := by decide +kernel
theorem dX10_arriveGive_66 : decode cX10_arriveGive 66 = .ok (.dup, 1) := by decide +kernel
theorem dX10_arriveGive_67 : decode cX10_arriveGive 67 = .ok (.getfield 184, 3) := by decide +kernel
theorem dX10_arriveGive_70 : decode cX10_arriveGive 70 = .ok (.aload_n 1, 1) := by decide +kernel
theorem dX10_arriveGive_71 : decode cX10_arriveGive 71 = .ok (.getfield 217, 3) := by decide +kernel
theorem dX10_arriveGive_74 : decode cX10_arriveGive 74 = .ok (.iadd, 1) := by decide +kernel
theorem dX10_arriveGive_75 : decode cX10_arriveGive 75 = .ok (.putfield 184, 3) := by decide +kernel
theorem dX10_arriveGive_78 : decode cX10_arriveGive 78 = .ok (.aload 4, 2) := by decide +kernel
theorem dX10_arriveGive_80 : decode cX10_arriveGive 80 = .ok (.ifnull 31, 3) := by decide +kernel
theorem dX10_arriveGive_83 : decode cX10_arriveGive 83 = .ok (.aload_n 0, 1) := by decide +kernel
theorem dX10_arriveGive_84 : decode cX10_arriveGive 84 = .ok (.getfield 26, 3) := by decide +kernel
theorem dX10_arriveGive_87 : decode cX10_arriveGive 87 = .ok (.iload_n 3, 1) := by decide +kernel
theorem dX10_arriveGive_88 : decode cX10_arriveGive 88 = .ok (.invokevirtual 360, 3) := by decide +kernel
theorem dX10_arriveGive_91 : decode cX10_arriveGive 91 = .ok (.aload_n 0, 1) := by decide +kernel
theorem dX10_arriveGive_92 : decode cX10_arriveGive 92 = .ok (.aload 4, 2) := by decide +kernel
theorem dX10_arriveGive_94 : decode cX10_arriveGive 94 = .ok (.getfield 363, 3) := by decide +kernel
theorem dX10_arriveGive_97 : decode cX10_arriveGive 97 = .ok (.aload 4, 2) := by decide +kernel
theorem dX10_arriveGive_99 : decode cX10_arriveGive 99 = .ok (.getfield 368, 3) := by decide +kernel
theorem dX10_arriveGive_102 : decode cX10_arriveGive 102 = .ok (.aload 4, 2) := by decide +kernel
theorem dX10_arriveGive_104 : decode cX10_arriveGive 104 = .ok (.getfield 369, 3) := by decide +kernel
theorem dX10_arriveGive_107 : decode cX10_arriveGive 107 = .ok (.invokevirtual 191, 3) := by decide +kernel
theorem dX10_arriveGive_110 : decode cX10_arriveGive 110 = .ok (.pop, 1) := by decide +kernel
theorem dX10_arriveGive_111 : decode cX10_arriveGive 111 = .ok (.aload_n 0, 1) := by decide +kernel
theorem dX10_arriveGive_112 : decode cX10_arriveGive 112 = .ok (.aload_n 1, 1) := by decide +kernel
theorem dX10_arriveGive_113 : decode cX10_arriveGive 113 = .ok (.getfield 208, 3) := by decide +kernel
theorem dX10_arriveGive_116 : decode cX10_arriveGive 116 = .ok (.invokevirtual 85, 3) := by decide +kernel
theorem dX10_arriveGive_119 : decode cX10_arriveGive 119 = .ok (.iconst 1, 1) := by decide +kernel
theorem dX10_arriveGive_120 : decode cX10_arriveGive 120 = .ok (.ireturn, 1) := by decide +kernel
def fX10_arriveGive_111 (o : Nat) (v1 : Nat) (h : Hz) : Option (Int32 × Hz) := (b1 (gI 0 2 v1 h) fun x1 => (b1 (tg 10 o h) fun _ => (b2 (fX10_touch o x1 h) fun _ s4 => rz 1 s4)))
set_option maxHeartbeats 4000000 in
set_option maxRecDepth 100000 in
theorem wX10_arriveGive_111 {r0 : Int32} {h0 : Hz} (X : zX A D cy p s m args c cX10_arriveGive RX10 5) (hlk : meth.locks = false) (hr : meth.sig.returnType = (some .boolean)) (o : Nat) (v1 : Nat) (h : Hz) (H : Heap) (locs : List Loc) (ls : Array Slot) (hl : lv_has ls 5 [(0, .ref o), (1, .ref v1)]) (hW : zW A cy D h H) (hS : va_S A s.heap H locs) (h : fX10_arriveGive_111 o v1 h = some (r0, h0)) : W p l e ({ frames := 4, cells := 2, slots := 13, locals := 86 } : Room) s m args below meth c H locs 2 13 (MQ below (va_Qi (fun r1 u => r1 = r0 ∧ u = h0) (zB A D cy) A) args s 2 13 A) (F0 m 111 ls []) := by
  obtain ⟨hx, hb, hts, hown, hK9, hml, hN9, hA9⟩ := id X
  unfold fX10_arriveGive_111 at h
  refine lv_aload_n hx hb dX10_arriveGive_111 rfl (lv_at hl 0 rfl) ?_
  refine lv_aload_n hx hb dX10_arriveGive_112 rfl (lv_at hl 1 rfl) ?_
  replace h := b1_some h
  obtain ⟨x1, gx1, h⟩ := h
  refine z_getI X hW gx1 kX0 (by decide) (by decide) kf_X10_208 dX10_arriveGive_113 ?_
  replace h := b1_some h
  obtain ⟨q2, gq2, h⟩ := h
  replace h := b2_some h
  obtain ⟨_ur3, s4, gs4, h⟩ := h
  refine z_callVv (rest := []) X hW hS (cX10_touch_met gs4) kb_X10_touch kv_X10_touch kl_X10_85 (it_v gq2).1 kX10 rfl rfl ⟨Nat.le_of_ble_eq_true rfl, Nat.le_of_ble_eq_true rfl⟩ rfl rfl (by decide) hl.1 dX10_arriveGive_116 ⟨(by decide), (by decide)⟩ (fun H locs hW hS => ?_)
  refine lv_iconst (v := 1) hx hb dX10_arriveGive_119 (by decide) ?_
  exact z_etz X hlk hr hW hS h (by decide) (by decide) dX10_arriveGive_120

def fX10_arriveGive_78 (o : Nat) (v1 : Nat) (v3 : Int32) (v4 : Option Nat) (h : Hz) : Option (Int32 × Hz) := (oe v4 (fX10_arriveGive_111 o v1 h) fun a1 => (b1 (gA 10 2 o h) fun a2 => (b1 (tg 7 a2 h) fun _ => (b2 (fX7_remove a2 v3 h) fun _ s5 => (b1 (gA 8 0 a1 s5) fun a6 => (b1 (gA 8 1 a1 s5) fun a7 => (b1 (gI 8 2 a1 s5) fun x8 => (b1 (tg 10 o s5) fun _ => (b2 (fX10_sendName o (some a6) (some a7) x8 s5) fun x10 s11 => fX10_arriveGive_111 o v1 s11)))))))))
set_option maxHeartbeats 4000000 in
set_option maxRecDepth 100000 in
theorem wX10_arriveGive_78 {r0 : Int32} {h0 : Hz} (X : zX A D cy p s m args c cX10_arriveGive RX10 5) (hlk : meth.locks = false) (hr : meth.sig.returnType = (some .boolean)) (o : Nat) (v1 : Nat) (v3 : Int32) (v4 : Option Nat) (h : Hz) (H : Heap) (locs : List Loc) (ls : Array Slot) (hl : lv_has ls 5 [(0, .ref o), (1, .ref v1), (3, .int v3), (4, va_rf v4)]) (hW : zW A cy D h H) (hS : va_S A s.heap H locs) (h : fX10_arriveGive_78 o v1 v3 v4 h = some (r0, h0)) : W p l e ({ frames := 4, cells := 2, slots := 13, locals := 86 } : Room) s m args below meth c H locs 0 0 (MQ below (va_Qi (fun r1 u => r1 = r0 ∧ u = h0) (zB A D cy) A) args s 2 13 A) (F0 m 78 ls []) := by
  obtain ⟨hx, hb, hts, hown, hK9, hml, hN9, hA9⟩ := id X
  unfold fX10_arriveGive_78 at h
  refine z_aload hx hb dX10_arriveGive_78 (lv_at hl 3 rfl) ?_
  cases v4 with
  | none =>
    replace h := oe_n h
    have hl : lv_has ls 5 [(0, .ref o), (1, .ref v1), (3, .int v3), (4, .null)] := hl
    refine lv_ifnullN (tgt := 111) hx hb dX10_arriveGive_80 (by decide) ?_
    refine W.widen (k := 2) (n := 13) (by decide) (by decide) ?_
    exact wX10_arriveGive_111 X hlk hr o v1 _ _ _ _ (lv_sub hl [0, 1] rfl) hW hS h
  | some a1 =>
    replace h := oe_s h
    have hl : lv_has ls 5 [(0, .ref o), (1, .ref v1), (3, .int v3), (4, .ref a1)] := hl
    refine lv_ifnull hx hb dX10_arriveGive_80 ?_
    refine lv_aload_n hx hb dX10_arriveGive_83 rfl (lv_at hl 0 rfl) ?_
    replace h := b1_some h
    obtain ⟨a2, ga2, h⟩ := h
    refine z_getA X hW ga2 kX10 (by decide) (by decide) kf_X10_26 dX10_arriveGive_84 ?_
    refine lv_iload_n hx hb dX10_arriveGive_87 rfl (lv_at hl 2 rfl) ?_
    replace h := b1_some h
    obtain ⟨q3, gq3, h⟩ := h
    replace h := b2_some h
    obtain ⟨_ur4, s5, gs5, h⟩ := h
    refine z_callVv (rest := []) X hW hS (cX7_remove_met gs5) kb_X7_remove kv_X7_remove kl_X10_360 (it_v gq3).1 kX7 rfl rfl ⟨Nat.le_of_ble_eq_true rfl, Nat.le_of_ble_eq_true rfl⟩ rfl rfl (by decide) hl.1 dX10_arriveGive_88 ⟨(by decide), (by decide)⟩ (fun H locs hW hS => ?_)
    refine lv_aload_n hx hb dX10_arriveGive_91 rfl (lv_at hl 0 rfl) ?_
    refine lv_aload hx hb dX10_arriveGive_92 (lv_at hl 3 rfl) ?_
    replace h := b1_some h
    obtain ⟨a6, ga6, h⟩ := h
    refine z_getA X hW ga6 kX8 (by decide) (by decide) kf_X10_363 dX10_arriveGive_94 ?_
    refine lv_aload hx hb dX10_arriveGive_97 (lv_at hl 3 rfl) ?_
    replace h := b1_some h
    obtain ⟨a7, ga7, h⟩ := h
    refine z_getA X hW ga7 kX8 (by decide) (by decide) kf_X10_368 dX10_arriveGive_99 ?_
    refine lv_aload hx hb dX10_arriveGive_102 (lv_at hl 3 rfl) ?_
    replace h := b1_some h
    obtain ⟨x8, gx8, h⟩ := h
    refine z_getI X hW gx8 kX8 (by decide) (by decide) kf_X10_369 dX10_arriveGive_104 ?_
    replace h := b1_some h
    obtain ⟨q9, gq9, h⟩ := h
    replace h := b2_some h
    obtain ⟨x10, s11, gs11, h⟩ := h
    refine z_callVi (rest := []) X hW hS (cX10_sendName_met gs11) kb_X10_sendName kv_X10_sendName kl_X10_191 (it_v gq9).1 kX10 rfl rfl ⟨Nat.le_of_ble_eq_true rfl, Nat.le_of_ble_eq_true rfl⟩ rfl rfl (by decide) hl.1 dX10_arriveGive_107 ⟨(by decide), (by decide)⟩ (fun H locs hW hS => ?_)
    refine lv_pop hx hb dX10_arriveGive_110 rfl ?_
    exact wX10_arriveGive_111 X hlk hr o v1 _ _ _ _ (lv_sub hl [0, 1] rfl) hW hS h

def fX10_arriveGive_61 (o : Nat) (v1 : Nat) (v2 : Option Nat) (v3 : Int32) (v4 : Option Nat) (h : Hz) : Option (Int32 × Hz) := (oe v2 (fX10_arriveGive_78 o v1 v3 v4 h) fun a1 => (b1 (gI 5 7 a1 h) fun x2 => (b1 (gI 0 4 v1 h) fun x3 => (b1 (pI 5 7 a1 (x2 + x3) h) fun s4 => fX10_arriveGive_78 o v1 v3 v4 s4))))
set_option maxHeartbeats 4000000 in
set_option maxRecDepth 100000 in
theorem wX10_arriveGive_61 {r0 : Int32} {h0 : Hz} (X : zX A D cy p s m args c cX10_arriveGive RX10 5) (hlk : meth.locks = false) (hr : meth.sig.returnType = (some .boolean)) (o : Nat) (v1 : Nat) (v2 : Option Nat) (v3 : Int32) (v4 : Option Nat) (h : Hz) (H : Heap) (locs : List Loc) (ls : Array Slot) (hl : lv_has ls 5 [(0, .ref o), (1, .ref v1), (2, va_rf v2), (3, .int v3), (4, va_rf v4)]) (hW : zW A cy D h H) (hS : va_S A s.heap H locs) (h : fX10_arriveGive_61 o v1 v2 v3 v4 h = some (r0, h0)) : W p l e ({ frames := 4, cells := 2, slots := 13, locals := 86 } : Room) s m args below meth c H locs 0 0 (MQ below (va_Qi (fun r1 u => r1 = r0 ∧ u = h0) (zB A D cy) A) args s 2 13 A) (F0 m 61 ls []) := by
  obtain ⟨hx, hb, hts, hown, hK9, hml, hN9, hA9⟩ := id X
  unfold fX10_arriveGive_61 at h
  refine z_aload_n hx hb dX10_arriveGive_61 rfl (lv_at hl 2 rfl) ?_
  cases v2 with
  | none =>
    replace h := oe_n h
    have hl : lv_has ls 5 [(0, .ref o), (1, .ref v1), (2, .null), (3, .int v3), (4, va_rf v4)] := hl
    refine lv_ifnullN (tgt := 78) hx hb dX10_arriveGive_62 (by decide) ?_
    exact wX10_arriveGive_78 X hlk hr o v1 v3 v4 _ _ _ _ (lv_sub hl [0, 1, 3, 4] rfl) hW hS h
  | some a1 =>
    replace h := oe_s h
    have hl : lv_has ls 5 [(0, .ref o), (1, .ref v1), (2, .ref a1), (3, .int v3), (4, va_rf v4)] := hl
    refine lv_ifnull hx hb dX10_arriveGive_62 ?_
    refine lv_aload_n hx hb dX10_arriveGive_65 rfl (lv_at hl 2 rfl) ?_
    refine lv_dup hx hb dX10_arriveGive_66 rfl ?_
    replace h := b1_some h
    obtain ⟨x2, gx2, h⟩ := h
    refine z_getI X hW gx2 kX5 (by decide) (by decide) kf_X10_184 dX10_arriveGive_67 ?_
    refine lv_aload_n hx hb dX10_arriveGive_70 rfl (lv_at hl 1 rfl) ?_
    replace h := b1_some h
    obtain ⟨x3, gx3, h⟩ := h
    refine z_getI X hW gx3 kX0 (by decide) (by decide) kf_X10_217 dX10_arriveGive_71 ?_
    refine lv_iadd hx hb dX10_arriveGive_74 ?_
    replace h := b1_some h
    obtain ⟨s4, gs4, h⟩ := h
    refine z_putI X hW hS gs4 kX5 (by decide) (by decide) rfl (Or.inl rfl) kf_X10_184 dX10_arriveGive_75 (fun H locs hW hS => ?_)
    exact wX10_arriveGive_78 X hlk hr o v1 v3 v4 _ _ _ _ (lv_sub hl [0, 1, 3, 4] rfl) hW hS h

def fX10_arriveGive_32 (o : Nat) (v1 : Nat) (v2 : Option Nat) (w0 : Int32) (h : Hz) : Option (Int32 × Hz) := (b1 (gA 10 2 o h) fun a1 => (b1 (tg 7 a1 h) fun _ => (b2 (fX7_at a1 w0 h) fun r3 s4 => (oe r3 (fX10_arriveGive_61 o v1 v2 w0 none s4) fun a5 => (b1 (gA 10 1 o s4) fun a6 => (b1 (tg 2 a6 s4) fun _ => (b2 (fX2_hasRoom a6 1 s4) fun x8 s9 => (if x8 = 0 then rz 0 s9 else fX10_arriveGive_61 o v1 v2 w0 (some a5) s9))))))))
set_option maxHeartbeats 4000000 in
set_option maxRecDepth 100000 in
theorem wX10_arriveGive_32 {r0 : Int32} {h0 : Hz} (X : zX A D cy p s m args c cX10_arriveGive RX10 5) (hlk : meth.locks = false) (hr : meth.sig.returnType = (some .boolean)) (o : Nat) (v1 : Nat) (v2 : Option Nat) (w0 : Int32) (h : Hz) (H : Heap) (locs : List Loc) (ls : Array Slot) (hl : lv_has ls 5 [(0, .ref o), (1, .ref v1), (2, va_rf v2)]) (hW : zW A cy D h H) (hS : va_S A s.heap H locs) (h : fX10_arriveGive_32 o v1 v2 w0 h = some (r0, h0)) : W p l e ({ frames := 4, cells := 2, slots := 13, locals := 86 } : Room) s m args below meth c H locs 0 0 (MQ below (va_Qi (fun r1 u => r1 = r0 ∧ u = h0) (zB A D cy) A) args s 2 13 A) (F0 m 32 ls [.int w0]) := by
  obtain ⟨hx, hb, hts, hown, hK9, hml, hN9, hA9⟩ := id X
  unfold fX10_arriveGive_32 at h
  refine lv_istore_n (lv' := [(3, .int w0), (0, .ref o), (1, .ref v1), (2, va_rf v2)]) hx hb dX10_arriveGive_32 rfl hl (by decide) (by cases v2 <;> rfl) (fun ls hl => ?_)
  refine lv_aload_n hx hb dX10_arriveGive_33 rfl (lv_at hl 1 rfl) ?_
  replace h := b1_some h
  obtain ⟨a1, ga1, h⟩ := h
  refine z_getA X hW ga1 kX10 (by decide) (by decide) kf_X10_26 dX10_arriveGive_34 ?_
  refine lv_iload_n hx hb dX10_arriveGive_37 rfl (lv_at hl 0 rfl) ?_
  replace h := b1_some h
  obtain ⟨q2, gq2, h⟩ := h
  replace h := b2_some h
  obtain ⟨r3, s4, gs4, h⟩ := h
  refine z_callVq (rest := []) X hW hS (cX7_at_met gs4) kb_X7_at kv_X7_at kl_X10_356 (it_v gq2).1 kX7 rfl rfl ⟨Nat.le_of_ble_eq_true rfl, Nat.le_of_ble_eq_true rfl⟩ rfl rfl (by decide) hl.1 dX10_arriveGive_38 ⟨(by decide), (by decide)⟩ (fun H locs hW hS => ?_)
  refine z_astore (lv' := [(4, va_rf r3), (3, .int w0), (0, .ref o), (1, .ref v1), (2, va_rf v2)]) hx hb dX10_arriveGive_41 hl (by decide) rfl (fun ls hl => ?_)
  refine z_aload hx hb dX10_arriveGive_43 (lv_at hl 0 rfl) ?_
  cases r3 with
  | none =>
    replace h := oe_n h
    have hl : lv_has ls 5 [(4, .null), (3, .int w0), (0, .ref o), (1, .ref v1), (2, va_rf v2)] := hl
    refine lv_ifnullN (tgt := 61) hx hb dX10_arriveGive_45 (by decide) ?_
    exact wX10_arriveGive_61 X hlk hr o v1 v2 w0 none _ _ _ _ (lv_sub hl [2, 3, 4, 1, 0] rfl) hW hS h
  | some a5 =>
    replace h := oe_s h
    have hl : lv_has ls 5 [(4, .ref a5), (3, .int w0), (0, .ref o), (1, .ref v1), (2, va_rf v2)] := hl
    refine lv_ifnull hx hb dX10_arriveGive_45 ?_
    refine lv_aload_n hx hb dX10_arriveGive_48 rfl (lv_at hl 2 rfl) ?_
    replace h := b1_some h
    obtain ⟨a6, ga6, h⟩ := h
    refine z_getA X hW ga6 kX10 (by decide) (by decide) kf_X10_19 dX10_arriveGive_49 ?_
    refine lv_iconst (v := 1) hx hb dX10_arriveGive_52 (by decide) ?_
    replace h := b1_some h
    obtain ⟨q7, gq7, h⟩ := h
    replace h := b2_some h
    obtain ⟨x8, s9, gs9, h⟩ := h
    refine z_callVi (rest := []) X hW hS (cX2_hasRoom_met gs9) kb_X2_hasRoom kv_X2_hasRoom kl_X10_238 (it_v gq7).1 kX2 rfl rfl ⟨Nat.le_of_ble_eq_true rfl, Nat.le_of_ble_eq_true rfl⟩ rfl rfl (by decide) hl.1 dX10_arriveGive_53 ⟨(by decide), (by decide)⟩ (fun H locs hW hS => ?_)
    refine lv_if_ne (tgt := 61) hx hb dX10_arriveGive_56 (by decide) (fun c10 => ?_) (fun c10 => ?_)
    · replace h := it_f h c10
      exact wX10_arriveGive_61 X hlk hr o v1 v2 w0 (some a5) _ _ _ _ (lv_sub hl [2, 3, 4, 1, 0] rfl) hW hS h
    · replace h := it_t h c10
      refine lv_iconst (v := 0) hx hb dX10_arriveGive_59 (by decide) ?_
      exact z_etz X hlk hr hW hS h (by decide) (by decide) dX10_arriveGive_60

def fX10_arriveGive (o : Nat) (v1 : Option Nat) (h : Hz) : Option (Int32 × Hz) := (b1 (gA 10 0 o h) fun a1 => b1 v1 fun a2 => (b1 (gI 0 2 a2 h) fun x3 => (b1 (gA 0 3 a2 h) fun a4 => (b1 (tg 6 a1 h) fun _ => (b2 (fX6_gateAt a1 x3 (some a4) h) fun r6 s7 => (oe r6 (fX10_arriveGive_32 o a2 none (-1) s7) fun a8 => (b1 (gA 10 2 o s7) fun a9 => (b1 (tg 7 a9 s7) fun _ => (b2 (fX7_firstFor a9 (some a8) s7) fun x11 s12 => fX10_arriveGive_32 o a2 (some a8) x11 s12)))))))))
set_option maxHeartbeats 4000000 in
set_option maxRecDepth 100000 in
theorem wX10_arriveGive_0 {r0 : Int32} {h0 : Hz} (X : zX A D cy p s m args c cX10_arriveGive RX10 5) (hlk : meth.locks = false) (hr : meth.sig.returnType = (some .boolean)) (o : Nat) (v1 : Option Nat) (h : Hz) (H : Heap) (locs : List Loc) (ls : Array Slot) (hl : lv_has ls 5 [(0, .ref o), (1, va_rf v1)]) (hW : zW A cy D h H) (hS : va_S A s.heap H locs) (h : fX10_arriveGive o v1 h = some (r0, h0)) : W p l e ({ frames := 4, cells := 2, slots := 13, locals := 86 } : Room) s m args below meth c H locs 0 0 (MQ below (va_Qi (fun r1 u => r1 = r0 ∧ u = h0) (zB A D cy) A) args s 2 13 A) (F0 m 0 ls []) := by
  obtain ⟨hx, hb, hts, hown, hK9, hml, hN9, hA9⟩ := id X
  unfold fX10_arriveGive at h
  refine lv_aload_n hx hb dX10_arriveGive_0 rfl (lv_at hl 0 rfl) ?_
  replace h := b1_some h
  obtain ⟨a1, ga1, h⟩ := h
  refine z_getA X hW ga1 kX10 (by decide) (by decide) kf_X10_10 dX10_arriveGive_1 ?_
  refine z_aload_n hx hb dX10_arriveGive_4 rfl (lv_at hl 1 rfl) ?_
  replace h := b1_some h
  obtain ⟨a2, ea2, h⟩ := h
  subst ea2
  replace h := b1_some h
  obtain ⟨x3, gx3, h⟩ := h
  refine z_getI X hW gx3 kX0 (by decide) (by decide) kf_X10_208 dX10_arriveGive_5 ?_
  refine lv_aload_n hx hb dX10_arriveGive_8 rfl (lv_at hl 1 rfl) ?_
  replace h := b1_some h
  obtain ⟨a4, ga4, h⟩ := h
  refine z_getA X hW ga4 kX0 (by decide) (by decide) kf_X10_214 dX10_arriveGive_9 ?_
  replace h := b1_some h
  obtain ⟨q5, gq5, h⟩ := h
  replace h := b2_some h
  obtain ⟨r6, s7, gs7, h⟩ := h
  refine z_callVq (rest := []) X hW hS (cX6_gateAt_met gs7) kb_X6_gateAt kv_X6_gateAt kl_X10_187 (it_v gq5).1 kX6 rfl rfl ⟨Nat.le_of_ble_eq_true rfl, Nat.le_of_ble_eq_true rfl⟩ rfl rfl (by decide) hl.1 dX10_arriveGive_12 ⟨(by decide), (by decide)⟩ (fun H locs hW hS => ?_)
  refine z_astore_n (lv' := [(2, va_rf r6), (0, .ref o), (1, .ref a2)]) hx hb dX10_arriveGive_15 rfl hl (by decide) rfl (fun ls hl => ?_)
  refine z_aload_n hx hb dX10_arriveGive_16 rfl (lv_at hl 0 rfl) ?_
  cases r6 with
  | none =>
    replace h := oe_n h
    have hl : lv_has ls 5 [(2, .null), (0, .ref o), (1, .ref a2)] := hl
    refine lv_ifnonnullN hx hb dX10_arriveGive_17 ?_
    refine lv_iconst (v := (-1)) hx hb dX10_arriveGive_20 (by decide) ?_
    refine lv_goto (tgt := 32) hx hb dX10_arriveGive_21 (by decide) ?_
    exact wX10_arriveGive_32 X hlk hr o a2 none (-1) _ _ _ _ (lv_sub hl [1, 2, 0] rfl) hW hS h
  | some a8 =>
    replace h := oe_s h
    have hl : lv_has ls 5 [(2, .ref a8), (0, .ref o), (1, .ref a2)] := hl
    refine lv_ifnonnull (tgt := 24) hx hb dX10_arriveGive_17 (by decide) ?_
    refine lv_aload_n hx hb dX10_arriveGive_24 rfl (lv_at hl 1 rfl) ?_
    replace h := b1_some h
    obtain ⟨a9, ga9, h⟩ := h
    refine z_getA X hW ga9 kX10 (by decide) (by decide) kf_X10_26 dX10_arriveGive_25 ?_
    refine lv_aload_n hx hb dX10_arriveGive_28 rfl (lv_at hl 0 rfl) ?_
    replace h := b1_some h
    obtain ⟨q10, gq10, h⟩ := h
    replace h := b2_some h
    obtain ⟨x11, s12, gs12, h⟩ := h
    refine z_callVi (rest := []) X hW hS (cX7_firstFor_met gs12) kb_X7_firstFor kv_X7_firstFor kl_X10_353 (it_v gq10).1 kX7 rfl rfl ⟨Nat.le_of_ble_eq_true rfl, Nat.le_of_ble_eq_true rfl⟩ rfl rfl (by decide) hl.1 dX10_arriveGive_29 ⟨(by decide), (by decide)⟩ (fun H locs hW hS => ?_)
    exact wX10_arriveGive_32 X hlk hr o a2 (some a8) x11 _ _ _ _ (lv_sub hl [1, 2, 0] rfl) hW hS h

set_option maxHeartbeats 4000000 in
set_option maxRecDepth 100000 in
theorem cX10_arriveGive_met {l : Launch} {A : Nat → Prop} {D : va_G} {cy : Nat → ClassId} {r0 : Int32} {h0 : Hz} {o : Nat} {v1 : Option Nat} {h : Hz} (g : fX10_arriveGive o v1 h = some (r0, h0)) : Met l yX10_arriveGive (Cond.code yX10_arriveGive cX10_arriveGive 5 (some .boolean) :: wT) ({ frames := 4, cells := 2, slots := 13, locals := 86 } : Room) (va_Pc [.ref o, va_rf v1] (zS A D cy h)) (va_Qi (fun r1 u => r1 = r0 ∧ u = h0) (zB A D cy) A) 2 13 A := by
  refine Met.ofW (cc := cX10_arriveGive) (maxL := 5) (ret := (some .boolean)) (by decide) rfl ?_
  intro p e s m args below meth c s₁ B hml hv
  obtain ⟨rfl, hW, hK, hN, hA⟩ := hv
  have X : zX A D cy p s m _ c cX10_arriveGive RX10 5 := ⟨B.exec, B.bytes, fun w hw => atoms_spec (ws := Cond.code yX10_arriveGive cX10_arriveGive 5 (some .boolean) :: wT) B.pre w (List.mem_cons_of_mem _ hw), findClass_of_methodNamed B.named, hK, hml, hN, hA⟩
  cases v1 with
  | none =>
    have hl := lv_entry [.ref o, va_rf none] (n := 5) (Nat.le_of_ble_eq_true rfl)
    rw [lg_entry_eq]
    generalize (lg_sl [.ref o, va_rf none] ++ List.replicate (5 - (lg_sl [.ref o, va_rf none]).length) Slot.unset).toArray = ls at hl ⊢
    have hl : lv_has ls 5 [(0, .ref o), (1, va_rf none)] := hl
    exact wX10_arriveGive_0 X B.notSynchronized B.returns o none _ _ _ _ (lv_sub hl [0, 1] rfl) hW va_S.rf g
  | some v1 =>
    have hl := lv_entry [.ref o, va_rf (some v1)] (n := 5) (Nat.le_of_ble_eq_true rfl)
    rw [lg_entry_eq]
    generalize (lg_sl [.ref o, va_rf (some v1)] ++ List.replicate (5 - (lg_sl [.ref o, va_rf (some v1)]).length) Slot.unset).toArray = ls at hl ⊢
    have hl : lv_has ls 5 [(0, .ref o), (1, va_rf (some v1))] := hl
    exact wX10_arriveGive_0 X B.notSynchronized B.returns o (some v1) _ _ _ _ (lv_sub hl [0, 1] rfl) hW va_S.rf g

theorem dX10_arriveHome_0 : decode cX10_arriveHome 0 = .ok (.aload_n 1, 1) := by decide +kernel
theorem dX10_arriveHome_1 : decode cX10_arriveHome 1 = .ok (.getfield 214, 3) := by decide +kernel
theorem dX10_arriveHome_4 : decode cX10_arriveHome 4 = .ok (.aload_n 1, 1) := by decide +kernel
theorem dX10_arriveHome_5 : decode cX10_arriveHome 5 = .ok (.getfield 217, 3) := by decide +kernel
theorem dX10_arriveHome_8 : decode cX10_arriveHome 8 = .ok (.invokevirtual 346, 3) := by decide +kernel
theorem dX10_arriveHome_11 : decode cX10_arriveHome 11 = .ok (.aload_n 0, 1) := by decide +kernel
theorem dX10_arriveHome_12 : decode cX10_arriveHome 12 = .ok (.aload_n 1, 1) := by decide +kernel
theorem dX10_arriveHome_13 : decode cX10_arriveHome 13 = .ok (.getfield 208, 3) := by decide +kernel
theorem dX10_arriveHome_16 : decode cX10_arriveHome 16 = .ok (.invokevirtual 85, 3) := by decide +kernel
theorem dX10_arriveHome_19 : decode cX10_arriveHome 19 = .ok (.iconst 1, 1) := by decide +kernel
theorem dX10_arriveHome_20 : decode cX10_arriveHome 20 = .ok (.ireturn, 1) := by decide +kernel
def fX10_arriveHome (o : Nat) (v1 : Option Nat) (h : Hz) : Option (Int32 × Hz) := b1 v1 fun a1 => (b1 (gA 0 3 a1 h) fun a2 => (b1 (gI 0 4 a1 h) fun x3 => (b1 (tg 5 a2 h) fun _ => (b2 (fX5_takeFromExit a2 x3 h) fun _ s6 => (b1 (gI 0 2 a1 s6) fun x7 => (b1 (tg 10 o s6) fun _ => (b2 (fX10_touch o x7 s6) fun _ s10 => rz 1 s10)))))))
set_option maxHeartbeats 4000000 in
set_option maxRecDepth 100000 in
theorem wX10_arriveHome_0 {r0 : Int32} {h0 : Hz} (X : zX A D cy p s m args c cX10_arriveHome RX10 2) (hlk : meth.locks = false) (hr : meth.sig.returnType = (some .boolean)) (o : Nat) (v1 : Option Nat) (h : Hz) (H : Heap) (locs : List Loc) (ls : Array Slot) (hl : lv_has ls 2 [(0, .ref o), (1, va_rf v1)]) (hW : zW A cy D h H) (hS : va_S A s.heap H locs) (h : fX10_arriveHome o v1 h = some (r0, h0)) : W p l e ({ frames := 2, cells := 0, slots := 0, locals := 41 } : Room) s m args below meth c H locs 0 0 (MQ below (va_Qi (fun r1 u => r1 = r0 ∧ u = h0) (zB A D cy) A) args s 0 0 A) (F0 m 0 ls []) := by
  obtain ⟨hx, hb, hts, hown, hK9, hml, hN9, hA9⟩ := id X
  unfold fX10_arriveHome at h
  refine z_aload_n hx hb dX10_arriveHome_0 rfl (lv_at hl 1 rfl) ?_
  replace h := b1_some h
  obtain ⟨a1, ea1, h⟩ := h
  subst ea1
  replace h := b1_some h
  obtain ⟨a2, ga2, h⟩ := h
  refine z_getA X hW ga2 kX0 (by decide) (by decide) kf_X10_214 dX10_arriveHome_1 ?_
  refine lv_aload_n hx hb dX10_arriveHome_4 rfl (lv_at hl 1 rfl) ?_
  replace h := b1_some h
  obtain ⟨x3, gx3, h⟩ := h
  refine z_getI X hW gx3 kX0 (by decide) (by decide) kf_X10_217 dX10_arriveHome_5 ?_
  replace h := b1_some h
  obtain ⟨q4, gq4, h⟩ := h
  replace h := b2_some h
  obtain ⟨_ur5, s6, gs6, h⟩ := h
  refine z_callVv (rest := []) X hW hS (cX5_takeFromExit_met gs6) kb_X5_takeFromExit kv_X5_takeFromExit kl_X10_346 (it_v gq4).1 kX5 rfl rfl ⟨Nat.le_of_ble_eq_true rfl, Nat.le_of_ble_eq_true rfl⟩ rfl rfl (by decide) hl.1 dX10_arriveHome_8 ⟨(by decide), (by decide)⟩ (fun H locs hW hS => ?_)
  refine lv_aload_n hx hb dX10_arriveHome_11 rfl (lv_at hl 0 rfl) ?_
  refine lv_aload_n hx hb dX10_arriveHome_12 rfl (lv_at hl 1 rfl) ?_
  replace h := b1_some h
  obtain ⟨x7, gx7, h⟩ := h
  refine z_getI X hW gx7 kX0 (by decide) (by decide) kf_X10_208 dX10_arriveHome_13 ?_
  replace h := b1_some h
  obtain ⟨q8, gq8, h⟩ := h
  replace h := b2_some h
  obtain ⟨_ur9, s10, gs10, h⟩ := h
  refine z_callVv (rest := []) X hW hS (cX10_touch_met gs10) kb_X10_touch kv_X10_touch kl_X10_85 (it_v gq8).1 kX10 rfl rfl ⟨Nat.le_of_ble_eq_true rfl, Nat.le_of_ble_eq_true rfl⟩ rfl rfl (by decide) hl.1 dX10_arriveHome_16 ⟨(by decide), (by decide)⟩ (fun H locs hW hS => ?_)
  refine lv_iconst (v := 1) hx hb dX10_arriveHome_19 (by decide) ?_
  exact z_etz X hlk hr hW hS h (by decide) (by decide) dX10_arriveHome_20

set_option maxHeartbeats 4000000 in
set_option maxRecDepth 100000 in
theorem cX10_arriveHome_met {l : Launch} {A : Nat → Prop} {D : va_G} {cy : Nat → ClassId} {r0 : Int32} {h0 : Hz} {o : Nat} {v1 : Option Nat} {h : Hz} (g : fX10_arriveHome o v1 h = some (r0, h0)) : Met l yX10_arriveHome (Cond.code yX10_arriveHome cX10_arriveHome 2 (some .boolean) :: wT) ({ frames := 2, cells := 0, slots := 0, locals := 41 } : Room) (va_Pc [.ref o, va_rf v1] (zS A D cy h)) (va_Qi (fun r1 u => r1 = r0 ∧ u = h0) (zB A D cy) A) 0 0 A := by
  refine Met.ofW (cc := cX10_arriveHome) (maxL := 2) (ret := (some .boolean)) (by decide) rfl ?_
  intro p e s m args below meth c s₁ B hml hv
  obtain ⟨rfl, hW, hK, hN, hA⟩ := hv
  have X : zX A D cy p s m _ c cX10_arriveHome RX10 2 := ⟨B.exec, B.bytes, fun w hw => atoms_spec (ws := Cond.code yX10_arriveHome cX10_arriveHome 2 (some .boolean) :: wT) B.pre w (List.mem_cons_of_mem _ hw), findClass_of_methodNamed B.named, hK, hml, hN, hA⟩
  cases v1 with
  | none =>
    have hl := lv_entry [.ref o, va_rf none] (n := 2) (Nat.le_of_ble_eq_true rfl)
    rw [lg_entry_eq]
    generalize (lg_sl [.ref o, va_rf none] ++ List.replicate (2 - (lg_sl [.ref o, va_rf none]).length) Slot.unset).toArray = ls at hl ⊢
    have hl : lv_has ls 2 [(0, .ref o), (1, va_rf none)] := hl
    exact wX10_arriveHome_0 X B.notSynchronized B.returns o none _ _ _ _ (lv_sub hl [0, 1] rfl) hW va_S.rf g
  | some v1 =>
    have hl := lv_entry [.ref o, va_rf (some v1)] (n := 2) (Nat.le_of_ble_eq_true rfl)
    rw [lg_entry_eq]
    generalize (lg_sl [.ref o, va_rf (some v1)] ++ List.replicate (2 - (lg_sl [.ref o, va_rf (some v1)]).length) Slot.unset).toArray = ls at hl ⊢
    have hl : lv_has ls 2 [(0, .ref o), (1, va_rf (some v1))] := hl
    exact wX10_arriveHome_0 X B.notSynchronized B.returns o (some v1) _ _ _ _ (lv_sub hl [0, 1] rfl) hW va_S.rf g

theorem dX10_arriveMore_0 : decode cX10_arriveMore 0 = .ok (.aload_n 0, 1) := by decide +kernel
theorem dX10_arriveMore_1 : decode cX10_arriveMore 1 = .ok (.getfield 19, 3) := by decide +kernel
theorem dX10_arriveMore_4 : decode cX10_arriveMore 4 = .ok (.iconst 1, 1) := by decide +kernel
theorem dX10_arriveMore_5 : decode cX10_arriveMore 5 = .ok (.invokevirtual 238, 3) := by decide +kernel
theorem dX10_arriveMore_8 : decode cX10_arriveMore 8 = .ok (.ifCond .ne 5, 3) := by decide +kernel
theorem dX10_arriveMore_11 : decode cX10_arriveMore 11 = .ok (.iconst 0, 1) := by decide +kernel
theorem dX10_arriveMore_12 : decode cX10_arriveMore 12 = .ok (.ireturn, 1) := by decide +kernel
theorem dX10_arriveMore_13 : decode cX10_arriveMore 13 = .ok (.aload_n 1, 1) := by decide +kernel
theorem dX10_arriveMore_14 : decode cX10_arriveMore 14 = .ok (.getfield 214, 3) := by decide +kernel
theorem dX10_arriveMore_17 : decode cX10_arriveMore 17 = .ok (.dup, 1) := by decide +kernel
theorem dX10_arriveMore_18 : decode cX10_arriveMore 18 = .ok (.getfield 163, 3) := by decide +kernel
theorem dX10_arriveMore_21 : decode cX10_arriveMore 21 = .ok (.bipush 64, 2) := by decide +kernel
theorem dX10_arriveMore_23 : decode cX10_arriveMore 23 = .ok (.iadd, 1) := by decide +kernel
theorem dX10_arriveMore_24 : decode cX10_arriveMore 24 = .ok (.putfield 163, 3) := by decide +kernel
theorem dX10_arriveMore_27 : decode cX10_arriveMore 27 = .ok (.aload_n 0, 1) := by decide +kernel
theorem dX10_arriveMore_28 : decode cX10_arriveMore 28 = .ok (.getfield 19, 3) := by decide +kernel
theorem dX10_arriveMore_31 : decode cX10_arriveMore 31 = .ok (.iconst 2, 1) := by decide +kernel
theorem dX10_arriveMore_32 : decode cX10_arriveMore 32 = .ok (.aload_n 1, 1) := by decide +kernel
theorem dX10_arriveMore_33 : decode cX10_arriveMore 33 = .ok (.getfield 208, 3) := by decide +kernel
theorem dX10_arriveMore_36 : decode cX10_arriveMore 36 = .ok (.aload_n 1, 1) := by decide +kernel
theorem dX10_arriveMore_37 : decode cX10_arriveMore 37 = .ok (.getfield 211, 3) := by decide +kernel
theorem dX10_arriveMore_40 : decode cX10_arriveMore 40 = .ok (.aload_n 1, 1) := by decide +kernel
theorem dX10_arriveMore_41 : decode cX10_arriveMore 41 = .ok (.getfield 214, 3) := by decide +kernel
theorem dX10_arriveMore_44 : decode cX10_arriveMore 44 = .ok (.bipush 64, 2) := by decide +kernel
theorem dX10_arriveMore_46 : decode cX10_arriveMore 46 = .ok (.invokevirtual 324, 3) := by decide +kernel
theorem dX10_arriveMore_49 : decode cX10_arriveMore 49 = .ok (.pop, 1) := by decide +kernel
theorem dX10_arriveMore_50 : decode cX10_arriveMore 50 = .ok (.aload_n 0, 1) := by decide +kernel
theorem dX10_arriveMore_51 : decode cX10_arriveMore 51 = .ok (.aload_n 1, 1) := by decide +kernel
theorem dX10_arriveMore_52 : decode cX10_arriveMore 52 = .ok (.getfield 208, 3) := by decide +kernel
theorem dX10_arriveMore_55 : decode cX10_arriveMore 55 = .ok (.invokevirtual 85, 3) := by decide +kernel
theorem dX10_arriveMore_58 : decode cX10_arriveMore 58 = .ok (.iconst 1, 1) := by decide +kernel
theorem dX10_arriveMore_59 : decode cX10_arriveMore 59 = .ok (.ireturn, 1) := by decide +kernel
def fX10_arriveMore (o : Nat) (v1 : Option Nat) (h : Hz) : Option (Int32 × Hz) := (b1 (gA 10 1 o h) fun a1 => (b1 (tg 2 a1 h) fun _ => (b2 (fX2_hasRoom a1 1 h) fun x3 s4 => (if x3 = 0 then rz 0 s4 else b1 v1 fun a6 => (b1 (gA 0 3 a6 s4) fun a7 => (b1 (gI 5 8 a7 s4) fun x8 => (b1 (pI 5 8 a7 (x8 + 64) s4) fun s9 => (b1 (gA 10 1 o s9) fun a10 => (b1 (gI 0 2 a6 s9) fun x11 => (b1 (gI 0 1 a6 s9) fun x12 => (b1 (gA 0 3 a6 s9) fun a13 => (b1 (tg 2 a10 s9) fun _ => (b2 (fX2_fileOfWeight a10 2 x11 x12 (some a13) 64 s9) fun x15 s16 => (b1 (gI 0 2 a6 s16) fun x17 => (b1 (tg 10 o s16) fun _ => (b2 (fX10_touch o x17 s16) fun _ s20 => rz 1 s20))))))))))))))))
set_option maxHeartbeats 4000000 in
set_option maxRecDepth 100000 in
theorem wX10_arriveMore_0 {r0 : Int32} {h0 : Hz} (X : zX A D cy p s m args c cX10_arriveMore RX10 2) (hlk : meth.locks = false) (hr : meth.sig.returnType = (some .boolean)) (o : Nat) (v1 : Option Nat) (h : Hz) (H : Heap) (locs : List Loc) (ls : Array Slot) (hl : lv_has ls 2 [(0, .ref o), (1, va_rf v1)]) (hW : zW A cy D h H) (hS : va_S A s.heap H locs) (h : fX10_arriveMore o v1 h = some (r0, h0)) : W p l e ({ frames := 3, cells := 1, slots := 10, locals := 62 } : Room) s m args below meth c H locs 0 0 (MQ below (va_Qi (fun r1 u => r1 = r0 ∧ u = h0) (zB A D cy) A) args s 1 10 A) (F0 m 0 ls []) := by
  obtain ⟨hx, hb, hts, hown, hK9, hml, hN9, hA9⟩ := id X
  unfold fX10_arriveMore at h
  refine lv_aload_n hx hb dX10_arriveMore_0 rfl (lv_at hl 0 rfl) ?_
  replace h := b1_some h
  obtain ⟨a1, ga1, h⟩ := h
  refine z_getA X hW ga1 kX10 (by decide) (by decide) kf_X10_19 dX10_arriveMore_1 ?_
  refine lv_iconst (v := 1) hx hb dX10_arriveMore_4 (by decide) ?_
  replace h := b1_some h
  obtain ⟨q2, gq2, h⟩ := h
  replace h := b2_some h
  obtain ⟨x3, s4, gs4, h⟩ := h
  refine z_callVi (rest := []) X hW hS (cX2_hasRoom_met gs4) kb_X2_hasRoom kv_X2_hasRoom kl_X10_238 (it_v gq2).1 kX2 rfl rfl ⟨Nat.le_of_ble_eq_true rfl, Nat.le_of_ble_eq_true rfl⟩ rfl rfl (by decide) hl.1 dX10_arriveMore_5 ⟨(by decide), (by decide)⟩ (fun H locs hW hS => ?_)
  refine lv_if_ne (tgt := 13) hx hb dX10_arriveMore_8 (by decide) (fun c5 => ?_) (fun c5 => ?_)
  · replace h := it_f h c5
    refine z_aload_n hx hb dX10_arriveMore_13 rfl (lv_at hl 1 rfl) ?_
    replace h := b1_some h
    obtain ⟨a6, ea6, h⟩ := h
    subst ea6
    replace h := b1_some h
    obtain ⟨a7, ga7, h⟩ := h
    refine z_getA X hW ga7 kX0 (by decide) (by decide) kf_X10_214 dX10_arriveMore_14 ?_
    refine lv_dup hx hb dX10_arriveMore_17 rfl ?_
    replace h := b1_some h
    obtain ⟨x8, gx8, h⟩ := h
    refine z_getI X hW gx8 kX5 (by decide) (by decide) kf_X10_163 dX10_arriveMore_18 ?_
    refine lv_bipush (v := 64) hx hb dX10_arriveMore_21 (by decide) ?_
    refine lv_iadd hx hb dX10_arriveMore_23 ?_
    replace h := b1_some h
    obtain ⟨s9, gs9, h⟩ := h
    refine z_putI X hW hS gs9 kX5 (by decide) (by decide) rfl (Or.inl rfl) kf_X10_163 dX10_arriveMore_24 (fun H locs hW hS => ?_)
    refine lv_aload_n hx hb dX10_arriveMore_27 rfl (lv_at hl 0 rfl) ?_
    replace h := b1_some h
    obtain ⟨a10, ga10, h⟩ := h
    refine z_getA X hW ga10 kX10 (by decide) (by decide) kf_X10_19 dX10_arriveMore_28 ?_
    refine lv_iconst (v := 2) hx hb dX10_arriveMore_31 (by decide) ?_
    refine lv_aload_n hx hb dX10_arriveMore_32 rfl (lv_at hl 1 rfl) ?_
    replace h := b1_some h
    obtain ⟨x11, gx11, h⟩ := h
    refine z_getI X hW gx11 kX0 (by decide) (by decide) kf_X10_208 dX10_arriveMore_33 ?_
    refine lv_aload_n hx hb dX10_arriveMore_36 rfl (lv_at hl 1 rfl) ?_
    replace h := b1_some h
    obtain ⟨x12, gx12, h⟩ := h
    refine z_getI X hW gx12 kX0 (by decide) (by decide) kf_X10_211 dX10_arriveMore_37 ?_
    refine lv_aload_n hx hb dX10_arriveMore_40 rfl (lv_at hl 1 rfl) ?_
    replace h := b1_some h
    obtain ⟨a13, ga13, h⟩ := h
    refine z_getA X hW ga13 kX0 (by decide) (by decide) kf_X10_214 dX10_arriveMore_41 ?_
    refine lv_bipush (v := 64) hx hb dX10_arriveMore_44 (by decide) ?_
    replace h := b1_some h
    obtain ⟨q14, gq14, h⟩ := h
    replace h := b2_some h
    obtain ⟨x15, s16, gs16, h⟩ := h
    refine z_callVi (rest := []) X hW hS (cX2_fileOfWeight_met gs16) kb_X2_fileOfWeight kv_X2_fileOfWeight kl_X10_324 (it_v gq14).1 kX2 rfl rfl ⟨Nat.le_of_ble_eq_true rfl, Nat.le_of_ble_eq_true rfl⟩ rfl rfl (by decide) hl.1 dX10_arriveMore_46 ⟨(by decide), (by decide)⟩ (fun H locs hW hS => ?_)
    refine lv_pop hx hb dX10_arriveMore_49 rfl ?_
    refine lv_aload_n hx hb dX10_arriveMore_50 rfl (lv_at hl 0 rfl) ?_
    refine lv_aload_n hx hb dX10_arriveMore_51 rfl (lv_at hl 1 rfl) ?_
    replace h := b1_some h
    obtain ⟨x17, gx17, h⟩ := h
    refine z_getI X hW gx17 kX0 (by decide) (by decide) kf_X10_208 dX10_arriveMore_52 ?_
    replace h := b1_some h
    obtain ⟨q18, gq18, h⟩ := h
    replace h := b2_some h
    obtain ⟨_ur19, s20, gs20, h⟩ := h
    refine z_callVv (rest := []) X hW hS (cX10_touch_met gs20) kb_X10_touch kv_X10_touch kl_X10_85 (it_v gq18).1 kX10 rfl rfl ⟨Nat.le_of_ble_eq_true rfl, Nat.le_of_ble_eq_true rfl⟩ rfl rfl (by decide) hl.1 dX10_arriveMore_55 ⟨(by decide), (by decide)⟩ (fun H locs hW hS => ?_)
    refine lv_iconst (v := 1) hx hb dX10_arriveMore_58 (by decide) ?_
    exact z_etz X hlk hr hW hS h (by decide) (by decide) dX10_arriveMore_59
  · replace h := it_t h c5
    refine lv_iconst (v := 0) hx hb dX10_arriveMore_11 (by decide) ?_
    exact z_etz X hlk hr hW hS h (by decide) (by decide) dX10_arriveMore_12

set_option maxHeartbeats 4000000 in
set_option maxRecDepth 100000 in
theorem cX10_arriveMore_met {l : Launch} {A : Nat → Prop} {D : va_G} {cy : Nat → ClassId} {r0 : Int32} {h0 : Hz} {o : Nat} {v1 : Option Nat} {h : Hz} (g : fX10_arriveMore o v1 h = some (r0, h0)) : Met l yX10_arriveMore (Cond.code yX10_arriveMore cX10_arriveMore 2 (some .boolean) :: wT) ({ frames := 3, cells := 1, slots := 10, locals := 62 } : Room) (va_Pc [.ref o, va_rf v1] (zS A D cy h)) (va_Qi (fun r1 u => r1 = r0 ∧ u = h0) (zB A D cy) A) 1 10 A := by
  refine Met.ofW (cc := cX10_arriveMore) (maxL := 2) (ret := (some .boolean)) (by decide) rfl ?_
  intro p e s m args below meth c s₁ B hml hv
  obtain ⟨rfl, hW, hK, hN, hA⟩ := hv
  have X : zX A D cy p s m _ c cX10_arriveMore RX10 2 := ⟨B.exec, B.bytes, fun w hw => atoms_spec (ws := Cond.code yX10_arriveMore cX10_arriveMore 2 (some .boolean) :: wT) B.pre w (List.mem_cons_of_mem _ hw), findClass_of_methodNamed B.named, hK, hml, hN, hA⟩
  cases v1 with
  | none =>
    have hl := lv_entry [.ref o, va_rf none] (n := 2) (Nat.le_of_ble_eq_true rfl)
    rw [lg_entry_eq]
    generalize (lg_sl [.ref o, va_rf none] ++ List.replicate (2 - (lg_sl [.ref o, va_rf none]).length) Slot.unset).toArray = ls at hl ⊢
    have hl : lv_has ls 2 [(0, .ref o), (1, va_rf none)] := hl
    exact wX10_arriveMore_0 X B.notSynchronized B.returns o none _ _ _ _ (lv_sub hl [0, 1] rfl) hW va_S.rf g
  | some v1 =>
    have hl := lv_entry [.ref o, va_rf (some v1)] (n := 2) (Nat.le_of_ble_eq_true rfl)
    rw [lg_entry_eq]
    generalize (lg_sl [.ref o, va_rf (some v1)] ++ List.replicate (2 - (lg_sl [.ref o, va_rf (some v1)]).length) Slot.unset).toArray = ls at hl ⊢
    have hl : lv_has ls 2 [(0, .ref o), (1, va_rf (some v1))] := hl
    exact wX10_arriveMore_0 X B.notSynchronized B.returns o (some v1) _ _ _ _ (lv_sub hl [0, 1] rfl) hW va_S.rf g

theorem dX10_gateWithMore_0 : decode cX10_gateWithMore 0 = .ok (.aload_n 0, 1) := by decide +kernel
theorem dX10_gateWithMore_1 : decode cX10_gateWithMore 1 = .ok (.getfield 10, 3) := by decide +kernel
theorem dX10_gateWithMore_4 : decode cX10_gateWithMore 4 = .ok (.iload_n 1, 1) := by decide +kernel
theorem dX10_gateWithMore_5 : decode cX10_gateWithMore 5 = .ok (.aload_n 2, 1) := by decide +kernel
theorem dX10_gateWithMore_6 : decode cX10_gateWithMore 6 = .ok (.invokevirtual 187, 3) := by decide +kernel
theorem dX10_gateWithMore_9 : decode cX10_gateWithMore 9 = .ok (.astore 4, 2) := by decide +kernel
theorem dX10_gateWithMore_11 : decode cX10_gateWithMore 11 = .ok (.aload 4, 2) := by decide +kernel
theorem dX10_gateWithMore_13 : decode cX10_gateWithMore 13 = .ok (.ifnonnull 28, 3) := by decide +kernel
theorem dX10_gateWithMore_16 : decode cX10_gateWithMore 16 = .ok (.aload_n 0, 1) := by decide +kernel
theorem dX10_gateWithMore_17 : decode cX10_gateWithMore 17 = .ok (.getfield 10, 3) := by decide +kernel
theorem dX10_gateWithMore_20 : decode cX10_gateWithMore 20 = .ok (.iconst 3, 1) := by decide +kernel
theorem dX10_gateWithMore_21 : decode cX10_gateWithMore 21 = .ok (.iload_n 1, 1) := by decide +kernel
theorem dX10_gateWithMore_22 : decode cX10_gateWithMore 22 = .ok (.iconst 0, 1) := by decide +kernel
theorem dX10_gateWithMore_23 : decode cX10_gateWithMore 23 = .ok (.invokevirtual 81, 3) := by decide +kernel
theorem dX10_gateWithMore_26 : decode cX10_gateWithMore 26 = .ok (.astore 4, 2) := by decide +kernel
theorem dX10_gateWithMore_28 : decode cX10_gateWithMore 28 = .ok (.aload 4, 2) := by decide +kernel
theorem dX10_gateWithMore_30 : decode cX10_gateWithMore 30 = .ok (.ifnonnull 5, 3) := by decide +kernel
theorem dX10_gateWithMore_33 : decode cX10_gateWithMore 33 = .ok (.aconst_null, 1) := by decide +kernel
theorem dX10_gateWithMore_34 : decode cX10_gateWithMore 34 = .ok (.areturn, 1) := by decide +kernel
theorem dX10_gateWithMore_35 : decode cX10_gateWithMore 35 = .ok (.aload 4, 2) := by decide +kernel
theorem dX10_gateWithMore_37 : decode cX10_gateWithMore 37 = .ok (.aload_n 2, 1) := by decide +kernel
theorem dX10_gateWithMore_38 : decode cX10_gateWithMore 38 = .ok (.putfield 180, 3) := by decide +kernel
theorem dX10_gateWithMore_41 : decode cX10_gateWithMore 41 = .ok (.aload 4, 2) := by decide +kernel
theorem dX10_gateWithMore_43 : decode cX10_gateWithMore 43 = .ok (.dup, 1) := by decide +kernel
theorem dX10_gateWithMore_44 : decode cX10_gateWithMore 44 = .ok (.getfield 184, 3) := by decide +kernel
theorem dX10_gateWithMore_47 : decode cX10_gateWithMore 47 = .ok (.iload_n 3, 1) := by decide +kernel
theorem dX10_gateWithMore_48 : decode cX10_gateWithMore 48 = .ok (.iadd, 1) := by decide +kernel
theorem dX10_gateWithMore_49 : decode cX10_gateWithMore 49 = .ok (.putfield 184, 3) := by decide +kernel
theorem dX10_gateWithMore_52 : decode cX10_gateWithMore 52 = .ok (.aload 4, 2) := by decide +kernel
theorem dX10_gateWithMore_54 : decode cX10_gateWithMore 54 = .ok (.areturn, 1) := by decide +kernel
def fX10_gateWithMore_41 (v3 : Int32) (v4 : Nat) (h : Hz) : Option (Option Nat × Hz) := (b1 (gI 5 7 v4 h) fun x1 => (b1 (pI 5 7 v4 (x1 + v3) h) fun s2 => some ((some v4), s2)))
set_option maxHeartbeats 4000000 in
set_option maxRecDepth 100000 in
theorem wX10_gateWithMore_41 {r0 : Option Nat} {h0 : Hz} (X : zX A D cy p s m args c cX10_gateWithMore RX10 5) (hlk : meth.locks = false) (hr : meth.sig.returnType = (some (.object "FarHold$Thing"))) (v3 : Int32) (v4 : Nat) (h : Hz) (H : Heap) (locs : List Loc) (ls : Array Slot) (hl : lv_has ls 5 [(3, .int v3), (4, .ref v4)]) (hW : zW A cy D h H) (hS : va_S A s.heap H locs) (h : fX10_gateWithMore_41 v3 v4 h = some (r0, h0)) : W p l e ({ frames := 3, cells := 3, slots := 27, locals := 63 } : Room) s m args below meth c H locs 3 27 (MQ below (va_Qq (fun r1 u => r1 = r0 ∧ u = h0) (zB A D cy) A) args s 3 27 A) (F0 m 41 ls []) := by
  obtain ⟨hx, hb, hts, hown, hK9, hml, hN9, hA9⟩ := id X
  unfold fX10_gateWithMore_41 at h
  refine lv_aload hx hb dX10_gateWithMore_41 (lv_at hl 1 rfl) ?_
  refine lv_dup hx hb dX10_gateWithMore_43 rfl ?_
  replace h := b1_some h
  obtain ⟨x1, gx1, h⟩ := h
  refine z_getI X hW gx1 kX5 (by decide) (by decide) kf_X10_184 dX10_gateWithMore_44 ?_
  refine lv_iload_n hx hb dX10_gateWithMore_47 rfl (lv_at hl 0 rfl) ?_
  refine lv_iadd hx hb dX10_gateWithMore_48 ?_
  replace h := b1_some h
  obtain ⟨s2, gs2, h⟩ := h
  refine z_putI X hW hS gs2 kX5 (by decide) (by decide) rfl (Or.inl rfl) kf_X10_184 dX10_gateWithMore_49 (fun H locs hW hS => ?_)
  refine lv_aload hx hb dX10_gateWithMore_52 (lv_at hl 1 rfl) ?_
  exact z_eta (v := (some v4)) X hlk hr hW hS h (by decide) (by decide) dX10_gateWithMore_54

def fX10_gateWithMore (o : Nat) (v1 : Int32) (v2 : Option Nat) (v3 : Int32) (h : Hz) : Option (Option Nat × Hz) := (b1 (gA 10 0 o h) fun a1 => (b1 (tg 6 a1 h) fun _ => (b2 (fX6_gateAt a1 v1 v2 h) fun r3 s4 => (oe r3 ((b1 (gA 10 0 o s4) fun a6 => (b1 (tg 6 a6 s4) fun _ => (b2 (fX6_make a6 3 v1 0 s4) fun r8 s9 => (oe r8 (some (none, s9)) fun a10 => (b1 (pP 5 6 a10 v2 s9) fun s11 => fX10_gateWithMore_41 v3 a10 s11)))))) fun a5 => fX10_gateWithMore_41 v3 a5 s4))))
set_option maxHeartbeats 4000000 in
set_option maxRecDepth 100000 in
theorem wX10_gateWithMore_0 {r0 : Option Nat} {h0 : Hz} (X : zX A D cy p s m args c cX10_gateWithMore RX10 5) (hlk : meth.locks = false) (hr : meth.sig.returnType = (some (.object "FarHold$Thing"))) (o : Nat) (v1 : Int32) (v2 : Option Nat) (v3 : Int32) (h : Hz) (H : Heap) (locs : List Loc) (ls : Array Slot) (hl : lv_has ls 5 [(0, .ref o), (1, .int v1), (2, va_rf v2), (3, .int v3)]) (hW : zW A cy D h H) (hS : va_S A s.heap H locs) (h : fX10_gateWithMore o v1 v2 v3 h = some (r0, h0)) : W p l e ({ frames := 3, cells := 3, slots := 27, locals := 63 } : Room) s m args below meth c H locs 0 0 (MQ below (va_Qq (fun r1 u => r1 = r0 ∧ u = h0) (zB A D cy) A) args s 3 27 A) (F0 m 0 ls []) := by
  obtain ⟨hx, hb, hts, hown, hK9, hml, hN9, hA9⟩ := id X
  unfold fX10_gateWithMore at h
  refine lv_aload_n hx hb dX10_gateWithMore_0 rfl (lv_at hl 0 rfl) ?_
  replace h := b1_some h
  obtain ⟨a1, ga1, h⟩ := h
  refine z_getA X hW ga1 kX10 (by decide) (by decide) kf_X10_10 dX10_gateWithMore_1 ?_
  refine lv_iload_n hx hb dX10_gateWithMore_4 rfl (lv_at hl 1 rfl) ?_
  refine z_aload_n hx hb dX10_gateWithMore_5 rfl (lv_at hl 2 rfl) ?_
  replace h := b1_some h
  obtain ⟨q2, gq2, h⟩ := h
  replace h := b2_some h
  obtain ⟨r3, s4, gs4, h⟩ := h
  refine z_callVq (rest := []) X hW hS (cX6_gateAt_met gs4) kb_X6_gateAt kv_X6_gateAt kl_X10_187 (it_v gq2).1 kX6 rfl rfl ⟨Nat.le_of_ble_eq_true rfl, Nat.le_of_ble_eq_true rfl⟩ rfl rfl (by decide) hl.1 dX10_gateWithMore_6 ⟨(by decide), (by decide)⟩ (fun H locs hW hS => ?_)
  refine z_astore (lv' := [(4, va_rf r3), (0, .ref o), (1, .int v1), (2, va_rf v2), (3, .int v3)]) hx hb dX10_gateWithMore_9 hl (by decide) rfl (fun ls hl => ?_)
  refine z_aload hx hb dX10_gateWithMore_11 (lv_at hl 0 rfl) ?_
  cases r3 with
  | none =>
    replace h := oe_n h
    have hl : lv_has ls 5 [(4, .null), (0, .ref o), (1, .int v1), (2, va_rf v2), (3, .int v3)] := hl
    refine lv_ifnonnullN hx hb dX10_gateWithMore_13 ?_
    refine lv_aload_n hx hb dX10_gateWithMore_16 rfl (lv_at hl 1 rfl) ?_
    replace h := b1_some h
    obtain ⟨a6, ga6, h⟩ := h
    refine z_getA X hW ga6 kX10 (by decide) (by decide) kf_X10_10 dX10_gateWithMore_17 ?_
    refine lv_iconst (v := 3) hx hb dX10_gateWithMore_20 (by decide) ?_
    refine lv_iload_n hx hb dX10_gateWithMore_21 rfl (lv_at hl 2 rfl) ?_
    refine lv_iconst (v := 0) hx hb dX10_gateWithMore_22 (by decide) ?_
    replace h := b1_some h
    obtain ⟨q7, gq7, h⟩ := h
    replace h := b2_some h
    obtain ⟨r8, s9, gs9, h⟩ := h
    refine z_callVq (rest := []) X hW hS (cX6_make_met gs9) kb_X6_make kv_X6_make kl_X10_81 (it_v gq7).1 kX6 rfl rfl ⟨Nat.le_of_ble_eq_true rfl, Nat.le_of_ble_eq_true rfl⟩ rfl rfl (by decide) hl.1 dX10_gateWithMore_23 ⟨(by decide), (by decide)⟩ (fun H locs hW hS => ?_)
    refine z_astore (lv' := [(4, va_rf r8), (0, .ref o), (1, .int v1), (2, va_rf v2), (3, .int v3)]) hx hb dX10_gateWithMore_26 hl (by decide) rfl (fun ls hl => ?_)
    refine z_aload hx hb dX10_gateWithMore_28 (lv_at hl 0 rfl) ?_
    cases r8 with
    | none =>
      replace h := oe_n h
      have hl : lv_has ls 5 [(4, .null), (0, .ref o), (1, .int v1), (2, va_rf v2), (3, .int v3)] := hl
      refine lv_ifnonnullN hx hb dX10_gateWithMore_30 ?_
      refine lv_null hx hb dX10_gateWithMore_33 ?_
      exact z_eta (v := none) X hlk hr hW hS h (by decide) (by decide) dX10_gateWithMore_34
    | some a10 =>
      replace h := oe_s h
      have hl : lv_has ls 5 [(4, .ref a10), (0, .ref o), (1, .int v1), (2, va_rf v2), (3, .int v3)] := hl
      refine lv_ifnonnull (tgt := 35) hx hb dX10_gateWithMore_30 (by decide) ?_
      refine lv_aload hx hb dX10_gateWithMore_35 (lv_at hl 0 rfl) ?_
      refine z_aload_n hx hb dX10_gateWithMore_37 rfl (lv_at hl 3 rfl) ?_
      replace h := b1_some h
      obtain ⟨s11, gs11, h⟩ := h
      refine z_putP X hW hS gs11 kX5 (by decide) (by decide) (Or.inl ⟨_, rfl⟩) (Or.inl rfl) kf_X10_180 dX10_gateWithMore_38 (fun H locs hW hS => ?_)
      exact wX10_gateWithMore_41 X hlk hr v3 a10 _ _ _ _ (lv_sub hl [4, 0] rfl) hW hS h
  | some a5 =>
    replace h := oe_s h
    have hl : lv_has ls 5 [(4, .ref a5), (0, .ref o), (1, .int v1), (2, va_rf v2), (3, .int v3)] := hl
    refine lv_ifnonnull (tgt := 41) hx hb dX10_gateWithMore_13 (by decide) ?_
    refine W.widen (k := 3) (n := 27) (by decide) (by decide) ?_
    exact wX10_gateWithMore_41 X hlk hr v3 a5 _ _ _ _ (lv_sub hl [4, 0] rfl) hW hS h

set_option maxHeartbeats 4000000 in
set_option maxRecDepth 100000 in
theorem cX10_gateWithMore_met {l : Launch} {A : Nat → Prop} {D : va_G} {cy : Nat → ClassId} {r0 : Option Nat} {h0 : Hz} {o : Nat} {v1 : Int32} {v2 : Option Nat} {v3 : Int32} {h : Hz} (g : fX10_gateWithMore o v1 v2 v3 h = some (r0, h0)) : Met l yX10_gateWithMore (Cond.code yX10_gateWithMore cX10_gateWithMore 5 (some (.object "FarHold$Thing")) :: wT) ({ frames := 3, cells := 3, slots := 27, locals := 63 } : Room) (va_Pc [.ref o, .int v1, va_rf v2, .int v3] (zS A D cy h)) (va_Qq (fun r1 u => r1 = r0 ∧ u = h0) (zB A D cy) A) 3 27 A := by
  refine Met.ofW (cc := cX10_gateWithMore) (maxL := 5) (ret := (some (.object "FarHold$Thing"))) (by decide) rfl ?_
  intro p e s m args below meth c s₁ B hml hv
  obtain ⟨rfl, hW, hK, hN, hA⟩ := hv
  have X : zX A D cy p s m _ c cX10_gateWithMore RX10 5 := ⟨B.exec, B.bytes, fun w hw => atoms_spec (ws := Cond.code yX10_gateWithMore cX10_gateWithMore 5 (some (.object "FarHold$Thing")) :: wT) B.pre w (List.mem_cons_of_mem _ hw), findClass_of_methodNamed B.named, hK, hml, hN, hA⟩
  cases v2 with
  | none =>
    have hl := lv_entry [.ref o, .int v1, va_rf none, .int v3] (n := 5) (Nat.le_of_ble_eq_true rfl)
    rw [lg_entry_eq]
    generalize (lg_sl [.ref o, .int v1, va_rf none, .int v3] ++ List.replicate (5 - (lg_sl [.ref o, .int v1, va_rf none, .int v3]).length) Slot.unset).toArray = ls at hl ⊢
    have hl : lv_has ls 5 [(0, .ref o), (1, .int v1), (2, va_rf none), (3, .int v3)] := hl
    exact wX10_gateWithMore_0 X B.notSynchronized B.returns o v1 none v3 _ _ _ _ (lv_sub hl [0, 1, 2, 3] rfl) hW va_S.rf g
  | some v2 =>
    have hl := lv_entry [.ref o, .int v1, va_rf (some v2), .int v3] (n := 5) (Nat.le_of_ble_eq_true rfl)
    rw [lg_entry_eq]
    generalize (lg_sl [.ref o, .int v1, va_rf (some v2), .int v3] ++ List.replicate (5 - (lg_sl [.ref o, .int v1, va_rf (some v2), .int v3]).length) Slot.unset).toArray = ls at hl ⊢
    have hl : lv_has ls 5 [(0, .ref o), (1, .int v1), (2, va_rf (some v2)), (3, .int v3)] := hl
    exact wX10_gateWithMore_0 X B.notSynchronized B.returns o v1 (some v2) v3 _ _ _ _ (lv_sub hl [0, 1, 2, 3] rfl) hW va_S.rf g

end Z14_classb
