section Z14_classc
variable {p : Program} {l : Launch} {e : Env} {s : State} {m : MethodId} {args : Array Value} {below : List Frame} {meth : Method} {c : Code} {A : Nat → Prop} {D : va_G} {cy : Nat → ClassId}
theorem dX10_arriveName_0 : decode cX10_arriveName 0 = .ok (.aload_n 1, 1) := by decide +kernel
theorem dX10_arriveName_1 : decode cX10_arriveName 1 = .ok (.getfield 214, 3) := by decide +kernel
theorem dX10_arriveName_4 : decode cX10_arriveName 4 = .ok (.astore_n 2, 1) := by decide +kernel
theorem dX10_arriveName_5 : decode cX10_arriveName 5 = .ok (.aload_n 1, 1) := by decide +kernel
theorem dX10_arriveName_6 : decode cX10_arriveName 6 = .ok (.getfield 208, 3) := by decide +kernel
theorem dX10_arriveName_9 : decode cX10_arriveName 9 = .ok (.aload_n 2, 1) := by decide +kernel
theorem dX10_arriveName_10 : decode cX10_arriveName 10 = .ok (.getfield 109, 3) := by decide +kernel
theorem dX10_arriveName_13 : decode cX10_arriveName 13 = .ok (.if_icmp .ne 14, 3) := by decide +kernel
theorem dX10_arriveName_16 : decode cX10_arriveName 16 = .ok (.aload_n 2, 1) := by decide +kernel
theorem dX10_arriveName_17 : decode cX10_arriveName 17 = .ok (.aload_n 1, 1) := by decide +kernel
theorem dX10_arriveName_18 : decode cX10_arriveName 18 = .ok (.getfield 217, 3) := by decide +kernel
theorem dX10_arriveName_21 : decode cX10_arriveName 21 = .ok (.invokevirtual 346, 3) := by decide +kernel
theorem dX10_arriveName_24 : decode cX10_arriveName 24 = .ok (.goto 20, 3) := by decide +kernel
theorem dX10_arriveName_27 : decode cX10_arriveName 27 = .ok (.aload_n 0, 1) := by decide +kernel
theorem dX10_arriveName_28 : decode cX10_arriveName 28 = .ok (.aload_n 1, 1) := by decide +kernel
theorem dX10_arriveName_29 : decode cX10_arriveName 29 = .ok (.getfield 208, 3) := by decide +kernel
theorem dX10_arriveName_32 : decode cX10_arriveName 32 = .ok (.aload_n 1, 1) := by decide +kernel
theorem dX10_arriveName_33 : decode cX10_arriveName 33 = .ok (.getfield 214, 3) := by decide +kernel
theorem dX10_arriveName_36 : decode cX10_arriveName 36 = .ok (.aload_n 1, 1) := by decide +kernel
theorem dX10_arriveName_37 : decode cX10_arriveName 37 = .ok (.getfield 217, 3) := by decide +kernel
theorem dX10_arriveName_40 : decode cX10_arriveName 40 = .ok (.invokevirtual 349, 3) := by decide +kernel
theorem dX10_arriveName_43 : decode cX10_arriveName 43 = .ok (.astore_n 2, 1) := by decide +kernel
theorem dX10_arriveName_44 : decode cX10_arriveName 44 = .ok (.aload_n 2, 1) := by decide +kernel
theorem dX10_arriveName_45 : decode cX10_arriveName 45 = .ok (.ifnonnull 5, 3) := by decide +kernel
theorem dX10_arriveName_48 : decode cX10_arriveName 48 = .ok (.iconst 0, 1) := by decide +kernel
theorem dX10_arriveName_49 : decode cX10_arriveName 49 = .ok (.ireturn, 1) := by decide +kernel
theorem dX10_arriveName_50 : decode cX10_arriveName 50 = .ok (.aload_n 1, 1) := by decide +kernel
theorem dX10_arriveName_51 : decode cX10_arriveName 51 = .ok (.getfield 218, 3) := by decide +kernel
theorem dX10_arriveName_54 : decode cX10_arriveName 54 = .ok (.ifnull 15, 3) := by decide +kernel
theorem dX10_arriveName_57 : decode cX10_arriveName 57 = .ok (.aload_n 1, 1) := by decide +kernel
theorem dX10_arriveName_58 : decode cX10_arriveName 58 = .ok (.getfield 218, 3) := by decide +kernel
theorem dX10_arriveName_61 : decode cX10_arriveName 61 = .ok (.aload_n 1, 1) := by decide +kernel
theorem dX10_arriveName_62 : decode cX10_arriveName 62 = .ok (.getfield 221, 3) := by decide +kernel
theorem dX10_arriveName_65 : decode cX10_arriveName 65 = .ok (.aload_n 2, 1) := by decide +kernel
theorem dX10_arriveName_66 : decode cX10_arriveName 66 = .ok (.invokevirtual 115, 3) := by decide +kernel
theorem dX10_arriveName_69 : decode cX10_arriveName 69 = .ok (.aload_n 0, 1) := by decide +kernel
theorem dX10_arriveName_70 : decode cX10_arriveName 70 = .ok (.aload_n 1, 1) := by decide +kernel
theorem dX10_arriveName_71 : decode cX10_arriveName 71 = .ok (.getfield 208, 3) := by decide +kernel
theorem dX10_arriveName_74 : decode cX10_arriveName 74 = .ok (.invokevirtual 85, 3) := by decide +kernel
theorem dX10_arriveName_77 : decode cX10_arriveName 77 = .ok (.iconst 1, 1) := by decide +kernel
theorem dX10_arriveName_78 : decode cX10_arriveName 78 = .ok (.ireturn, 1) := by decide +kernel
def fX10_arriveName_69 (o : Nat) (v1 : Nat) (h : Hz) : Option (Int32 × Hz) := (b1 (gI 0 2 v1 h) fun x1 => (b1 (tg 10 o h) fun _ => (b2 (fX10_touch o x1 h) fun _ s4 => rz 1 s4)))
set_option maxHeartbeats 4000000 in
set_option maxRecDepth 100000 in
theorem wX10_arriveName_69 {r0 : Int32} {h0 : Hz} (X : zX A D cy p s m args c cX10_arriveName RX10 3) (hlk : meth.locks = false) (hr : meth.sig.returnType = (some .boolean)) (o : Nat) (v1 : Nat) (h : Hz) (H : Heap) (locs : List Loc) (ls : Array Slot) (hl : lv_has ls 3 [(0, .ref o), (1, .ref v1)]) (hW : zW A cy D h H) (hS : va_S A s.heap H locs) (h : fX10_arriveName_69 o v1 h = some (r0, h0)) : W p l e ({ frames := 4, cells := 3, slots := 27, locals := 87 } : Room) s m args below meth c H locs 3 27 (MQ below (va_Qi (fun r1 u => r1 = r0 ∧ u = h0) (zB A D cy) A) args s 3 27 A) (F0 m 69 ls []) := by
  obtain ⟨hx, hb, hts, hown, hK9, hml, hN9, hA9⟩ := id X
  unfold fX10_arriveName_69 at h
  refine lv_aload_n hx hb dX10_arriveName_69 rfl (lv_at hl 0 rfl) ?_
  refine lv_aload_n hx hb dX10_arriveName_70 rfl (lv_at hl 1 rfl) ?_
  replace h := b1_some h
  obtain ⟨x1, gx1, h⟩ := h
  refine z_getI X hW gx1 kX0 (by decide) (by decide) kf_X10_208 dX10_arriveName_71 ?_
  replace h := b1_some h
  obtain ⟨q2, gq2, h⟩ := h
  replace h := b2_some h
  obtain ⟨_ur3, s4, gs4, h⟩ := h
  refine z_callVv (rest := []) X hW hS (cX10_touch_met gs4) kb_X10_touch kv_X10_touch kl_X10_85 (it_v gq2).1 kX10 rfl rfl ⟨Nat.le_of_ble_eq_true rfl, Nat.le_of_ble_eq_true rfl⟩ rfl rfl (by decide) hl.1 dX10_arriveName_74 ⟨(by decide), (by decide)⟩ (fun H locs hW hS => ?_)
  refine lv_iconst (v := 1) hx hb dX10_arriveName_77 (by decide) ?_
  exact z_etz X hlk hr hW hS h (by decide) (by decide) dX10_arriveName_78

def fX10_arriveName_44 (o : Nat) (v1 : Nat) (v2 : Option Nat) (h : Hz) : Option (Int32 × Hz) := (oe v2 (rz 0 h) fun a1 => (b1 (gP 0 5 v1 h) fun r2 => (oe r2 (fX10_arriveName_69 o v1 h) fun a3 => (b1 (gP 0 5 v1 h) fun r4 => (b1 (gI 0 6 v1 h) fun x5 => b1 r4 fun a6 => (b1 (tg 5 a6 h) fun _ => (b2 (fX5_holdThing a6 x5 (some a1) h) fun _ s9 => fX10_arriveName_69 o v1 s9)))))))
set_option maxHeartbeats 4000000 in
set_option maxRecDepth 100000 in
theorem wX10_arriveName_44 {r0 : Int32} {h0 : Hz} (X : zX A D cy p s m args c cX10_arriveName RX10 3) (hlk : meth.locks = false) (hr : meth.sig.returnType = (some .boolean)) (o : Nat) (v1 : Nat) (v2 : Option Nat) (h : Hz) (H : Heap) (locs : List Loc) (ls : Array Slot) (hl : lv_has ls 3 [(0, .ref o), (1, .ref v1), (2, va_rf v2)]) (hW : zW A cy D h H) (hS : va_S A s.heap H locs) (h : fX10_arriveName_44 o v1 v2 h = some (r0, h0)) : W p l e ({ frames := 4, cells := 3, slots := 27, locals := 87 } : Room) s m args below meth c H locs 3 27 (MQ below (va_Qi (fun r1 u => r1 = r0 ∧ u = h0) (zB A D cy) A) args s 3 27 A) (F0 m 44 ls []) := by
  obtain ⟨hx, hb, hts, hown, hK9, hml, hN9, hA9⟩ := id X
  unfold fX10_arriveName_44 at h
  refine z_aload_n hx hb dX10_arriveName_44 rfl (lv_at hl 2 rfl) ?_
  cases v2 with
  | none =>
    replace h := oe_n h
    have hl : lv_has ls 3 [(0, .ref o), (1, .ref v1), (2, .null)] := hl
    refine lv_ifnonnullN hx hb dX10_arriveName_45 ?_
    refine lv_iconst (v := 0) hx hb dX10_arriveName_48 (by decide) ?_
    exact z_etz X hlk hr hW hS h (by decide) (by decide) dX10_arriveName_49
  | some a1 =>
    replace h := oe_s h
    have hl : lv_has ls 3 [(0, .ref o), (1, .ref v1), (2, .ref a1)] := hl
    refine lv_ifnonnull (tgt := 50) hx hb dX10_arriveName_45 (by decide) ?_
    refine lv_aload_n hx hb dX10_arriveName_50 rfl (lv_at hl 1 rfl) ?_
    replace h := b1_some h
    obtain ⟨r2, gr2, h⟩ := h
    refine z_getP X hW gr2 kX0 (by decide) (by decide) kf_X10_218 dX10_arriveName_51 ?_
    cases r2 with
    | none =>
      replace h := oe_n h
      have hl : lv_has ls 3 [(0, .ref o), (1, .ref v1), (2, .ref a1)] := hl
      refine lv_ifnullN (tgt := 69) hx hb dX10_arriveName_54 (by decide) ?_
      exact wX10_arriveName_69 X hlk hr o v1 _ _ _ _ (lv_sub hl [0, 1] rfl) hW hS h
    | some a3 =>
      replace h := oe_s h
      have hl : lv_has ls 3 [(0, .ref o), (1, .ref v1), (2, .ref a1)] := hl
      refine lv_ifnull hx hb dX10_arriveName_54 ?_
      refine lv_aload_n hx hb dX10_arriveName_57 rfl (lv_at hl 1 rfl) ?_
      replace h := b1_some h
      obtain ⟨r4, gr4, h⟩ := h
      refine z_getP X hW gr4 kX0 (by decide) (by decide) kf_X10_218 dX10_arriveName_58 ?_
      refine lv_aload_n hx hb dX10_arriveName_61 rfl (lv_at hl 1 rfl) ?_
      replace h := b1_some h
      obtain ⟨x5, gx5, h⟩ := h
      refine z_getI X hW gx5 kX0 (by decide) (by decide) kf_X10_221 dX10_arriveName_62 ?_
      refine lv_aload_n hx hb dX10_arriveName_65 rfl (lv_at hl 2 rfl) ?_
      replace h := b1_some h
      obtain ⟨a6, ea6, h⟩ := h
      subst ea6
      replace h := b1_some h
      obtain ⟨q7, gq7, h⟩ := h
      replace h := b2_some h
      obtain ⟨_ur8, s9, gs9, h⟩ := h
      refine z_callVv (rest := []) X hW hS (cX5_holdThing_met gs9) kb_X5_holdThing kv_X5_holdThing kl_X10_115 (it_v gq7).1 kX5 rfl rfl ⟨Nat.le_of_ble_eq_true rfl, Nat.le_of_ble_eq_true rfl⟩ rfl rfl (by decide) hl.1 dX10_arriveName_66 ⟨(by decide), (by decide)⟩ (fun H locs hW hS => ?_)
      exact wX10_arriveName_69 X hlk hr o v1 _ _ _ _ (lv_sub hl [0, 1] rfl) hW hS h

def fX10_arriveName (o : Nat) (v1 : Option Nat) (h : Hz) : Option (Int32 × Hz) := b1 v1 fun a1 => (b1 (gA 0 3 a1 h) fun a2 => (b1 (gI 0 2 a1 h) fun x3 => (b1 (gI 5 2 a2 h) fun x4 => (if x3 = x4 then (b1 (gI 0 4 a1 h) fun x12 => (b1 (tg 5 a2 h) fun _ => (b2 (fX5_takeFromExit a2 x12 h) fun _ s15 => fX10_arriveName_44 o a1 (some a2) s15))) else (b1 (gI 0 2 a1 h) fun x6 => (b1 (gA 0 3 a1 h) fun a7 => (b1 (gI 0 4 a1 h) fun x8 => (b1 (tg 10 o h) fun _ => (b2 (fX10_gateWithMore o x6 (some a7) x8 h) fun r10 s11 => fX10_arriveName_44 o a1 r10 s11)))))))))
set_option maxHeartbeats 4000000 in
set_option maxRecDepth 100000 in
theorem wX10_arriveName_0 {r0 : Int32} {h0 : Hz} (X : zX A D cy p s m args c cX10_arriveName RX10 3) (hlk : meth.locks = false) (hr : meth.sig.returnType = (some .boolean)) (o : Nat) (v1 : Option Nat) (h : Hz) (H : Heap) (locs : List Loc) (ls : Array Slot) (hl : lv_has ls 3 [(0, .ref o), (1, va_rf v1)]) (hW : zW A cy D h H) (hS : va_S A s.heap H locs) (h : fX10_arriveName o v1 h = some (r0, h0)) : W p l e ({ frames := 4, cells := 3, slots := 27, locals := 87 } : Room) s m args below meth c H locs 0 0 (MQ below (va_Qi (fun r1 u => r1 = r0 ∧ u = h0) (zB A D cy) A) args s 3 27 A) (F0 m 0 ls []) := by
  obtain ⟨hx, hb, hts, hown, hK9, hml, hN9, hA9⟩ := id X
  unfold fX10_arriveName at h
  refine z_aload_n hx hb dX10_arriveName_0 rfl (lv_at hl 1 rfl) ?_
  replace h := b1_some h
  obtain ⟨a1, ea1, h⟩ := h
  subst ea1
  replace h := b1_some h
  obtain ⟨a2, ga2, h⟩ := h
  refine z_getA X hW ga2 kX0 (by decide) (by decide) kf_X10_214 dX10_arriveName_1 ?_
  refine lv_astore_n (lv' := [(2, .ref a2), (0, .ref o), (1, .ref a1)]) hx hb dX10_arriveName_4 rfl hl (by decide) rfl (fun ls hl => ?_)
  refine lv_aload_n hx hb dX10_arriveName_5 rfl (lv_at hl 2 rfl) ?_
  replace h := b1_some h
  obtain ⟨x3, gx3, h⟩ := h
  refine z_getI X hW gx3 kX0 (by decide) (by decide) kf_X10_208 dX10_arriveName_6 ?_
  refine lv_aload_n hx hb dX10_arriveName_9 rfl (lv_at hl 0 rfl) ?_
  replace h := b1_some h
  obtain ⟨x4, gx4, h⟩ := h
  refine z_getI X hW gx4 kX5 (by decide) (by decide) kf_X10_109 dX10_arriveName_10 ?_
  refine lv_icmp_ne (tgt := 27) hx hb dX10_arriveName_13 (by decide) (fun c5 => ?_) (fun c5 => ?_)
  · replace h := it_f h c5
    refine lv_aload_n hx hb dX10_arriveName_27 rfl (lv_at hl 1 rfl) ?_
    refine lv_aload_n hx hb dX10_arriveName_28 rfl (lv_at hl 2 rfl) ?_
    replace h := b1_some h
    obtain ⟨x6, gx6, h⟩ := h
    refine z_getI X hW gx6 kX0 (by decide) (by decide) kf_X10_208 dX10_arriveName_29 ?_
    refine lv_aload_n hx hb dX10_arriveName_32 rfl (lv_at hl 2 rfl) ?_
    replace h := b1_some h
    obtain ⟨a7, ga7, h⟩ := h
    refine z_getA X hW ga7 kX0 (by decide) (by decide) kf_X10_214 dX10_arriveName_33 ?_
    refine lv_aload_n hx hb dX10_arriveName_36 rfl (lv_at hl 2 rfl) ?_
    replace h := b1_some h
    obtain ⟨x8, gx8, h⟩ := h
    refine z_getI X hW gx8 kX0 (by decide) (by decide) kf_X10_217 dX10_arriveName_37 ?_
    replace h := b1_some h
    obtain ⟨q9, gq9, h⟩ := h
    replace h := b2_some h
    obtain ⟨r10, s11, gs11, h⟩ := h
    refine z_callVq (rest := []) X hW hS (cX10_gateWithMore_met gs11) kb_X10_gateWithMore kv_X10_gateWithMore kl_X10_349 (it_v gq9).1 kX10 rfl rfl ⟨Nat.le_of_ble_eq_true rfl, Nat.le_of_ble_eq_true rfl⟩ rfl rfl (by decide) hl.1 dX10_arriveName_40 ⟨(by decide), (by decide)⟩ (fun H locs hW hS => ?_)
    refine z_astore_n (lv' := [(2, va_rf r10), (0, .ref o), (1, .ref a1)]) hx hb dX10_arriveName_43 rfl hl (by decide) rfl (fun ls hl => ?_)
    exact wX10_arriveName_44 X hlk hr o a1 r10 _ _ _ _ (lv_sub hl [1, 2, 0] rfl) hW hS h
  · replace h := it_t h c5
    refine lv_aload_n hx hb dX10_arriveName_16 rfl (lv_at hl 0 rfl) ?_
    refine lv_aload_n hx hb dX10_arriveName_17 rfl (lv_at hl 2 rfl) ?_
    replace h := b1_some h
    obtain ⟨x12, gx12, h⟩ := h
    refine z_getI X hW gx12 kX0 (by decide) (by decide) kf_X10_217 dX10_arriveName_18 ?_
    replace h := b1_some h
    obtain ⟨q13, gq13, h⟩ := h
    replace h := b2_some h
    obtain ⟨_ur14, s15, gs15, h⟩ := h
    refine z_callVv (rest := []) X hW hS (cX5_takeFromExit_met gs15) kb_X5_takeFromExit kv_X5_takeFromExit kl_X10_346 (it_v gq13).1 kX5 rfl rfl ⟨Nat.le_of_ble_eq_true rfl, Nat.le_of_ble_eq_true rfl⟩ rfl rfl (by decide) hl.1 dX10_arriveName_21 ⟨(by decide), (by decide)⟩ (fun H locs hW hS => ?_)
    refine lv_goto (tgt := 44) hx hb dX10_arriveName_24 (by decide) ?_
    refine W.widen (k := 3) (n := 27) (by decide) (by decide) ?_
    exact wX10_arriveName_44 X hlk hr o a1 (some a2) _ _ _ _ (lv_sub hl [1, 2, 0] rfl) hW hS h

set_option maxHeartbeats 4000000 in
set_option maxRecDepth 100000 in
theorem cX10_arriveName_met {l : Launch} {A : Nat → Prop} {D : va_G} {cy : Nat → ClassId} {r0 : Int32} {h0 : Hz} {o : Nat} {v1 : Option Nat} {h : Hz} (g : fX10_arriveName o v1 h = some (r0, h0)) : Met l yX10_arriveName (Cond.code yX10_arriveName cX10_arriveName 3 (some .boolean) :: wT) ({ frames := 4, cells := 3, slots := 27, locals := 87 } : Room) (va_Pc [.ref o, va_rf v1] (zS A D cy h)) (va_Qi (fun r1 u => r1 = r0 ∧ u = h0) (zB A D cy) A) 3 27 A := by
  refine Met.ofW (cc := cX10_arriveName) (maxL := 3) (ret := (some .boolean)) (by decide) rfl ?_
  intro p e s m args below meth c s₁ B hml hv
  obtain ⟨rfl, hW, hK, hN, hA⟩ := hv
  have X : zX A D cy p s m _ c cX10_arriveName RX10 3 := ⟨B.exec, B.bytes, fun w hw => atoms_spec (ws := Cond.code yX10_arriveName cX10_arriveName 3 (some .boolean) :: wT) B.pre w (List.mem_cons_of_mem _ hw), findClass_of_methodNamed B.named, hK, hml, hN, hA⟩
  cases v1 with
  | none =>
    have hl := lv_entry [.ref o, va_rf none] (n := 3) (Nat.le_of_ble_eq_true rfl)
    rw [lg_entry_eq]
    generalize (lg_sl [.ref o, va_rf none] ++ List.replicate (3 - (lg_sl [.ref o, va_rf none]).length) Slot.unset).toArray = ls at hl ⊢
    have hl : lv_has ls 3 [(0, .ref o), (1, va_rf none)] := hl
    exact wX10_arriveName_0 X B.notSynchronized B.returns o none _ _ _ _ (lv_sub hl [0, 1] rfl) hW va_S.rf g
  | some v1 =>
    have hl := lv_entry [.ref o, va_rf (some v1)] (n := 3) (Nat.le_of_ble_eq_true rfl)
    rw [lg_entry_eq]
    generalize (lg_sl [.ref o, va_rf (some v1)] ++ List.replicate (3 - (lg_sl [.ref o, va_rf (some v1)]).length) Slot.unset).toArray = ls at hl ⊢
    have hl : lv_has ls 3 [(0, .ref o), (1, va_rf (some v1))] := hl
    exact wX10_arriveName_0 X B.notSynchronized B.returns o (some v1) _ _ _ _ (lv_sub hl [0, 1] rfl) hW va_S.rf g

theorem dX10_countOf_0 : decode cX10_countOf 0 = .ok (.iload_n 1, 1) := by decide +kernel
theorem dX10_countOf_1 : decode cX10_countOf 1 = .ok (.invokestatic 73, 3) := by decide +kernel
theorem dX10_countOf_4 : decode cX10_countOf 4 = .ok (.ifCond .eq 21, 3) := by decide +kernel
theorem dX10_countOf_7 : decode cX10_countOf 7 = .ok (.iload_n 1, 1) := by decide +kernel
theorem dX10_countOf_8 : decode cX10_countOf 8 = .ok (.aload_n 0, 1) := by decide +kernel
theorem dX10_countOf_9 : decode cX10_countOf 9 = .ok (.getfield 36, 3) := by decide +kernel
theorem dX10_countOf_12 : decode cX10_countOf 12 = .ok (.arraylength, 1) := by decide +kernel
theorem dX10_countOf_13 : decode cX10_countOf 13 = .ok (.if_icmp .ge 12, 3) := by decide +kernel
theorem dX10_countOf_16 : decode cX10_countOf 16 = .ok (.aload_n 0, 1) := by decide +kernel
theorem dX10_countOf_17 : decode cX10_countOf 17 = .ok (.getfield 36, 3) := by decide +kernel
theorem dX10_countOf_20 : decode cX10_countOf 20 = .ok (.iload_n 1, 1) := by decide +kernel
theorem dX10_countOf_21 : decode cX10_countOf 21 = .ok (.iaload, 1) := by decide +kernel
theorem dX10_countOf_22 : decode cX10_countOf 22 = .ok (.goto 4, 3) := by decide +kernel
theorem dX10_countOf_25 : decode cX10_countOf 25 = .ok (.iconst 0, 1) := by decide +kernel
theorem dX10_countOf_26 : decode cX10_countOf 26 = .ok (.ireturn, 1) := by decide +kernel
def fX10_countOf (o : Nat) (v1 : Int32) (h : Hz) : Option (Int32 × Hz) := (b2 (fX10_isHost v1 h) fun x1 s2 => (if x1 = 0 then some (0, s2) else (b1 (gA 10 4 o s2) fun a4 => (b1 (xN 12 a4 s2) fun x5 => (if x5 ≤ v1 then some (0, s2) else (b1 (gA 10 4 o s2) fun a7 => (b1 (xI 12 a7 v1 s2) fun x8 => some (x8, s2))))))))
set_option maxHeartbeats 4000000 in
set_option maxRecDepth 100000 in
theorem wX10_countOf_0 {r0 : Int32} {h0 : Hz} (X : zX A D cy p s m args c cX10_countOf RX10 2) (hlk : meth.locks = false) (hr : meth.sig.returnType = (some .int)) (o : Nat) (v1 : Int32) (h : Hz) (H : Heap) (locs : List Loc) (ls : Array Slot) (hl : lv_has ls 2 [(0, .ref o), (1, .int v1)]) (hW : zW A cy D h H) (hS : va_S A s.heap H locs) (h : fX10_countOf o v1 h = some (r0, h0)) : W p l e ({ frames := 1, cells := 0, slots := 0, locals := 20 } : Room) s m args below meth c H locs 0 0 (MQ below (va_Qi (fun r1 u => r1 = r0 ∧ u = h0) (zB A D cy) A) args s 0 0 A) (F0 m 0 ls []) := by
  obtain ⟨hx, hb, hts, hown, hK9, hml, hN9, hA9⟩ := id X
  unfold fX10_countOf at h
  refine lv_iload_n hx hb dX10_countOf_0 rfl (lv_at hl 1 rfl) ?_
  replace h := b2_some h
  obtain ⟨x1, s2, gs2, h⟩ := h
  refine z_callSi (rest := []) X hW hS (cX10_isHost_met gs2) kb_X10_isHost ks_X10_isHost kl_X10_73 rfl rfl ⟨Nat.le_of_ble_eq_true rfl, Nat.le_of_ble_eq_true rfl⟩ rfl rfl (by decide) hl.1 dX10_countOf_1 ⟨(by decide), (by decide)⟩ (fun H locs hW hS => ?_)
  refine lv_if_eq (tgt := 25) hx hb dX10_countOf_4 (by decide) (fun c3 => ?_) (fun c3 => ?_)
  · replace h := it_t h c3
    refine lv_iconst (v := 0) hx hb dX10_countOf_25 (by decide) ?_
    exact z_eti X hlk hr hW hS h (by decide) (by decide) dX10_countOf_26
  · replace h := it_f h c3
    refine lv_iload_n hx hb dX10_countOf_7 rfl (lv_at hl 1 rfl) ?_
    refine lv_aload_n hx hb dX10_countOf_8 rfl (lv_at hl 0 rfl) ?_
    replace h := b1_some h
    obtain ⟨a4, ga4, h⟩ := h
    refine z_getA X hW ga4 kX10 (by decide) (by decide) kf_X10_36 dX10_countOf_9 ?_
    replace h := b1_some h
    obtain ⟨x5, gx5, h⟩ := h
    refine z_alenI X hW gx5 dX10_countOf_12 ?_
    refine lv_icmp_ge (tgt := 25) hx hb dX10_countOf_13 (by decide) (fun c6 => ?_) (fun c6 => ?_)
    · replace h := it_t h c6
      refine lv_iconst (v := 0) hx hb dX10_countOf_25 (by decide) ?_
      exact z_eti X hlk hr hW hS h (by decide) (by decide) dX10_countOf_26
    · replace h := it_f h c6
      refine lv_aload_n hx hb dX10_countOf_16 rfl (lv_at hl 0 rfl) ?_
      replace h := b1_some h
      obtain ⟨a7, ga7, h⟩ := h
      refine z_getA X hW ga7 kX10 (by decide) (by decide) kf_X10_36 dX10_countOf_17 ?_
      refine lv_iload_n hx hb dX10_countOf_20 rfl (lv_at hl 1 rfl) ?_
      replace h := b1_some h
      obtain ⟨x8, gx8, h⟩ := h
      refine z_aldI X hW gx8 dX10_countOf_21 ?_
      refine lv_goto (tgt := 26) hx hb dX10_countOf_22 (by decide) ?_
      exact z_eti X hlk hr hW hS h (by decide) (by decide) dX10_countOf_26

set_option maxHeartbeats 4000000 in
set_option maxRecDepth 100000 in
theorem cX10_countOf_met {l : Launch} {A : Nat → Prop} {D : va_G} {cy : Nat → ClassId} {r0 : Int32} {h0 : Hz} {o : Nat} {v1 : Int32} {h : Hz} (g : fX10_countOf o v1 h = some (r0, h0)) : Met l yX10_countOf (Cond.code yX10_countOf cX10_countOf 2 (some .int) :: wT) ({ frames := 1, cells := 0, slots := 0, locals := 20 } : Room) (va_Pc [.ref o, .int v1] (zS A D cy h)) (va_Qi (fun r1 u => r1 = r0 ∧ u = h0) (zB A D cy) A) 0 0 A := by
  refine Met.ofW (cc := cX10_countOf) (maxL := 2) (ret := (some .int)) (by decide) rfl ?_
  intro p e s m args below meth c s₁ B hml hv
  obtain ⟨rfl, hW, hK, hN, hA⟩ := hv
  have X : zX A D cy p s m _ c cX10_countOf RX10 2 := ⟨B.exec, B.bytes, fun w hw => atoms_spec (ws := Cond.code yX10_countOf cX10_countOf 2 (some .int) :: wT) B.pre w (List.mem_cons_of_mem _ hw), findClass_of_methodNamed B.named, hK, hml, hN, hA⟩
  have hl := lv_entry [.ref o, .int v1] (n := 2) (Nat.le_of_ble_eq_true rfl)
  rw [lg_entry_eq]
  generalize (lg_sl [.ref o, .int v1] ++ List.replicate (2 - (lg_sl [.ref o, .int v1]).length) Slot.unset).toArray = ls at hl ⊢
  have hl : lv_has ls 2 [(0, .ref o), (1, .int v1)] := hl
  exact wX10_countOf_0 X B.notSynchronized B.returns o v1 _ _ _ _ (lv_sub hl [0, 1] rfl) hW va_S.rf g

theorem dX10_gatesToMeet_0 : decode cX10_gatesToMeet 0 = .ok (.aload_n 0, 1) := by decide +kernel
theorem dX10_gatesToMeet_1 : decode cX10_gatesToMeet 1 = .ok (.getfield 49, 3) := by decide +kernel
theorem dX10_gatesToMeet_4 : decode cX10_gatesToMeet 4 = .ok (.invokevirtual 305, 3) := by decide +kernel
theorem dX10_gatesToMeet_7 : decode cX10_gatesToMeet 7 = .ok (.aload_n 0, 1) := by decide +kernel
theorem dX10_gatesToMeet_8 : decode cX10_gatesToMeet 8 = .ok (.getfield 49, 3) := by decide +kernel
theorem dX10_gatesToMeet_11 : decode cX10_gatesToMeet 11 = .ok (.aload_n 2, 1) := by decide +kernel
theorem dX10_gatesToMeet_12 : decode cX10_gatesToMeet 12 = .ok (.invokevirtual 314, 3) := by decide +kernel
theorem dX10_gatesToMeet_15 : decode cX10_gatesToMeet 15 = .ok (.aload_n 0, 1) := by decide +kernel
theorem dX10_gatesToMeet_16 : decode cX10_gatesToMeet 16 = .ok (.getfield 49, 3) := by decide +kernel
theorem dX10_gatesToMeet_19 : decode cX10_gatesToMeet 19 = .ok (.invokevirtual 311, 3) := by decide +kernel
theorem dX10_gatesToMeet_22 : decode cX10_gatesToMeet 22 = .ok (.iconst 0, 1) := by decide +kernel
theorem dX10_gatesToMeet_23 : decode cX10_gatesToMeet 23 = .ok (.istore_n 3, 1) := by decide +kernel
theorem dX10_gatesToMeet_24 : decode cX10_gatesToMeet 24 = .ok (.iconst 0, 1) := by decide +kernel
theorem dX10_gatesToMeet_25 : decode cX10_gatesToMeet 25 = .ok (.istore 4, 2) := by decide +kernel
theorem dX10_gatesToMeet_27 : decode cX10_gatesToMeet 27 = .ok (.iload 4, 2) := by decide +kernel
theorem dX10_gatesToMeet_29 : decode cX10_gatesToMeet 29 = .ok (.aload_n 0, 1) := by decide +kernel
theorem dX10_gatesToMeet_30 : decode cX10_gatesToMeet 30 = .ok (.getfield 49, 3) := by decide +kernel
theorem dX10_gatesToMeet_33 : decode cX10_gatesToMeet 33 = .ok (.invokevirtual 388, 3) := by decide +kernel
theorem dX10_gatesToMeet_36 : decode cX10_gatesToMeet 36 = .ok (.if_icmp .ge 46, 3) := by decide +kernel
theorem dX10_gatesToMeet_39 : decode cX10_gatesToMeet 39 = .ok (.aload_n 0, 1) := by decide +kernel
theorem dX10_gatesToMeet_40 : decode cX10_gatesToMeet 40 = .ok (.getfield 49, 3) := by decide +kernel
theorem dX10_gatesToMeet_43 : decode cX10_gatesToMeet 43 = .ok (.iload 4, 2) := by decide +kernel
theorem dX10_gatesToMeet_45 : decode cX10_gatesToMeet 45 = .ok (.invokevirtual 389, 3) := by decide +kernel
theorem dX10_gatesToMeet_48 : decode cX10_gatesToMeet 48 = .ok (.astore 5, 2) := by decide +kernel
theorem dX10_gatesToMeet_50 : decode cX10_gatesToMeet 50 = .ok (.aload 5, 2) := by decide +kernel
theorem dX10_gatesToMeet_52 : decode cX10_gatesToMeet 52 = .ok (.ifnull 24, 3) := by decide +kernel
theorem dX10_gatesToMeet_55 : decode cX10_gatesToMeet 55 = .ok (.aload 5, 2) := by decide +kernel
theorem dX10_gatesToMeet_57 : decode cX10_gatesToMeet 57 = .ok (.getfield 173, 3) := by decide +kernel
theorem dX10_gatesToMeet_60 : decode cX10_gatesToMeet 60 = .ok (.iconst 3, 1) := by decide +kernel
theorem dX10_gatesToMeet_61 : decode cX10_gatesToMeet 61 = .ok (.if_icmp .ne 15, 3) := by decide +kernel
theorem dX10_gatesToMeet_64 : decode cX10_gatesToMeet 64 = .ok (.aload_n 1, 1) := by decide +kernel
theorem dX10_gatesToMeet_65 : decode cX10_gatesToMeet 65 = .ok (.aload 5, 2) := by decide +kernel
theorem dX10_gatesToMeet_67 : decode cX10_gatesToMeet 67 = .ok (.invokevirtual 391, 3) := by decide +kernel
theorem dX10_gatesToMeet_70 : decode cX10_gatesToMeet 70 = .ok (.ifCond .ne 6, 3) := by decide +kernel
theorem dX10_gatesToMeet_73 : decode cX10_gatesToMeet 73 = .ok (.iinc 3 1, 3) := by decide +kernel
theorem dX10_gatesToMeet_76 : decode cX10_gatesToMeet 76 = .ok (.iinc 4 1, 3) := by decide +kernel
theorem dX10_gatesToMeet_79 : decode cX10_gatesToMeet 79 = .ok (.goto (-52), 3) := by decide +kernel
theorem dX10_gatesToMeet_82 : decode cX10_gatesToMeet 82 = .ok (.iload_n 3, 1) := by decide +kernel
theorem dX10_gatesToMeet_83 : decode cX10_gatesToMeet 83 = .ok (.ireturn, 1) := by decide +kernel
def fX10_gatesToMeet_27 : Nat → Nat → Option Nat → Int32 → Int32 → Hz → Option (Int32 × Hz)
  | 0, _, _, _, _, _ => none
  | n + 1, o, v1, v3, v4, h => (b1 (gA 10 7 o h) fun a1 => (b1 (tg 3 a1 h) fun _ => (b2 (fX3_size a1 h) fun x3 s4 => (if x3 ≤ v4 then some (v3, s4) else (b1 (gA 10 7 o s4) fun a6 => (b1 (tg 3 a6 s4) fun _ => (b2 (fX3_at a6 v4 s4) fun r8 s9 => (oe r8 (fX10_gatesToMeet_27 n o v1 v3 (v4 + 1) s9) fun a10 => (b1 (gI 5 1 a10 s9) fun x11 => (if x11 = 3 then b1 v1 fun a13 => (b1 (tg 9 a13 s9) fun _ => (b2 (fX9_hasMet a13 (some a10) s9) fun x15 s16 => (if x15 = 0 then fX10_gatesToMeet_27 n o (some a13) (v3 + 1) (v4 + 1) s16 else fX10_gatesToMeet_27 n o (some a13) v3 (v4 + 1) s16))) else fX10_gatesToMeet_27 n o v1 v3 (v4 + 1) s9))))))))))
set_option maxHeartbeats 4000000 in
set_option maxRecDepth 100000 in
theorem wX10_gatesToMeet_27 {r0 : Int32} {h0 : Hz} (X : zX A D cy p s m args c cX10_gatesToMeet RX10 6) (hlk : meth.locks = false) (hr : meth.sig.returnType = (some .int)) : ∀ (n : Nat) (o : Nat) (v1 : Option Nat) (v3 : Int32) (v4 : Int32) (h : Hz) (H : Heap) (locs : List Loc) (ls : Array Slot) (hl : lv_has ls 6 [(0, .ref o), (1, va_rf v1), (3, .int v3), (4, .int v4)]) (hW : zW A cy D h H) (hS : va_S A s.heap H locs) (h : fX10_gatesToMeet_27 n o v1 v3 v4 h = some (r0, h0)), W p l e ({ frames := 4, cells := 0, slots := 0, locals := 87 } : Room) s m args below meth c H locs 0 0 (MQ below (va_Qi (fun r1 u => r1 = r0 ∧ u = h0) (zB A D cy) A) args s 0 0 A) (F0 m 27 ls []) := by
  obtain ⟨hx, hb, hts, hown, hK9, hml, hN9, hA9⟩ := id X
  intro n
  induction n with
  | zero =>
    intro o v1 v3 v4 h H locs ls hl hW hS h
    rw [fX10_gatesToMeet_27] at h
    cases h
  | succ n ih =>
    intro o v1 v3 v4 h H locs ls hl hW hS h
    rw [fX10_gatesToMeet_27] at h
    refine lv_iload hx hb dX10_gatesToMeet_27 (lv_at hl 3 rfl) ?_
    refine lv_aload_n hx hb dX10_gatesToMeet_29 rfl (lv_at hl 0 rfl) ?_
    replace h := b1_some h
    obtain ⟨a1, ga1, h⟩ := h
    refine z_getA X hW ga1 kX10 (by decide) (by decide) kf_X10_49 dX10_gatesToMeet_30 ?_
    replace h := b1_some h
    obtain ⟨q2, gq2, h⟩ := h
    replace h := b2_some h
    obtain ⟨x3, s4, gs4, h⟩ := h
    refine z_callVi (rest := [.int v4]) X hW hS (cX3_size_met gs4) kb_X3_size kv_X3_size kl_X10_388 (it_v gq2).1 kX3 rfl rfl ⟨Nat.le_of_ble_eq_true rfl, Nat.le_of_ble_eq_true rfl⟩ rfl rfl (Nat.le_of_ble_eq_true rfl) hl.1 dX10_gatesToMeet_33 ⟨(by decide), (by decide)⟩ (fun H locs hW hS => ?_)
    refine lv_icmp_ge (tgt := 82) hx hb dX10_gatesToMeet_36 (by decide) (fun c5 => ?_) (fun c5 => ?_)
    · replace h := it_t h c5
      refine lv_iload_n hx hb dX10_gatesToMeet_82 rfl (lv_at hl 2 rfl) ?_
      exact z_eti X hlk hr hW hS h (by decide) (by decide) dX10_gatesToMeet_83
    · replace h := it_f h c5
      refine lv_aload_n hx hb dX10_gatesToMeet_39 rfl (lv_at hl 0 rfl) ?_
      replace h := b1_some h
      obtain ⟨a6, ga6, h⟩ := h
      refine z_getA X hW ga6 kX10 (by decide) (by decide) kf_X10_49 dX10_gatesToMeet_40 ?_
      refine lv_iload hx hb dX10_gatesToMeet_43 (lv_at hl 3 rfl) ?_
      replace h := b1_some h
      obtain ⟨q7, gq7, h⟩ := h
      replace h := b2_some h
      obtain ⟨r8, s9, gs9, h⟩ := h
      refine z_callVq (rest := []) X hW hS (cX3_at_met gs9) kb_X3_at kv_X3_at kl_X10_389 (it_v gq7).1 kX3 rfl rfl ⟨Nat.le_of_ble_eq_true rfl, Nat.le_of_ble_eq_true rfl⟩ rfl rfl (by decide) hl.1 dX10_gatesToMeet_45 ⟨(by decide), (by decide)⟩ (fun H locs hW hS => ?_)
      refine z_astore (lv' := [(5, va_rf r8), (0, .ref o), (1, va_rf v1), (3, .int v3), (4, .int v4)]) hx hb dX10_gatesToMeet_48 hl (by decide) rfl (fun ls hl => ?_)
      refine z_aload hx hb dX10_gatesToMeet_50 (lv_at hl 0 rfl) ?_
      cases r8 with
      | none =>
        replace h := oe_n h
        have hl : lv_has ls 6 [(5, .null), (0, .ref o), (1, va_rf v1), (3, .int v3), (4, .int v4)] := hl
        refine lv_ifnullN (tgt := 76) hx hb dX10_gatesToMeet_52 (by decide) ?_
        refine lv_iinc (v := (v4 + 1)) (lv' := [(4, .int (v4 + 1)), (5, .null), (0, .ref o), (1, va_rf v1), (3, .int v3)]) hx hb dX10_gatesToMeet_76 hl (k := 4) rfl rfl (by decide) rfl (fun ls hl => ?_)
        refine lv_goto (tgt := 27) hx hb dX10_gatesToMeet_79 (by decide) ?_
        exact ih o v1 v3 (v4 + 1) _ _ _ _ (lv_sub hl [2, 3, 4, 0] rfl) hW hS h
      | some a10 =>
        replace h := oe_s h
        have hl : lv_has ls 6 [(5, .ref a10), (0, .ref o), (1, va_rf v1), (3, .int v3), (4, .int v4)] := hl
        refine lv_ifnull hx hb dX10_gatesToMeet_52 ?_
        refine lv_aload hx hb dX10_gatesToMeet_55 (lv_at hl 0 rfl) ?_
        replace h := b1_some h
        obtain ⟨x11, gx11, h⟩ := h
        refine z_getI X hW gx11 kX5 (by decide) (by decide) kf_X10_173 dX10_gatesToMeet_57 ?_
        refine lv_iconst (v := 3) hx hb dX10_gatesToMeet_60 (by decide) ?_
        refine lv_icmp_ne (tgt := 76) hx hb dX10_gatesToMeet_61 (by decide) (fun c12 => ?_) (fun c12 => ?_)
        · replace h := it_f h c12
          refine lv_iinc (v := (v4 + 1)) (lv' := [(4, .int (v4 + 1)), (5, .ref a10), (0, .ref o), (1, va_rf v1), (3, .int v3)]) hx hb dX10_gatesToMeet_76 hl (k := 4) rfl rfl (by decide) rfl (fun ls hl => ?_)
          refine lv_goto (tgt := 27) hx hb dX10_gatesToMeet_79 (by decide) ?_
          exact ih o v1 v3 (v4 + 1) _ _ _ _ (lv_sub hl [2, 3, 4, 0] rfl) hW hS h
        · replace h := it_t h c12
          refine z_aload_n hx hb dX10_gatesToMeet_64 rfl (lv_at hl 2 rfl) ?_
          refine lv_aload hx hb dX10_gatesToMeet_65 (lv_at hl 0 rfl) ?_
          replace h := b1_some h
          obtain ⟨a13, ea13, h⟩ := h
          subst ea13
          replace h := b1_some h
          obtain ⟨q14, gq14, h⟩ := h
          replace h := b2_some h
          obtain ⟨x15, s16, gs16, h⟩ := h
          refine z_callVi (rest := []) X hW hS (cX9_hasMet_met gs16) kb_X9_hasMet kv_X9_hasMet kl_X10_391 (it_v gq14).1 kX9 rfl rfl ⟨Nat.le_of_ble_eq_true rfl, Nat.le_of_ble_eq_true rfl⟩ rfl rfl (by decide) hl.1 dX10_gatesToMeet_67 ⟨(by decide), (by decide)⟩ (fun H locs hW hS => ?_)
          refine lv_if_ne (tgt := 76) hx hb dX10_gatesToMeet_70 (by decide) (fun c17 => ?_) (fun c17 => ?_)
          · replace h := it_f h c17
            refine lv_iinc (v := (v4 + 1)) (lv' := [(4, .int (v4 + 1)), (5, .ref a10), (0, .ref o), (1, .ref a13), (3, .int v3)]) hx hb dX10_gatesToMeet_76 hl (k := 4) rfl rfl (by decide) rfl (fun ls hl => ?_)
            refine lv_goto (tgt := 27) hx hb dX10_gatesToMeet_79 (by decide) ?_
            exact ih o (some a13) v3 (v4 + 1) _ _ _ _ (lv_sub hl [2, 3, 4, 0] rfl) hW hS h
          · replace h := it_t h c17
            refine lv_iinc (v := (v3 + 1)) (lv' := [(3, .int (v3 + 1)), (5, .ref a10), (0, .ref o), (1, .ref a13), (4, .int v4)]) hx hb dX10_gatesToMeet_73 hl (k := 3) rfl rfl (by decide) rfl (fun ls hl => ?_)
            refine lv_iinc (v := (v4 + 1)) (lv' := [(4, .int (v4 + 1)), (3, .int (v3 + 1)), (5, .ref a10), (0, .ref o), (1, .ref a13)]) hx hb dX10_gatesToMeet_76 hl (k := 4) rfl rfl (by decide) rfl (fun ls hl => ?_)
            refine lv_goto (tgt := 27) hx hb dX10_gatesToMeet_79 (by decide) ?_
            exact ih o (some a13) (v3 + 1) (v4 + 1) _ _ _ _ (lv_sub hl [3, 4, 1, 0] rfl) hW hS h

def fX10_gatesToMeet (o : Nat) (v1 : Option Nat) (v2 : Option Nat) (h : Hz) : Option (Int32 × Hz) := (b1 (gA 10 7 o h) fun a1 => (b1 (tg 3 a1 h) fun _ => (b2 (fX3_restart a1 h) fun _ s4 => (b1 (gA 10 7 o s4) fun a5 => (b1 (tg 3 a5 s4) fun _ => (b2 (fX3_add a5 v2 s4) fun _ s8 => (b1 (gA 10 7 o s8) fun a9 => (b1 (tg 3 a9 s8) fun _ => (b2 (fX3_spread a9 s8) fun _ s12 => fX10_gatesToMeet_27 100000 o v1 0 0 s12)))))))))
set_option maxHeartbeats 4000000 in
set_option maxRecDepth 100000 in
theorem wX10_gatesToMeet_0 {r0 : Int32} {h0 : Hz} (X : zX A D cy p s m args c cX10_gatesToMeet RX10 6) (hlk : meth.locks = false) (hr : meth.sig.returnType = (some .int)) (o : Nat) (v1 : Option Nat) (v2 : Option Nat) (h : Hz) (H : Heap) (locs : List Loc) (ls : Array Slot) (hl : lv_has ls 6 [(0, .ref o), (1, va_rf v1), (2, va_rf v2)]) (hW : zW A cy D h H) (hS : va_S A s.heap H locs) (h : fX10_gatesToMeet o v1 v2 h = some (r0, h0)) : W p l e ({ frames := 4, cells := 0, slots := 0, locals := 87 } : Room) s m args below meth c H locs 0 0 (MQ below (va_Qi (fun r1 u => r1 = r0 ∧ u = h0) (zB A D cy) A) args s 0 0 A) (F0 m 0 ls []) := by
  obtain ⟨hx, hb, hts, hown, hK9, hml, hN9, hA9⟩ := id X
  unfold fX10_gatesToMeet at h
  refine lv_aload_n hx hb dX10_gatesToMeet_0 rfl (lv_at hl 0 rfl) ?_
  replace h := b1_some h
  obtain ⟨a1, ga1, h⟩ := h
  refine z_getA X hW ga1 kX10 (by decide) (by decide) kf_X10_49 dX10_gatesToMeet_1 ?_
  replace h := b1_some h
  obtain ⟨q2, gq2, h⟩ := h
  replace h := b2_some h
  obtain ⟨_ur3, s4, gs4, h⟩ := h
  refine z_callVv (rest := []) X hW hS (cX3_restart_met gs4) kb_X3_restart kv_X3_restart kl_X10_305 (it_v gq2).1 kX3 rfl rfl ⟨Nat.le_of_ble_eq_true rfl, Nat.le_of_ble_eq_true rfl⟩ rfl rfl (by decide) hl.1 dX10_gatesToMeet_4 ⟨(by decide), (by decide)⟩ (fun H locs hW hS => ?_)
  refine lv_aload_n hx hb dX10_gatesToMeet_7 rfl (lv_at hl 0 rfl) ?_
  replace h := b1_some h
  obtain ⟨a5, ga5, h⟩ := h
  refine z_getA X hW ga5 kX10 (by decide) (by decide) kf_X10_49 dX10_gatesToMeet_8 ?_
  refine z_aload_n hx hb dX10_gatesToMeet_11 rfl (lv_at hl 2 rfl) ?_
  replace h := b1_some h
  obtain ⟨q6, gq6, h⟩ := h
  replace h := b2_some h
  obtain ⟨_ur7, s8, gs8, h⟩ := h
  refine z_callVv (rest := []) X hW hS (cX3_add_met gs8) kb_X3_add kv_X3_add kl_X10_314 (it_v gq6).1 kX3 rfl rfl ⟨Nat.le_of_ble_eq_true rfl, Nat.le_of_ble_eq_true rfl⟩ rfl rfl (by decide) hl.1 dX10_gatesToMeet_12 ⟨(by decide), (by decide)⟩ (fun H locs hW hS => ?_)
  refine lv_aload_n hx hb dX10_gatesToMeet_15 rfl (lv_at hl 0 rfl) ?_
  replace h := b1_some h
  obtain ⟨a9, ga9, h⟩ := h
  refine z_getA X hW ga9 kX10 (by decide) (by decide) kf_X10_49 dX10_gatesToMeet_16 ?_
  replace h := b1_some h
  obtain ⟨q10, gq10, h⟩ := h
  replace h := b2_some h
  obtain ⟨_ur11, s12, gs12, h⟩ := h
  refine z_callVv (rest := []) X hW hS (cX3_spread_met gs12) kb_X3_spread kv_X3_spread kl_X10_311 (it_v gq10).1 kX3 rfl rfl ⟨Nat.le_of_ble_eq_true rfl, Nat.le_of_ble_eq_true rfl⟩ rfl rfl (by decide) hl.1 dX10_gatesToMeet_19 ⟨(by decide), (by decide)⟩ (fun H locs hW hS => ?_)
  refine lv_iconst (v := 0) hx hb dX10_gatesToMeet_22 (by decide) ?_
  refine lv_istore_n (lv' := [(3, .int 0), (0, .ref o), (1, va_rf v1), (2, va_rf v2)]) hx hb dX10_gatesToMeet_23 rfl hl (by decide) (by cases v2 <;> rfl) (fun ls hl => ?_)
  refine lv_iconst (v := 0) hx hb dX10_gatesToMeet_24 (by decide) ?_
  refine lv_istore (lv' := [(4, .int 0), (3, .int 0), (0, .ref o), (1, va_rf v1), (2, va_rf v2)]) hx hb dX10_gatesToMeet_25 hl (by decide) rfl (fun ls hl => ?_)
  exact wX10_gatesToMeet_27 X hlk hr _ o v1 0 0 _ _ _ _ (lv_sub hl [2, 3, 1, 0] rfl) hW hS h

set_option maxHeartbeats 4000000 in
set_option maxRecDepth 100000 in
theorem cX10_gatesToMeet_met {l : Launch} {A : Nat → Prop} {D : va_G} {cy : Nat → ClassId} {r0 : Int32} {h0 : Hz} {o : Nat} {v1 : Option Nat} {v2 : Option Nat} {h : Hz} (g : fX10_gatesToMeet o v1 v2 h = some (r0, h0)) : Met l yX10_gatesToMeet (Cond.code yX10_gatesToMeet cX10_gatesToMeet 6 (some .int) :: wT) ({ frames := 4, cells := 0, slots := 0, locals := 87 } : Room) (va_Pc [.ref o, va_rf v1, va_rf v2] (zS A D cy h)) (va_Qi (fun r1 u => r1 = r0 ∧ u = h0) (zB A D cy) A) 0 0 A := by
  refine Met.ofW (cc := cX10_gatesToMeet) (maxL := 6) (ret := (some .int)) (by decide) rfl ?_
  intro p e s m args below meth c s₁ B hml hv
  obtain ⟨rfl, hW, hK, hN, hA⟩ := hv
  have X : zX A D cy p s m _ c cX10_gatesToMeet RX10 6 := ⟨B.exec, B.bytes, fun w hw => atoms_spec (ws := Cond.code yX10_gatesToMeet cX10_gatesToMeet 6 (some .int) :: wT) B.pre w (List.mem_cons_of_mem _ hw), findClass_of_methodNamed B.named, hK, hml, hN, hA⟩
  cases v1 with
  | none =>
    cases v2 with
    | none =>
      have hl := lv_entry [.ref o, va_rf none, va_rf none] (n := 6) (Nat.le_of_ble_eq_true rfl)
      rw [lg_entry_eq]
      generalize (lg_sl [.ref o, va_rf none, va_rf none] ++ List.replicate (6 - (lg_sl [.ref o, va_rf none, va_rf none]).length) Slot.unset).toArray = ls at hl ⊢
      have hl : lv_has ls 6 [(0, .ref o), (1, va_rf none), (2, va_rf none)] := hl
      exact wX10_gatesToMeet_0 X B.notSynchronized B.returns o none none _ _ _ _ (lv_sub hl [0, 1, 2] rfl) hW va_S.rf g
    | some v2 =>
      have hl := lv_entry [.ref o, va_rf none, va_rf (some v2)] (n := 6) (Nat.le_of_ble_eq_true rfl)
      rw [lg_entry_eq]
      generalize (lg_sl [.ref o, va_rf none, va_rf (some v2)] ++ List.replicate (6 - (lg_sl [.ref o, va_rf none, va_rf (some v2)]).length) Slot.unset).toArray = ls at hl ⊢
      have hl : lv_has ls 6 [(0, .ref o), (1, va_rf none), (2, va_rf (some v2))] := hl
      exact wX10_gatesToMeet_0 X B.notSynchronized B.returns o none (some v2) _ _ _ _ (lv_sub hl [0, 1, 2] rfl) hW va_S.rf g
  | some v1 =>
    cases v2 with
    | none =>
      have hl := lv_entry [.ref o, va_rf (some v1), va_rf none] (n := 6) (Nat.le_of_ble_eq_true rfl)
      rw [lg_entry_eq]
      generalize (lg_sl [.ref o, va_rf (some v1), va_rf none] ++ List.replicate (6 - (lg_sl [.ref o, va_rf (some v1), va_rf none]).length) Slot.unset).toArray = ls at hl ⊢
      have hl : lv_has ls 6 [(0, .ref o), (1, va_rf (some v1)), (2, va_rf none)] := hl
      exact wX10_gatesToMeet_0 X B.notSynchronized B.returns o (some v1) none _ _ _ _ (lv_sub hl [0, 1, 2] rfl) hW va_S.rf g
    | some v2 =>
      have hl := lv_entry [.ref o, va_rf (some v1), va_rf (some v2)] (n := 6) (Nat.le_of_ble_eq_true rfl)
      rw [lg_entry_eq]
      generalize (lg_sl [.ref o, va_rf (some v1), va_rf (some v2)] ++ List.replicate (6 - (lg_sl [.ref o, va_rf (some v1), va_rf (some v2)]).length) Slot.unset).toArray = ls at hl ⊢
      have hl : lv_has ls 6 [(0, .ref o), (1, va_rf (some v1)), (2, va_rf (some v2))] := hl
      exact wX10_gatesToMeet_0 X B.notSynchronized B.returns o (some v1) (some v2) _ _ _ _ (lv_sub hl [0, 1, 2] rfl) hW va_S.rf g

theorem dX10_meetGates_0 : decode cX10_meetGates 0 = .ok (.iconst 0, 1) := by decide +kernel
theorem dX10_meetGates_1 : decode cX10_meetGates 1 = .ok (.istore_n 3, 1) := by decide +kernel
theorem dX10_meetGates_2 : decode cX10_meetGates 2 = .ok (.iload_n 3, 1) := by decide +kernel
theorem dX10_meetGates_3 : decode cX10_meetGates 3 = .ok (.aload_n 0, 1) := by decide +kernel
theorem dX10_meetGates_4 : decode cX10_meetGates 4 = .ok (.getfield 10, 3) := by decide +kernel
theorem dX10_meetGates_7 : decode cX10_meetGates 7 = .ok (.invokevirtual 241, 3) := by decide +kernel
theorem dX10_meetGates_10 : decode cX10_meetGates 10 = .ok (.if_icmp .ge 90, 3) := by decide +kernel
theorem dX10_meetGates_13 : decode cX10_meetGates 13 = .ok (.aload_n 0, 1) := by decide +kernel
theorem dX10_meetGates_14 : decode cX10_meetGates 14 = .ok (.getfield 10, 3) := by decide +kernel
theorem dX10_meetGates_17 : decode cX10_meetGates 17 = .ok (.iload_n 3, 1) := by decide +kernel
theorem dX10_meetGates_18 : decode cX10_meetGates 18 = .ok (.invokevirtual 94, 3) := by decide +kernel
theorem dX10_meetGates_21 : decode cX10_meetGates 21 = .ok (.astore 4, 2) := by decide +kernel
theorem dX10_meetGates_23 : decode cX10_meetGates 23 = .ok (.aload 4, 2) := by decide +kernel
theorem dX10_meetGates_25 : decode cX10_meetGates 25 = .ok (.ifnull 69, 3) := by decide +kernel
theorem dX10_meetGates_28 : decode cX10_meetGates 28 = .ok (.aload 4, 2) := by decide +kernel
theorem dX10_meetGates_30 : decode cX10_meetGates 30 = .ok (.getfield 180, 3) := by decide +kernel
theorem dX10_meetGates_33 : decode cX10_meetGates 33 = .ok (.ifnonnull 6, 3) := by decide +kernel
theorem dX10_meetGates_36 : decode cX10_meetGates 36 = .ok (.goto 58, 3) := by decide +kernel
theorem dX10_meetGates_39 : decode cX10_meetGates 39 = .ok (.aload_n 0, 1) := by decide +kernel
theorem dX10_meetGates_40 : decode cX10_meetGates 40 = .ok (.getfield 49, 3) := by decide +kernel
theorem dX10_meetGates_43 : decode cX10_meetGates 43 = .ok (.aload 4, 2) := by decide +kernel
theorem dX10_meetGates_45 : decode cX10_meetGates 45 = .ok (.invokevirtual 244, 3) := by decide +kernel
theorem dX10_meetGates_48 : decode cX10_meetGates 48 = .ok (.ifCond .eq 46, 3) := by decide +kernel
theorem dX10_meetGates_51 : decode cX10_meetGates 51 = .ok (.aload_n 1, 1) := by decide +kernel
theorem dX10_meetGates_52 : decode cX10_meetGates 52 = .ok (.aload 4, 2) := by decide +kernel
theorem dX10_meetGates_54 : decode cX10_meetGates 54 = .ok (.invokevirtual 391, 3) := by decide +kernel
theorem dX10_meetGates_57 : decode cX10_meetGates 57 = .ok (.ifCond .eq 6, 3) := by decide +kernel
theorem dX10_meetGates_60 : decode cX10_meetGates 60 = .ok (.goto 34, 3) := by decide +kernel
theorem dX10_meetGates_63 : decode cX10_meetGates 63 = .ok (.aload_n 1, 1) := by decide +kernel
theorem dX10_meetGates_64 : decode cX10_meetGates 64 = .ok (.aload 4, 2) := by decide +kernel
theorem dX10_meetGates_66 : decode cX10_meetGates 66 = .ok (.aload 4, 2) := by decide +kernel
theorem dX10_meetGates_68 : decode cX10_meetGates 68 = .ok (.getfield 180, 3) := by decide +kernel
theorem dX10_meetGates_71 : decode cX10_meetGates 71 = .ok (.invokevirtual 394, 3) := by decide +kernel
theorem dX10_meetGates_74 : decode cX10_meetGates 74 = .ok (.aload_n 0, 1) := by decide +kernel
theorem dX10_meetGates_75 : decode cX10_meetGates 75 = .ok (.getfield 19, 3) := by decide +kernel
theorem dX10_meetGates_78 : decode cX10_meetGates 78 = .ok (.iconst 4, 1) := by decide +kernel
theorem dX10_meetGates_79 : decode cX10_meetGates 79 = .ok (.aload_n 1, 1) := by decide +kernel
theorem dX10_meetGates_80 : decode cX10_meetGates 80 = .ok (.aload_n 2, 1) := by decide +kernel
theorem dX10_meetGates_81 : decode cX10_meetGates 81 = .ok (.getfield 109, 3) := by decide +kernel
theorem dX10_meetGates_84 : decode cX10_meetGates 84 = .ok (.aload 4, 2) := by decide +kernel
theorem dX10_meetGates_86 : decode cX10_meetGates 86 = .ok (.getfield 180, 3) := by decide +kernel
theorem dX10_meetGates_89 : decode cX10_meetGates 89 = .ok (.iconst 0, 1) := by decide +kernel
theorem dX10_meetGates_90 : decode cX10_meetGates 90 = .ok (.invokevirtual 256, 3) := by decide +kernel
theorem dX10_meetGates_93 : decode cX10_meetGates 93 = .ok (.pop, 1) := by decide +kernel
theorem dX10_meetGates_94 : decode cX10_meetGates 94 = .ok (.iinc 3 1, 3) := by decide +kernel
theorem dX10_meetGates_97 : decode cX10_meetGates 97 = .ok (.goto (-95), 3) := by decide +kernel
theorem dX10_meetGates_100 : decode cX10_meetGates 100 = .ok (.return_, 1) := by decide +kernel
def fX10_meetGates_2 : Nat → Nat → Option Nat → Option Nat → Int32 → Hz → Option (Unit × Hz)
  | 0, _, _, _, _, _ => none
  | n + 1, o, v1, v2, v3, h => (b1 (gA 10 0 o h) fun a1 => (b1 (tg 6 a1 h) fun _ => (b2 (fX6_size a1 h) fun x3 s4 => (if x3 ≤ v3 then some ((), s4) else (b1 (gA 10 0 o s4) fun a6 => (b1 (tg 6 a6 s4) fun _ => (b2 (fX6_find a6 v3 s4) fun r8 s9 => (oe r8 (fX10_meetGates_2 n o v1 v2 (v3 + 1) s9) fun a10 => (b1 (gP 5 6 a10 s9) fun r11 => (oe r11 (fX10_meetGates_2 n o v1 v2 (v3 + 1) s9) fun a12 => (b1 (gA 10 7 o s9) fun a13 => (b1 (tg 3 a13 s9) fun _ => (b2 (fX3_has a13 (some a10) s9) fun x15 s16 => (if x15 = 0 then fX10_meetGates_2 n o v1 v2 (v3 + 1) s16 else b1 v1 fun a18 => (b1 (tg 9 a18 s16) fun _ => (b2 (fX9_hasMet a18 (some a10) s16) fun x20 s21 => (if x20 = 0 then (b1 (gP 5 6 a10 s21) fun r23 => (b1 (tg 9 a18 s21) fun _ => (b2 (fX9_meet a18 (some a10) r23 s21) fun _ s26 => (b1 (gA 10 1 o s26) fun a27 => b1 v2 fun a28 => (b1 (gI 5 2 a28 s26) fun x29 => (b1 (gP 5 6 a10 s26) fun r30 => (b1 (tg 2 a27 s26) fun _ => (b2 (fX2_fileOfWalk a27 4 (some a18) x29 r30 0 s26) fun x32 s33 => fX10_meetGates_2 n o (some a18) (some a28) (v3 + 1) s33)))))))) else fX10_meetGates_2 n o (some a18) v2 (v3 + 1) s21)))))))))))))))))
set_option maxHeartbeats 4000000 in
set_option maxRecDepth 100000 in
theorem wX10_meetGates_2 {r0 : Unit} {h0 : Hz} (X : zX A D cy p s m args c cX10_meetGates RX10 5) (hlk : meth.locks = false) (hr : meth.sig.returnType = none) : ∀ (n : Nat) (o : Nat) (v1 : Option Nat) (v2 : Option Nat) (v3 : Int32) (h : Hz) (H : Heap) (locs : List Loc) (ls : Array Slot) (cells slots : Nat) (hc9 : cells + n * 1 ≤ 700) (hs9 : slots + n * 10 ≤ 7000) (hl : lv_has ls 5 [(0, .ref o), (1, va_rf v1), (2, va_rf v2), (3, .int v3)]) (hW : zW A cy D h H) (hS : va_S A s.heap H locs) (h : fX10_meetGates_2 n o v1 v2 v3 h = some (r0, h0)), W p l e ({ frames := 3, cells := 700, slots := 7000, locals := 63 } : Room) s m args below meth c H locs cells slots (MQ below (va_Qv (fun u => u = h0) (zB A D cy) A) args s 700 7000 A) (F0 m 2 ls []) := by
  obtain ⟨hx, hb, hts, hown, hK9, hml, hN9, hA9⟩ := id X
  intro n
  induction n with
  | zero =>
    intro o v1 v2 v3 h H locs ls cells slots hc9 hs9 hl hW hS h
    rw [fX10_meetGates_2] at h
    cases h
  | succ n ih =>
    intro o v1 v2 v3 h H locs ls cells slots hc9 hs9 hl hW hS h
    rw [fX10_meetGates_2] at h
    refine lv_iload_n hx hb dX10_meetGates_2 rfl (lv_at hl 3 rfl) ?_
    refine lv_aload_n hx hb dX10_meetGates_3 rfl (lv_at hl 0 rfl) ?_
    replace h := b1_some h
    obtain ⟨a1, ga1, h⟩ := h
    refine z_getA X hW ga1 kX10 (by decide) (by decide) kf_X10_10 dX10_meetGates_4 ?_
    replace h := b1_some h
    obtain ⟨q2, gq2, h⟩ := h
    replace h := b2_some h
    obtain ⟨x3, s4, gs4, h⟩ := h
    refine z_callVi (rest := [.int v3]) X hW hS (cX6_size_met gs4) kb_X6_size kv_X6_size kl_X10_241 (it_v gq2).1 kX6 rfl rfl ⟨Nat.le_of_ble_eq_true rfl, Nat.le_of_ble_eq_true rfl⟩ rfl rfl (Nat.le_of_ble_eq_true rfl) hl.1 dX10_meetGates_7 ⟨(by show _ ≤ 700; omega), (by show _ ≤ 7000; omega)⟩ (fun H locs hW hS => ?_)
    refine lv_icmp_ge (tgt := 100) hx hb dX10_meetGates_10 (by decide) (fun c5 => ?_) (fun c5 => ?_)
    · replace h := it_t h c5
      exact z_etv X hlk hr hW hS h (by show _ ≤ 700; omega) (by show _ ≤ 7000; omega) dX10_meetGates_100
    · replace h := it_f h c5
      refine lv_aload_n hx hb dX10_meetGates_13 rfl (lv_at hl 0 rfl) ?_
      replace h := b1_some h
      obtain ⟨a6, ga6, h⟩ := h
      refine z_getA X hW ga6 kX10 (by decide) (by decide) kf_X10_10 dX10_meetGates_14 ?_
      refine lv_iload_n hx hb dX10_meetGates_17 rfl (lv_at hl 3 rfl) ?_
      replace h := b1_some h
      obtain ⟨q7, gq7, h⟩ := h
      replace h := b2_some h
      obtain ⟨r8, s9, gs9, h⟩ := h
      refine z_callVq (rest := []) X hW hS (cX6_find_met gs9) kb_X6_find kv_X6_find kl_X10_94 (it_v gq7).1 kX6 rfl rfl ⟨Nat.le_of_ble_eq_true rfl, Nat.le_of_ble_eq_true rfl⟩ rfl rfl (by decide) hl.1 dX10_meetGates_18 ⟨(by show _ ≤ 700; omega), (by show _ ≤ 7000; omega)⟩ (fun H locs hW hS => ?_)
      refine z_astore (lv' := [(4, va_rf r8), (0, .ref o), (1, va_rf v1), (2, va_rf v2), (3, .int v3)]) hx hb dX10_meetGates_21 hl (by decide) rfl (fun ls hl => ?_)
      refine z_aload hx hb dX10_meetGates_23 (lv_at hl 0 rfl) ?_
      cases r8 with
      | none =>
        replace h := oe_n h
        have hl : lv_has ls 5 [(4, .null), (0, .ref o), (1, va_rf v1), (2, va_rf v2), (3, .int v3)] := hl
        refine lv_ifnullN (tgt := 94) hx hb dX10_meetGates_25 (by decide) ?_
        refine lv_iinc (v := (v3 + 1)) (lv' := [(3, .int (v3 + 1)), (4, .null), (0, .ref o), (1, va_rf v1), (2, va_rf v2)]) hx hb dX10_meetGates_94 hl (k := 4) rfl rfl (by decide) (by cases v2 <;> rfl) (fun ls hl => ?_)
        refine lv_goto (tgt := 2) hx hb dX10_meetGates_97 (by decide) ?_
        exact ih o v1 v2 (v3 + 1) _ _ _ _ _ _ (by omega) (by omega) (lv_sub hl [2, 3, 4, 0] rfl) hW hS h
      | some a10 =>
        replace h := oe_s h
        have hl : lv_has ls 5 [(4, .ref a10), (0, .ref o), (1, va_rf v1), (2, va_rf v2), (3, .int v3)] := hl
        refine lv_ifnull hx hb dX10_meetGates_25 ?_
        refine lv_aload hx hb dX10_meetGates_28 (lv_at hl 0 rfl) ?_
        replace h := b1_some h
        obtain ⟨r11, gr11, h⟩ := h
        refine z_getP X hW gr11 kX5 (by decide) (by decide) kf_X10_180 dX10_meetGates_30 ?_
        cases r11 with
        | none =>
          replace h := oe_n h
          have hl : lv_has ls 5 [(4, .ref a10), (0, .ref o), (1, va_rf v1), (2, va_rf v2), (3, .int v3)] := hl
          refine lv_ifnonnullN hx hb dX10_meetGates_33 ?_
          refine lv_goto (tgt := 94) hx hb dX10_meetGates_36 (by decide) ?_
          refine lv_iinc (v := (v3 + 1)) (lv' := [(3, .int (v3 + 1)), (4, .ref a10), (0, .ref o), (1, va_rf v1), (2, va_rf v2)]) hx hb dX10_meetGates_94 hl (k := 4) rfl rfl (by decide) (by cases v2 <;> rfl) (fun ls hl => ?_)
          refine lv_goto (tgt := 2) hx hb dX10_meetGates_97 (by decide) ?_
          exact ih o v1 v2 (v3 + 1) _ _ _ _ _ _ (by omega) (by omega) (lv_sub hl [2, 3, 4, 0] rfl) hW hS h
        | some a12 =>
          replace h := oe_s h
          have hl : lv_has ls 5 [(4, .ref a10), (0, .ref o), (1, va_rf v1), (2, va_rf v2), (3, .int v3)] := hl
          refine lv_ifnonnull (tgt := 39) hx hb dX10_meetGates_33 (by decide) ?_
          refine lv_aload_n hx hb dX10_meetGates_39 rfl (lv_at hl 1 rfl) ?_
          replace h := b1_some h
          obtain ⟨a13, ga13, h⟩ := h
          refine z_getA X hW ga13 kX10 (by decide) (by decide) kf_X10_49 dX10_meetGates_40 ?_
          refine lv_aload hx hb dX10_meetGates_43 (lv_at hl 0 rfl) ?_
          replace h := b1_some h
          obtain ⟨q14, gq14, h⟩ := h
          replace h := b2_some h
          obtain ⟨x15, s16, gs16, h⟩ := h
          refine z_callVi (rest := []) X hW hS (cX3_has_met gs16) kb_X3_has kv_X3_has kl_X10_244 (it_v gq14).1 kX3 rfl rfl ⟨Nat.le_of_ble_eq_true rfl, Nat.le_of_ble_eq_true rfl⟩ rfl rfl (by decide) hl.1 dX10_meetGates_45 ⟨(by show _ ≤ 700; omega), (by show _ ≤ 7000; omega)⟩ (fun H locs hW hS => ?_)
          refine lv_if_eq (tgt := 94) hx hb dX10_meetGates_48 (by decide) (fun c17 => ?_) (fun c17 => ?_)
          · replace h := it_t h c17
            refine lv_iinc (v := (v3 + 1)) (lv' := [(3, .int (v3 + 1)), (4, .ref a10), (0, .ref o), (1, va_rf v1), (2, va_rf v2)]) hx hb dX10_meetGates_94 hl (k := 4) rfl rfl (by decide) (by cases v2 <;> rfl) (fun ls hl => ?_)
            refine lv_goto (tgt := 2) hx hb dX10_meetGates_97 (by decide) ?_
            exact ih o v1 v2 (v3 + 1) _ _ _ _ _ _ (by omega) (by omega) (lv_sub hl [2, 3, 4, 0] rfl) hW hS h
          · replace h := it_f h c17
            refine z_aload_n hx hb dX10_meetGates_51 rfl (lv_at hl 2 rfl) ?_
            refine lv_aload hx hb dX10_meetGates_52 (lv_at hl 0 rfl) ?_
            replace h := b1_some h
            obtain ⟨a18, ea18, h⟩ := h
            subst ea18
            replace h := b1_some h
            obtain ⟨q19, gq19, h⟩ := h
            replace h := b2_some h
            obtain ⟨x20, s21, gs21, h⟩ := h
            refine z_callVi (rest := []) X hW hS (cX9_hasMet_met gs21) kb_X9_hasMet kv_X9_hasMet kl_X10_391 (it_v gq19).1 kX9 rfl rfl ⟨Nat.le_of_ble_eq_true rfl, Nat.le_of_ble_eq_true rfl⟩ rfl rfl (by decide) hl.1 dX10_meetGates_54 ⟨(by show _ ≤ 700; omega), (by show _ ≤ 7000; omega)⟩ (fun H locs hW hS => ?_)
            refine lv_if_eq (tgt := 63) hx hb dX10_meetGates_57 (by decide) (fun c22 => ?_) (fun c22 => ?_)
            · replace h := it_t h c22
              refine lv_aload_n hx hb dX10_meetGates_63 rfl (lv_at hl 2 rfl) ?_
              refine lv_aload hx hb dX10_meetGates_64 (lv_at hl 0 rfl) ?_
              refine lv_aload hx hb dX10_meetGates_66 (lv_at hl 0 rfl) ?_
              replace h := b1_some h
              obtain ⟨r23, gr23, h⟩ := h
              refine z_getP X hW gr23 kX5 (by decide) (by decide) kf_X10_180 dX10_meetGates_68 ?_
              replace h := b1_some h
              obtain ⟨q24, gq24, h⟩ := h
              replace h := b2_some h
              obtain ⟨_ur25, s26, gs26, h⟩ := h
              refine z_callVv (rest := []) X hW hS (cX9_meet_met gs26) kb_X9_meet kv_X9_meet kl_X10_394 (it_v gq24).1 kX9 rfl rfl ⟨Nat.le_of_ble_eq_true rfl, Nat.le_of_ble_eq_true rfl⟩ rfl rfl (by decide) hl.1 dX10_meetGates_71 ⟨(by show _ ≤ 700; omega), (by show _ ≤ 7000; omega)⟩ (fun H locs hW hS => ?_)
              refine lv_aload_n hx hb dX10_meetGates_74 rfl (lv_at hl 1 rfl) ?_
              replace h := b1_some h
              obtain ⟨a27, ga27, h⟩ := h
              refine z_getA X hW ga27 kX10 (by decide) (by decide) kf_X10_19 dX10_meetGates_75 ?_
              refine lv_iconst (v := 4) hx hb dX10_meetGates_78 (by decide) ?_
              refine lv_aload_n hx hb dX10_meetGates_79 rfl (lv_at hl 2 rfl) ?_
              refine z_aload_n hx hb dX10_meetGates_80 rfl (lv_at hl 3 rfl) ?_
              replace h := b1_some h
              obtain ⟨a28, ea28, h⟩ := h
              subst ea28
              replace h := b1_some h
              obtain ⟨x29, gx29, h⟩ := h
              refine z_getI X hW gx29 kX5 (by decide) (by decide) kf_X10_109 dX10_meetGates_81 ?_
              refine lv_aload hx hb dX10_meetGates_84 (lv_at hl 0 rfl) ?_
              replace h := b1_some h
              obtain ⟨r30, gr30, h⟩ := h
              refine z_getP X hW gr30 kX5 (by decide) (by decide) kf_X10_180 dX10_meetGates_86 ?_
              refine lv_iconst (v := 0) hx hb dX10_meetGates_89 (by decide) ?_
              replace h := b1_some h
              obtain ⟨q31, gq31, h⟩ := h
              replace h := b2_some h
              obtain ⟨x32, s33, gs33, h⟩ := h
              refine z_callVi (rest := []) X hW hS (cX2_fileOfWalk_met gs33) kb_X2_fileOfWalk kv_X2_fileOfWalk kl_X10_256 (it_v gq31).1 kX2 rfl rfl ⟨Nat.le_of_ble_eq_true rfl, Nat.le_of_ble_eq_true rfl⟩ rfl rfl (by decide) hl.1 dX10_meetGates_90 ⟨(by show _ ≤ 700; omega), (by show _ ≤ 7000; omega)⟩ (fun H locs hW hS => ?_)
              refine lv_pop hx hb dX10_meetGates_93 rfl ?_
              refine lv_iinc (v := (v3 + 1)) (lv' := [(3, .int (v3 + 1)), (4, .ref a10), (0, .ref o), (1, .ref a18), (2, .ref a28)]) hx hb dX10_meetGates_94 hl (k := 4) rfl rfl (by decide) rfl (fun ls hl => ?_)
              refine lv_goto (tgt := 2) hx hb dX10_meetGates_97 (by decide) ?_
              exact ih o (some a18) (some a28) (v3 + 1) _ _ _ _ _ _ (by omega) (by omega) (lv_sub hl [2, 3, 4, 0] rfl) hW hS h
            · replace h := it_f h c22
              refine lv_goto (tgt := 94) hx hb dX10_meetGates_60 (by decide) ?_
              refine lv_iinc (v := (v3 + 1)) (lv' := [(3, .int (v3 + 1)), (4, .ref a10), (0, .ref o), (1, .ref a18), (2, va_rf v2)]) hx hb dX10_meetGates_94 hl (k := 4) rfl rfl (by decide) (by cases v2 <;> rfl) (fun ls hl => ?_)
              refine lv_goto (tgt := 2) hx hb dX10_meetGates_97 (by decide) ?_
              exact ih o (some a18) v2 (v3 + 1) _ _ _ _ _ _ (by omega) (by omega) (lv_sub hl [2, 3, 4, 0] rfl) hW hS h

def fX10_meetGates (o : Nat) (v1 : Option Nat) (v2 : Option Nat) (h : Hz) : Option (Unit × Hz) := fX10_meetGates_2 700 o v1 v2 0 h
set_option maxHeartbeats 4000000 in
set_option maxRecDepth 100000 in
theorem wX10_meetGates_0 {r0 : Unit} {h0 : Hz} (X : zX A D cy p s m args c cX10_meetGates RX10 5) (hlk : meth.locks = false) (hr : meth.sig.returnType = none) (o : Nat) (v1 : Option Nat) (v2 : Option Nat) (h : Hz) (H : Heap) (locs : List Loc) (ls : Array Slot) (hl : lv_has ls 5 [(0, .ref o), (1, va_rf v1), (2, va_rf v2)]) (hW : zW A cy D h H) (hS : va_S A s.heap H locs) (h : fX10_meetGates o v1 v2 h = some (r0, h0)) : W p l e ({ frames := 3, cells := 700, slots := 7000, locals := 63 } : Room) s m args below meth c H locs 0 0 (MQ below (va_Qv (fun u => u = h0) (zB A D cy) A) args s 700 7000 A) (F0 m 0 ls []) := by
  obtain ⟨hx, hb, hts, hown, hK9, hml, hN9, hA9⟩ := id X
  unfold fX10_meetGates at h
  refine lv_iconst (v := 0) hx hb dX10_meetGates_0 (by decide) ?_
  refine lv_istore_n (lv' := [(3, .int 0), (0, .ref o), (1, va_rf v1), (2, va_rf v2)]) hx hb dX10_meetGates_1 rfl hl (by decide) (by cases v2 <;> rfl) (fun ls hl => ?_)
  refine W.widen (k := 0) (n := 0) (by decide) (by decide) ?_
  exact wX10_meetGates_2 X hlk hr _ o v1 v2 0 _ _ _ _ _ _ (by decide) (by decide) (lv_sub hl [1, 2, 3, 0] rfl) hW hS h

set_option maxHeartbeats 4000000 in
set_option maxRecDepth 100000 in
theorem cX10_meetGates_met {l : Launch} {A : Nat → Prop} {D : va_G} {cy : Nat → ClassId} {r0 : Unit} {h0 : Hz} {o : Nat} {v1 : Option Nat} {v2 : Option Nat} {h : Hz} (g : fX10_meetGates o v1 v2 h = some (r0, h0)) : Met l yX10_meetGates (Cond.code yX10_meetGates cX10_meetGates 5 none :: wT) ({ frames := 3, cells := 700, slots := 7000, locals := 63 } : Room) (va_Pc [.ref o, va_rf v1, va_rf v2] (zS A D cy h)) (va_Qv (fun u => u = h0) (zB A D cy) A) 700 7000 A := by
  refine Met.ofW (cc := cX10_meetGates) (maxL := 5) (ret := none) (by decide) rfl ?_
  intro p e s m args below meth c s₁ B hml hv
  obtain ⟨rfl, hW, hK, hN, hA⟩ := hv
  have X : zX A D cy p s m _ c cX10_meetGates RX10 5 := ⟨B.exec, B.bytes, fun w hw => atoms_spec (ws := Cond.code yX10_meetGates cX10_meetGates 5 none :: wT) B.pre w (List.mem_cons_of_mem _ hw), findClass_of_methodNamed B.named, hK, hml, hN, hA⟩
  cases v1 with
  | none =>
    cases v2 with
    | none =>
      have hl := lv_entry [.ref o, va_rf none, va_rf none] (n := 5) (Nat.le_of_ble_eq_true rfl)
      rw [lg_entry_eq]
      generalize (lg_sl [.ref o, va_rf none, va_rf none] ++ List.replicate (5 - (lg_sl [.ref o, va_rf none, va_rf none]).length) Slot.unset).toArray = ls at hl ⊢
      have hl : lv_has ls 5 [(0, .ref o), (1, va_rf none), (2, va_rf none)] := hl
      exact wX10_meetGates_0 X B.notSynchronized B.returns o none none _ _ _ _ (lv_sub hl [0, 1, 2] rfl) hW va_S.rf g
    | some v2 =>
      have hl := lv_entry [.ref o, va_rf none, va_rf (some v2)] (n := 5) (Nat.le_of_ble_eq_true rfl)
      rw [lg_entry_eq]
      generalize (lg_sl [.ref o, va_rf none, va_rf (some v2)] ++ List.replicate (5 - (lg_sl [.ref o, va_rf none, va_rf (some v2)]).length) Slot.unset).toArray = ls at hl ⊢
      have hl : lv_has ls 5 [(0, .ref o), (1, va_rf none), (2, va_rf (some v2))] := hl
      exact wX10_meetGates_0 X B.notSynchronized B.returns o none (some v2) _ _ _ _ (lv_sub hl [0, 1, 2] rfl) hW va_S.rf g
  | some v1 =>
    cases v2 with
    | none =>
      have hl := lv_entry [.ref o, va_rf (some v1), va_rf none] (n := 5) (Nat.le_of_ble_eq_true rfl)
      rw [lg_entry_eq]
      generalize (lg_sl [.ref o, va_rf (some v1), va_rf none] ++ List.replicate (5 - (lg_sl [.ref o, va_rf (some v1), va_rf none]).length) Slot.unset).toArray = ls at hl ⊢
      have hl : lv_has ls 5 [(0, .ref o), (1, va_rf (some v1)), (2, va_rf none)] := hl
      exact wX10_meetGates_0 X B.notSynchronized B.returns o (some v1) none _ _ _ _ (lv_sub hl [0, 1, 2] rfl) hW va_S.rf g
    | some v2 =>
      have hl := lv_entry [.ref o, va_rf (some v1), va_rf (some v2)] (n := 5) (Nat.le_of_ble_eq_true rfl)
      rw [lg_entry_eq]
      generalize (lg_sl [.ref o, va_rf (some v1), va_rf (some v2)] ++ List.replicate (5 - (lg_sl [.ref o, va_rf (some v1), va_rf (some v2)]).length) Slot.unset).toArray = ls at hl ⊢
      have hl : lv_has ls 5 [(0, .ref o), (1, va_rf (some v1)), (2, va_rf (some v2))] := hl
      exact wX10_meetGates_0 X B.notSynchronized B.returns o (some v1) (some v2) _ _ _ _ (lv_sub hl [0, 1, 2] rfl) hW va_S.rf g

theorem dX10_arriveStep_0 : decode cX10_arriveStep 0 = .ok (.aload_n 1, 1) := by decide +kernel
theorem dX10_arriveStep_1 : decode cX10_arriveStep 1 = .ok (.getfield 224, 3) := by decide +kernel
theorem dX10_arriveStep_4 : decode cX10_arriveStep 4 = .ok (.astore_n 2, 1) := by decide +kernel
theorem dX10_arriveStep_5 : decode cX10_arriveStep 5 = .ok (.aload_n 2, 1) := by decide +kernel
theorem dX10_arriveStep_6 : decode cX10_arriveStep 6 = .ok (.ifnull 10, 3) := by decide +kernel
theorem dX10_arriveStep_9 : decode cX10_arriveStep 9 = .ok (.aload_n 2, 1) := by decide +kernel
theorem dX10_arriveStep_10 : decode cX10_arriveStep 10 = .ok (.getfield 260, 3) := by decide +kernel
theorem dX10_arriveStep_13 : decode cX10_arriveStep 13 = .ok (.ifCond .eq 5, 3) := by decide +kernel
theorem dX10_arriveStep_16 : decode cX10_arriveStep 16 = .ok (.iconst 1, 1) := by decide +kernel
theorem dX10_arriveStep_17 : decode cX10_arriveStep 17 = .ok (.ireturn, 1) := by decide +kernel
theorem dX10_arriveStep_18 : decode cX10_arriveStep 18 = .ok (.aload_n 1, 1) := by decide +kernel
theorem dX10_arriveStep_19 : decode cX10_arriveStep 19 = .ok (.getfield 214, 3) := by decide +kernel
theorem dX10_arriveStep_22 : decode cX10_arriveStep 22 = .ok (.astore_n 3, 1) := by decide +kernel
theorem dX10_arriveStep_23 : decode cX10_arriveStep 23 = .ok (.aload_n 3, 1) := by decide +kernel
theorem dX10_arriveStep_24 : decode cX10_arriveStep 24 = .ok (.getfield 170, 3) := by decide +kernel
theorem dX10_arriveStep_27 : decode cX10_arriveStep 27 = .ok (.ifCond .eq 15, 3) := by decide +kernel
theorem dX10_arriveStep_30 : decode cX10_arriveStep 30 = .ok (.aload_n 2, 1) := by decide +kernel
theorem dX10_arriveStep_31 : decode cX10_arriveStep 31 = .ok (.aload_n 3, 1) := by decide +kernel
theorem dX10_arriveStep_32 : decode cX10_arriveStep 32 = .ok (.invokevirtual 370, 3) := by decide +kernel
theorem dX10_arriveStep_35 : decode cX10_arriveStep 35 = .ok (.ifCond .ne 7, 3) := by decide +kernel
theorem dX10_arriveStep_38 : decode cX10_arriveStep 38 = .ok (.iconst 1, 1) := by decide +kernel
theorem dX10_arriveStep_39 : decode cX10_arriveStep 39 = .ok (.goto 4, 3) := by decide +kernel
theorem dX10_arriveStep_42 : decode cX10_arriveStep 42 = .ok (.iconst 0, 1) := by decide +kernel
theorem dX10_arriveStep_43 : decode cX10_arriveStep 43 = .ok (.istore 4, 2) := by decide +kernel
theorem dX10_arriveStep_45 : decode cX10_arriveStep 45 = .ok (.iload 4, 2) := by decide +kernel
theorem dX10_arriveStep_47 : decode cX10_arriveStep 47 = .ok (.ifCond .eq 12, 3) := by decide +kernel
theorem dX10_arriveStep_50 : decode cX10_arriveStep 50 = .ok (.aload_n 0, 1) := by decide +kernel
theorem dX10_arriveStep_51 : decode cX10_arriveStep 51 = .ok (.aload_n 2, 1) := by decide +kernel
theorem dX10_arriveStep_52 : decode cX10_arriveStep 52 = .ok (.aload_n 3, 1) := by decide +kernel
theorem dX10_arriveStep_53 : decode cX10_arriveStep 53 = .ok (.invokevirtual 373, 3) := by decide +kernel
theorem dX10_arriveStep_56 : decode cX10_arriveStep 56 = .ok (.goto 4, 3) := by decide +kernel
theorem dX10_arriveStep_59 : decode cX10_arriveStep 59 = .ok (.iconst 0, 1) := by decide +kernel
theorem dX10_arriveStep_60 : decode cX10_arriveStep 60 = .ok (.istore 5, 2) := by decide +kernel
theorem dX10_arriveStep_62 : decode cX10_arriveStep 62 = .ok (.aload_n 0, 1) := by decide +kernel
theorem dX10_arriveStep_63 : decode cX10_arriveStep 63 = .ok (.getfield 19, 3) := by decide +kernel
theorem dX10_arriveStep_66 : decode cX10_arriveStep 66 = .ok (.iload 5, 2) := by decide +kernel
theorem dX10_arriveStep_68 : decode cX10_arriveStep 68 = .ok (.iconst 1, 1) := by decide +kernel
theorem dX10_arriveStep_69 : decode cX10_arriveStep 69 = .ok (.iadd, 1) := by decide +kernel
theorem dX10_arriveStep_70 : decode cX10_arriveStep 70 = .ok (.invokevirtual 238, 3) := by decide +kernel
theorem dX10_arriveStep_73 : decode cX10_arriveStep 73 = .ok (.ifCond .ne 5, 3) := by decide +kernel
theorem dX10_arriveStep_76 : decode cX10_arriveStep 76 = .ok (.iconst 0, 1) := by decide +kernel
theorem dX10_arriveStep_77 : decode cX10_arriveStep 77 = .ok (.ireturn, 1) := by decide +kernel
theorem dX10_arriveStep_78 : decode cX10_arriveStep 78 = .ok (.iload 4, 2) := by decide +kernel
theorem dX10_arriveStep_80 : decode cX10_arriveStep 80 = .ok (.ifCond .eq 22, 3) := by decide +kernel
theorem dX10_arriveStep_83 : decode cX10_arriveStep 83 = .ok (.aload_n 2, 1) := by decide +kernel
theorem dX10_arriveStep_84 : decode cX10_arriveStep 84 = .ok (.aload_n 3, 1) := by decide +kernel
theorem dX10_arriveStep_85 : decode cX10_arriveStep 85 = .ok (.aload_n 0, 1) := by decide +kernel
theorem dX10_arriveStep_86 : decode cX10_arriveStep 86 = .ok (.aload_n 3, 1) := by decide +kernel
theorem dX10_arriveStep_87 : decode cX10_arriveStep 87 = .ok (.getfield 109, 3) := by decide +kernel
theorem dX10_arriveStep_90 : decode cX10_arriveStep 90 = .ok (.invokevirtual 377, 3) := by decide +kernel
theorem dX10_arriveStep_93 : decode cX10_arriveStep 93 = .ok (.invokevirtual 380, 3) := by decide +kernel
theorem dX10_arriveStep_96 : decode cX10_arriveStep 96 = .ok (.aload_n 0, 1) := by decide +kernel
theorem dX10_arriveStep_97 : decode cX10_arriveStep 97 = .ok (.aload_n 2, 1) := by decide +kernel
theorem dX10_arriveStep_98 : decode cX10_arriveStep 98 = .ok (.aload_n 3, 1) := by decide +kernel
theorem dX10_arriveStep_99 : decode cX10_arriveStep 99 = .ok (.invokevirtual 384, 3) := by decide +kernel
theorem dX10_arriveStep_102 : decode cX10_arriveStep 102 = .ok (.aload_n 0, 1) := by decide +kernel
theorem dX10_arriveStep_103 : decode cX10_arriveStep 103 = .ok (.getfield 19, 3) := by decide +kernel
theorem dX10_arriveStep_106 : decode cX10_arriveStep 106 = .ok (.iconst 5, 1) := by decide +kernel
theorem dX10_arriveStep_107 : decode cX10_arriveStep 107 = .ok (.aload_n 2, 1) := by decide +kernel
theorem dX10_arriveStep_108 : decode cX10_arriveStep 108 = .ok (.aload_n 1, 1) := by decide +kernel
theorem dX10_arriveStep_109 : decode cX10_arriveStep 109 = .ok (.getfield 208, 3) := by decide +kernel
theorem dX10_arriveStep_112 : decode cX10_arriveStep 112 = .ok (.aload_n 3, 1) := by decide +kernel
theorem dX10_arriveStep_113 : decode cX10_arriveStep 113 = .ok (.iload 5, 2) := by decide +kernel
theorem dX10_arriveStep_115 : decode cX10_arriveStep 115 = .ok (.invokevirtual 256, 3) := by decide +kernel
theorem dX10_arriveStep_118 : decode cX10_arriveStep 118 = .ok (.pop, 1) := by decide +kernel
theorem dX10_arriveStep_119 : decode cX10_arriveStep 119 = .ok (.iconst 1, 1) := by decide +kernel
theorem dX10_arriveStep_120 : decode cX10_arriveStep 120 = .ok (.ireturn, 1) := by decide +kernel
def fX10_arriveStep_102 (o : Nat) (v1 : Nat) (v2 : Nat) (v3 : Nat) (v5 : Int32) (h : Hz) : Option (Int32 × Hz) := (b1 (gA 10 1 o h) fun a1 => (b1 (gI 0 2 v1 h) fun x2 => (b1 (tg 2 a1 h) fun _ => (b2 (fX2_fileOfWalk a1 5 (some v2) x2 (some v3) v5 h) fun x4 s5 => rz 1 s5))))
set_option maxHeartbeats 4000000 in
set_option maxRecDepth 100000 in
theorem wX10_arriveStep_102 {r0 : Int32} {h0 : Hz} (X : zX A D cy p s m args c cX10_arriveStep RX10 6) (hlk : meth.locks = false) (hr : meth.sig.returnType = (some .boolean)) (o : Nat) (v1 : Nat) (v2 : Nat) (v3 : Nat) (v5 : Int32) (h : Hz) (H : Heap) (locs : List Loc) (ls : Array Slot) (hl : lv_has ls 6 [(0, .ref o), (1, .ref v1), (2, .ref v2), (3, .ref v3), (5, .int v5)]) (hW : zW A cy D h H) (hS : va_S A s.heap H locs) (h : fX10_arriveStep_102 o v1 v2 v3 v5 h = some (r0, h0)) : W p l e ({ frames := 5, cells := 701, slots := 7010, locals := 112 } : Room) s m args below meth c H locs 700 7000 (MQ below (va_Qi (fun r1 u => r1 = r0 ∧ u = h0) (zB A D cy) A) args s 701 7010 A) (F0 m 102 ls []) := by
  obtain ⟨hx, hb, hts, hown, hK9, hml, hN9, hA9⟩ := id X
  unfold fX10_arriveStep_102 at h
  refine lv_aload_n hx hb dX10_arriveStep_102 rfl (lv_at hl 0 rfl) ?_
  replace h := b1_some h
  obtain ⟨a1, ga1, h⟩ := h
  refine z_getA X hW ga1 kX10 (by decide) (by decide) kf_X10_19 dX10_arriveStep_103 ?_
  refine lv_iconst (v := 5) hx hb dX10_arriveStep_106 (by decide) ?_
  refine lv_aload_n hx hb dX10_arriveStep_107 rfl (lv_at hl 2 rfl) ?_
  refine lv_aload_n hx hb dX10_arriveStep_108 rfl (lv_at hl 1 rfl) ?_
  replace h := b1_some h
  obtain ⟨x2, gx2, h⟩ := h
  refine z_getI X hW gx2 kX0 (by decide) (by decide) kf_X10_208 dX10_arriveStep_109 ?_
  refine lv_aload_n hx hb dX10_arriveStep_112 rfl (lv_at hl 3 rfl) ?_
  refine lv_iload hx hb dX10_arriveStep_113 (lv_at hl 4 rfl) ?_
  replace h := b1_some h
  obtain ⟨q3, gq3, h⟩ := h
  replace h := b2_some h
  obtain ⟨x4, s5, gs5, h⟩ := h
  refine z_callVi (rest := []) X hW hS (cX2_fileOfWalk_met gs5) kb_X2_fileOfWalk kv_X2_fileOfWalk kl_X10_256 (it_v gq3).1 kX2 rfl rfl ⟨Nat.le_of_ble_eq_true rfl, Nat.le_of_ble_eq_true rfl⟩ rfl rfl (by decide) hl.1 dX10_arriveStep_115 ⟨(by decide), (by decide)⟩ (fun H locs hW hS => ?_)
  refine lv_pop hx hb dX10_arriveStep_118 rfl ?_
  refine lv_iconst (v := 1) hx hb dX10_arriveStep_119 (by decide) ?_
  exact z_etz X hlk hr hW hS h (by decide) (by decide) dX10_arriveStep_120

def fX10_arriveStep_60 (o : Nat) (v1 : Nat) (v2 : Nat) (v3 : Nat) (v4 : Int32) (w0 : Int32) (h : Hz) : Option (Int32 × Hz) := (b1 (gA 10 1 o h) fun a1 => (b1 (tg 2 a1 h) fun _ => (b2 (fX2_hasRoom a1 (w0 + 1) h) fun x3 s4 => (if x3 = 0 then rz 0 s4 else (if v4 = 0 then fX10_arriveStep_102 o v1 v2 v3 w0 s4 else (b1 (gI 5 2 v3 s4) fun x7 => (b1 (tg 10 o s4) fun _ => (b2 (fX10_countOf o x7 s4) fun x9 s10 => (b1 (tg 9 v2 s10) fun _ => (b2 (fX9_pass v2 (some v3) x9 s10) fun _ s13 => (b1 (tg 10 o s13) fun _ => (b2 (fX10_meetGates o (some v2) (some v3) s13) fun _ s16 => fX10_arriveStep_102 o v1 v2 v3 w0 s16))))))))))))
set_option maxHeartbeats 4000000 in
set_option maxRecDepth 100000 in
theorem wX10_arriveStep_60 {r0 : Int32} {h0 : Hz} (X : zX A D cy p s m args c cX10_arriveStep RX10 6) (hlk : meth.locks = false) (hr : meth.sig.returnType = (some .boolean)) (o : Nat) (v1 : Nat) (v2 : Nat) (v3 : Nat) (v4 : Int32) (w0 : Int32) (h : Hz) (H : Heap) (locs : List Loc) (ls : Array Slot) (hl : lv_has ls 6 [(0, .ref o), (1, .ref v1), (2, .ref v2), (3, .ref v3), (4, .int v4)]) (hW : zW A cy D h H) (hS : va_S A s.heap H locs) (h : fX10_arriveStep_60 o v1 v2 v3 v4 w0 h = some (r0, h0)) : W p l e ({ frames := 5, cells := 701, slots := 7010, locals := 112 } : Room) s m args below meth c H locs 0 0 (MQ below (va_Qi (fun r1 u => r1 = r0 ∧ u = h0) (zB A D cy) A) args s 701 7010 A) (F0 m 60 ls [.int w0]) := by
  obtain ⟨hx, hb, hts, hown, hK9, hml, hN9, hA9⟩ := id X
  unfold fX10_arriveStep_60 at h
  refine lv_istore (lv' := [(5, .int w0), (0, .ref o), (1, .ref v1), (2, .ref v2), (3, .ref v3), (4, .int v4)]) hx hb dX10_arriveStep_60 hl (by decide) rfl (fun ls hl => ?_)
  refine lv_aload_n hx hb dX10_arriveStep_62 rfl (lv_at hl 1 rfl) ?_
  replace h := b1_some h
  obtain ⟨a1, ga1, h⟩ := h
  refine z_getA X hW ga1 kX10 (by decide) (by decide) kf_X10_19 dX10_arriveStep_63 ?_
  refine lv_iload hx hb dX10_arriveStep_66 (lv_at hl 0 rfl) ?_
  refine lv_iconst (v := 1) hx hb dX10_arriveStep_68 (by decide) ?_
  refine lv_iadd hx hb dX10_arriveStep_69 ?_
  replace h := b1_some h
  obtain ⟨q2, gq2, h⟩ := h
  replace h := b2_some h
  obtain ⟨x3, s4, gs4, h⟩ := h
  refine z_callVi (rest := []) X hW hS (cX2_hasRoom_met gs4) kb_X2_hasRoom kv_X2_hasRoom kl_X10_238 (it_v gq2).1 kX2 rfl rfl ⟨Nat.le_of_ble_eq_true rfl, Nat.le_of_ble_eq_true rfl⟩ rfl rfl (by decide) hl.1 dX10_arriveStep_70 ⟨(by decide), (by decide)⟩ (fun H locs hW hS => ?_)
  refine lv_if_ne (tgt := 78) hx hb dX10_arriveStep_73 (by decide) (fun c5 => ?_) (fun c5 => ?_)
  · replace h := it_f h c5
    refine lv_iload hx hb dX10_arriveStep_78 (lv_at hl 5 rfl) ?_
    refine lv_if_eq (tgt := 102) hx hb dX10_arriveStep_80 (by decide) (fun c6 => ?_) (fun c6 => ?_)
    · replace h := it_t h c6
      refine W.widen (k := 700) (n := 7000) (by decide) (by decide) ?_
      exact wX10_arriveStep_102 X hlk hr o v1 v2 v3 w0 _ _ _ _ (lv_sub hl [1, 2, 3, 4, 0] rfl) hW hS h
    · replace h := it_f h c6
      refine lv_aload_n hx hb dX10_arriveStep_83 rfl (lv_at hl 3 rfl) ?_
      refine lv_aload_n hx hb dX10_arriveStep_84 rfl (lv_at hl 4 rfl) ?_
      refine lv_aload_n hx hb dX10_arriveStep_85 rfl (lv_at hl 1 rfl) ?_
      refine lv_aload_n hx hb dX10_arriveStep_86 rfl (lv_at hl 4 rfl) ?_
      replace h := b1_some h
      obtain ⟨x7, gx7, h⟩ := h
      refine z_getI X hW gx7 kX5 (by decide) (by decide) kf_X10_109 dX10_arriveStep_87 ?_
      replace h := b1_some h
      obtain ⟨q8, gq8, h⟩ := h
      replace h := b2_some h
      obtain ⟨x9, s10, gs10, h⟩ := h
      refine z_callVi (rest := [.ref v3, .ref v2]) X hW hS (cX10_countOf_met gs10) kb_X10_countOf kv_X10_countOf kl_X10_377 (it_v gq8).1 kX10 rfl rfl ⟨Nat.le_of_ble_eq_true rfl, Nat.le_of_ble_eq_true rfl⟩ rfl rfl (Nat.le_of_ble_eq_true rfl) hl.1 dX10_arriveStep_90 ⟨(by decide), (by decide)⟩ (fun H locs hW hS => ?_)
      replace h := b1_some h
      obtain ⟨q11, gq11, h⟩ := h
      replace h := b2_some h
      obtain ⟨_ur12, s13, gs13, h⟩ := h
      refine z_callVv (rest := []) X hW hS (cX9_pass_met gs13) kb_X9_pass kv_X9_pass kl_X10_380 (it_v gq11).1 kX9 rfl rfl ⟨Nat.le_of_ble_eq_true rfl, Nat.le_of_ble_eq_true rfl⟩ rfl rfl (by decide) hl.1 dX10_arriveStep_93 ⟨(by decide), (by decide)⟩ (fun H locs hW hS => ?_)
      refine lv_aload_n hx hb dX10_arriveStep_96 rfl (lv_at hl 1 rfl) ?_
      refine lv_aload_n hx hb dX10_arriveStep_97 rfl (lv_at hl 3 rfl) ?_
      refine lv_aload_n hx hb dX10_arriveStep_98 rfl (lv_at hl 4 rfl) ?_
      replace h := b1_some h
      obtain ⟨q14, gq14, h⟩ := h
      replace h := b2_some h
      obtain ⟨_ur15, s16, gs16, h⟩ := h
      refine z_callVv (rest := []) X hW hS (cX10_meetGates_met gs16) kb_X10_meetGates kv_X10_meetGates kl_X10_384 (it_v gq14).1 kX10 rfl rfl ⟨Nat.le_of_ble_eq_true rfl, Nat.le_of_ble_eq_true rfl⟩ rfl rfl (by decide) hl.1 dX10_arriveStep_99 ⟨(by decide), (by decide)⟩ (fun H locs hW hS => ?_)
      exact wX10_arriveStep_102 X hlk hr o v1 v2 v3 w0 _ _ _ _ (lv_sub hl [1, 2, 3, 4, 0] rfl) hW hS h
  · replace h := it_t h c5
    refine lv_iconst (v := 0) hx hb dX10_arriveStep_76 (by decide) ?_
    exact z_etz X hlk hr hW hS h (by decide) (by decide) dX10_arriveStep_77

def fX10_arriveStep_43 (o : Nat) (v1 : Nat) (v2 : Nat) (v3 : Nat) (w0 : Int32) (h : Hz) : Option (Int32 × Hz) := (if w0 = 0 then fX10_arriveStep_60 o v1 v2 v3 w0 0 h else (b1 (tg 10 o h) fun _ => (b2 (fX10_gatesToMeet o (some v2) (some v3) h) fun x3 s4 => fX10_arriveStep_60 o v1 v2 v3 w0 x3 s4)))
set_option maxHeartbeats 4000000 in
set_option maxRecDepth 100000 in
theorem wX10_arriveStep_43 {r0 : Int32} {h0 : Hz} (X : zX A D cy p s m args c cX10_arriveStep RX10 6) (hlk : meth.locks = false) (hr : meth.sig.returnType = (some .boolean)) (o : Nat) (v1 : Nat) (v2 : Nat) (v3 : Nat) (w0 : Int32) (h : Hz) (H : Heap) (locs : List Loc) (ls : Array Slot) (hl : lv_has ls 6 [(0, .ref o), (1, .ref v1), (2, .ref v2), (3, .ref v3)]) (hW : zW A cy D h H) (hS : va_S A s.heap H locs) (h : fX10_arriveStep_43 o v1 v2 v3 w0 h = some (r0, h0)) : W p l e ({ frames := 5, cells := 701, slots := 7010, locals := 112 } : Room) s m args below meth c H locs 0 0 (MQ below (va_Qi (fun r1 u => r1 = r0 ∧ u = h0) (zB A D cy) A) args s 701 7010 A) (F0 m 43 ls [.int w0]) := by
  obtain ⟨hx, hb, hts, hown, hK9, hml, hN9, hA9⟩ := id X
  unfold fX10_arriveStep_43 at h
  refine lv_istore (lv' := [(4, .int w0), (0, .ref o), (1, .ref v1), (2, .ref v2), (3, .ref v3)]) hx hb dX10_arriveStep_43 hl (by decide) rfl (fun ls hl => ?_)
  refine lv_iload hx hb dX10_arriveStep_45 (lv_at hl 0 rfl) ?_
  refine lv_if_eq (tgt := 59) hx hb dX10_arriveStep_47 (by decide) (fun c1 => ?_) (fun c1 => ?_)
  · replace h := it_t h c1
    refine lv_iconst (v := 0) hx hb dX10_arriveStep_59 (by decide) ?_
    exact wX10_arriveStep_60 X hlk hr o v1 v2 v3 w0 0 _ _ _ _ (lv_sub hl [1, 2, 3, 4, 0] rfl) hW hS h
  · replace h := it_f h c1
    refine lv_aload_n hx hb dX10_arriveStep_50 rfl (lv_at hl 1 rfl) ?_
    refine lv_aload_n hx hb dX10_arriveStep_51 rfl (lv_at hl 3 rfl) ?_
    refine lv_aload_n hx hb dX10_arriveStep_52 rfl (lv_at hl 4 rfl) ?_
    replace h := b1_some h
    obtain ⟨q2, gq2, h⟩ := h
    replace h := b2_some h
    obtain ⟨x3, s4, gs4, h⟩ := h
    refine z_callVi (rest := []) X hW hS (cX10_gatesToMeet_met gs4) kb_X10_gatesToMeet kv_X10_gatesToMeet kl_X10_373 (it_v gq2).1 kX10 rfl rfl ⟨Nat.le_of_ble_eq_true rfl, Nat.le_of_ble_eq_true rfl⟩ rfl rfl (by decide) hl.1 dX10_arriveStep_53 ⟨(by decide), (by decide)⟩ (fun H locs hW hS => ?_)
    refine lv_goto (tgt := 60) hx hb dX10_arriveStep_56 (by decide) ?_
    exact wX10_arriveStep_60 X hlk hr o v1 v2 v3 w0 x3 _ _ _ _ (lv_sub hl [1, 2, 3, 4, 0] rfl) hW hS h

def fX10_arriveStep_42 (o : Nat) (v1 : Nat) (v2 : Nat) (v3 : Nat) (h : Hz) : Option (Int32 × Hz) := fX10_arriveStep_43 o v1 v2 v3 0 h
set_option maxHeartbeats 4000000 in
set_option maxRecDepth 100000 in
theorem wX10_arriveStep_42 {r0 : Int32} {h0 : Hz} (X : zX A D cy p s m args c cX10_arriveStep RX10 6) (hlk : meth.locks = false) (hr : meth.sig.returnType = (some .boolean)) (o : Nat) (v1 : Nat) (v2 : Nat) (v3 : Nat) (h : Hz) (H : Heap) (locs : List Loc) (ls : Array Slot) (hl : lv_has ls 6 [(0, .ref o), (1, .ref v1), (2, .ref v2), (3, .ref v3)]) (hW : zW A cy D h H) (hS : va_S A s.heap H locs) (h : fX10_arriveStep_42 o v1 v2 v3 h = some (r0, h0)) : W p l e ({ frames := 5, cells := 701, slots := 7010, locals := 112 } : Room) s m args below meth c H locs 0 0 (MQ below (va_Qi (fun r1 u => r1 = r0 ∧ u = h0) (zB A D cy) A) args s 701 7010 A) (F0 m 42 ls []) := by
  obtain ⟨hx, hb, hts, hown, hK9, hml, hN9, hA9⟩ := id X
  unfold fX10_arriveStep_42 at h
  refine lv_iconst (v := 0) hx hb dX10_arriveStep_42 (by decide) ?_
  exact wX10_arriveStep_43 X hlk hr o v1 v2 v3 0 _ _ _ _ (lv_sub hl [0, 1, 2, 3] rfl) hW hS h

def fX10_arriveStep (o : Nat) (v1 : Option Nat) (h : Hz) : Option (Int32 × Hz) := b1 v1 fun a1 => (b1 (gP 0 7 a1 h) fun r2 => (oe r2 (rz 1 h) fun a3 => (b1 (gI 9 6 a3 h) fun x4 => (if x4 = 0 then (b1 (gA 0 3 a1 h) fun a6 => (b1 (gI 5 10 a6 h) fun x7 => (if x7 = 0 then fX10_arriveStep_42 o a1 a3 a6 h else (b1 (tg 9 a3 h) fun _ => (b2 (fX9_hasPassed a3 (some a6) h) fun x10 s11 => (if x10 = 0 then fX10_arriveStep_43 o a1 a3 a6 1 s11 else fX10_arriveStep_42 o a1 a3 a6 s11)))))) else rz 1 h))))
set_option maxHeartbeats 4000000 in
set_option maxRecDepth 100000 in
theorem wX10_arriveStep_0 {r0 : Int32} {h0 : Hz} (X : zX A D cy p s m args c cX10_arriveStep RX10 6) (hlk : meth.locks = false) (hr : meth.sig.returnType = (some .boolean)) (o : Nat) (v1 : Option Nat) (h : Hz) (H : Heap) (locs : List Loc) (ls : Array Slot) (hl : lv_has ls 6 [(0, .ref o), (1, va_rf v1)]) (hW : zW A cy D h H) (hS : va_S A s.heap H locs) (h : fX10_arriveStep o v1 h = some (r0, h0)) : W p l e ({ frames := 5, cells := 701, slots := 7010, locals := 112 } : Room) s m args below meth c H locs 0 0 (MQ below (va_Qi (fun r1 u => r1 = r0 ∧ u = h0) (zB A D cy) A) args s 701 7010 A) (F0 m 0 ls []) := by
  obtain ⟨hx, hb, hts, hown, hK9, hml, hN9, hA9⟩ := id X
  unfold fX10_arriveStep at h
  refine z_aload_n hx hb dX10_arriveStep_0 rfl (lv_at hl 1 rfl) ?_
  replace h := b1_some h
  obtain ⟨a1, ea1, h⟩ := h
  subst ea1
  replace h := b1_some h
  obtain ⟨r2, gr2, h⟩ := h
  refine z_getP X hW gr2 kX0 (by decide) (by decide) kf_X10_224 dX10_arriveStep_1 ?_
  refine z_astore_n (lv' := [(2, va_rf r2), (0, .ref o), (1, .ref a1)]) hx hb dX10_arriveStep_4 rfl hl (by decide) rfl (fun ls hl => ?_)
  refine z_aload_n hx hb dX10_arriveStep_5 rfl (lv_at hl 0 rfl) ?_
  cases r2 with
  | none =>
    replace h := oe_n h
    have hl : lv_has ls 6 [(2, .null), (0, .ref o), (1, .ref a1)] := hl
    refine lv_ifnullN (tgt := 16) hx hb dX10_arriveStep_6 (by decide) ?_
    refine lv_iconst (v := 1) hx hb dX10_arriveStep_16 (by decide) ?_
    exact z_etz X hlk hr hW hS h (by decide) (by decide) dX10_arriveStep_17
  | some a3 =>
    replace h := oe_s h
    have hl : lv_has ls 6 [(2, .ref a3), (0, .ref o), (1, .ref a1)] := hl
    refine lv_ifnull hx hb dX10_arriveStep_6 ?_
    refine lv_aload_n hx hb dX10_arriveStep_9 rfl (lv_at hl 0 rfl) ?_
    replace h := b1_some h
    obtain ⟨x4, gx4, h⟩ := h
    refine z_getI X hW gx4 kX9 (by decide) (by decide) kf_X10_260 dX10_arriveStep_10 ?_
    refine lv_if_eq (tgt := 18) hx hb dX10_arriveStep_13 (by decide) (fun c5 => ?_) (fun c5 => ?_)
    · replace h := it_t h c5
      refine lv_aload_n hx hb dX10_arriveStep_18 rfl (lv_at hl 2 rfl) ?_
      replace h := b1_some h
      obtain ⟨a6, ga6, h⟩ := h
      refine z_getA X hW ga6 kX0 (by decide) (by decide) kf_X10_214 dX10_arriveStep_19 ?_
      refine lv_astore_n (lv' := [(3, .ref a6), (2, .ref a3), (0, .ref o), (1, .ref a1)]) hx hb dX10_arriveStep_22 rfl hl (by decide) rfl (fun ls hl => ?_)
      refine lv_aload_n hx hb dX10_arriveStep_23 rfl (lv_at hl 0 rfl) ?_
      replace h := b1_some h
      obtain ⟨x7, gx7, h⟩ := h
      refine z_getI X hW gx7 kX5 (by decide) (by decide) kf_X10_170 dX10_arriveStep_24 ?_
      refine lv_if_eq (tgt := 42) hx hb dX10_arriveStep_27 (by decide) (fun c8 => ?_) (fun c8 => ?_)
      · replace h := it_t h c8
        exact wX10_arriveStep_42 X hlk hr o a1 a3 a6 _ _ _ _ (lv_sub hl [2, 3, 1, 0] rfl) hW hS h
      · replace h := it_f h c8
        refine lv_aload_n hx hb dX10_arriveStep_30 rfl (lv_at hl 1 rfl) ?_
        refine lv_aload_n hx hb dX10_arriveStep_31 rfl (lv_at hl 0 rfl) ?_
        replace h := b1_some h
        obtain ⟨q9, gq9, h⟩ := h
        replace h := b2_some h
        obtain ⟨x10, s11, gs11, h⟩ := h
        refine z_callVi (rest := []) X hW hS (cX9_hasPassed_met gs11) kb_X9_hasPassed kv_X9_hasPassed kl_X10_370 (it_v gq9).1 kX9 rfl rfl ⟨Nat.le_of_ble_eq_true rfl, Nat.le_of_ble_eq_true rfl⟩ rfl rfl (by decide) hl.1 dX10_arriveStep_32 ⟨(by decide), (by decide)⟩ (fun H locs hW hS => ?_)
        refine lv_if_ne (tgt := 42) hx hb dX10_arriveStep_35 (by decide) (fun c12 => ?_) (fun c12 => ?_)
        · replace h := it_f h c12
          exact wX10_arriveStep_42 X hlk hr o a1 a3 a6 _ _ _ _ (lv_sub hl [2, 3, 1, 0] rfl) hW hS h
        · replace h := it_t h c12
          refine lv_iconst (v := 1) hx hb dX10_arriveStep_38 (by decide) ?_
          refine lv_goto (tgt := 43) hx hb dX10_arriveStep_39 (by decide) ?_
          exact wX10_arriveStep_43 X hlk hr o a1 a3 a6 1 _ _ _ _ (lv_sub hl [2, 3, 1, 0] rfl) hW hS h
    · replace h := it_f h c5
      refine lv_iconst (v := 1) hx hb dX10_arriveStep_16 (by decide) ?_
      exact z_etz X hlk hr hW hS h (by decide) (by decide) dX10_arriveStep_17

set_option maxHeartbeats 4000000 in
set_option maxRecDepth 100000 in
theorem cX10_arriveStep_met {l : Launch} {A : Nat → Prop} {D : va_G} {cy : Nat → ClassId} {r0 : Int32} {h0 : Hz} {o : Nat} {v1 : Option Nat} {h : Hz} (g : fX10_arriveStep o v1 h = some (r0, h0)) : Met l yX10_arriveStep (Cond.code yX10_arriveStep cX10_arriveStep 6 (some .boolean) :: wT) ({ frames := 5, cells := 701, slots := 7010, locals := 112 } : Room) (va_Pc [.ref o, va_rf v1] (zS A D cy h)) (va_Qi (fun r1 u => r1 = r0 ∧ u = h0) (zB A D cy) A) 701 7010 A := by
  refine Met.ofW (cc := cX10_arriveStep) (maxL := 6) (ret := (some .boolean)) (by decide) rfl ?_
  intro p e s m args below meth c s₁ B hml hv
  obtain ⟨rfl, hW, hK, hN, hA⟩ := hv
  have X : zX A D cy p s m _ c cX10_arriveStep RX10 6 := ⟨B.exec, B.bytes, fun w hw => atoms_spec (ws := Cond.code yX10_arriveStep cX10_arriveStep 6 (some .boolean) :: wT) B.pre w (List.mem_cons_of_mem _ hw), findClass_of_methodNamed B.named, hK, hml, hN, hA⟩
  cases v1 with
  | none =>
    have hl := lv_entry [.ref o, va_rf none] (n := 6) (Nat.le_of_ble_eq_true rfl)
    rw [lg_entry_eq]
    generalize (lg_sl [.ref o, va_rf none] ++ List.replicate (6 - (lg_sl [.ref o, va_rf none]).length) Slot.unset).toArray = ls at hl ⊢
    have hl : lv_has ls 6 [(0, .ref o), (1, va_rf none)] := hl
    exact wX10_arriveStep_0 X B.notSynchronized B.returns o none _ _ _ _ (lv_sub hl [0, 1] rfl) hW va_S.rf g
  | some v1 =>
    have hl := lv_entry [.ref o, va_rf (some v1)] (n := 6) (Nat.le_of_ble_eq_true rfl)
    rw [lg_entry_eq]
    generalize (lg_sl [.ref o, va_rf (some v1)] ++ List.replicate (6 - (lg_sl [.ref o, va_rf (some v1)]).length) Slot.unset).toArray = ls at hl ⊢
    have hl : lv_has ls 6 [(0, .ref o), (1, va_rf (some v1))] := hl
    exact wX10_arriveStep_0 X B.notSynchronized B.returns o (some v1) _ _ _ _ (lv_sub hl [0, 1] rfl) hW va_S.rf g

theorem dX10_arrive_0 : decode cX10_arrive 0 = .ok (.aload_n 1, 1) := by decide +kernel
theorem dX10_arrive_1 : decode cX10_arrive 1 = .ok (.getfield 207, 3) := by decide +kernel
theorem dX10_arrive_4 : decode cX10_arrive 4 = .ok (.tableswitch 66 0 4 #[36, 42, 48, 54, 60], 36) := by decide +kernel
theorem dX10_arrive_40 : decode cX10_arrive 40 = .ok (.aload_n 0, 1) := by decide +kernel
theorem dX10_arrive_41 : decode cX10_arrive 41 = .ok (.aload_n 1, 1) := by decide +kernel
theorem dX10_arrive_42 : decode cX10_arrive 42 = .ok (.invokevirtual 328, 3) := by decide +kernel
theorem dX10_arrive_45 : decode cX10_arrive 45 = .ok (.ireturn, 1) := by decide +kernel
theorem dX10_arrive_46 : decode cX10_arrive 46 = .ok (.aload_n 0, 1) := by decide +kernel
theorem dX10_arrive_47 : decode cX10_arrive 47 = .ok (.aload_n 1, 1) := by decide +kernel
theorem dX10_arrive_48 : decode cX10_arrive 48 = .ok (.invokevirtual 331, 3) := by decide +kernel
theorem dX10_arrive_51 : decode cX10_arrive 51 = .ok (.ireturn, 1) := by decide +kernel
theorem dX10_arrive_52 : decode cX10_arrive 52 = .ok (.aload_n 0, 1) := by decide +kernel
theorem dX10_arrive_53 : decode cX10_arrive 53 = .ok (.aload_n 1, 1) := by decide +kernel
theorem dX10_arrive_54 : decode cX10_arrive 54 = .ok (.invokevirtual 334, 3) := by decide +kernel
theorem dX10_arrive_57 : decode cX10_arrive 57 = .ok (.ireturn, 1) := by decide +kernel
theorem dX10_arrive_58 : decode cX10_arrive 58 = .ok (.aload_n 0, 1) := by decide +kernel
theorem dX10_arrive_59 : decode cX10_arrive 59 = .ok (.aload_n 1, 1) := by decide +kernel
theorem dX10_arrive_60 : decode cX10_arrive 60 = .ok (.invokevirtual 337, 3) := by decide +kernel
theorem dX10_arrive_63 : decode cX10_arrive 63 = .ok (.ireturn, 1) := by decide +kernel
theorem dX10_arrive_64 : decode cX10_arrive 64 = .ok (.aload_n 0, 1) := by decide +kernel
theorem dX10_arrive_65 : decode cX10_arrive 65 = .ok (.aload_n 1, 1) := by decide +kernel
theorem dX10_arrive_66 : decode cX10_arrive 66 = .ok (.invokevirtual 340, 3) := by decide +kernel
theorem dX10_arrive_69 : decode cX10_arrive 69 = .ok (.ireturn, 1) := by decide +kernel
theorem dX10_arrive_70 : decode cX10_arrive 70 = .ok (.aload_n 0, 1) := by decide +kernel
theorem dX10_arrive_71 : decode cX10_arrive 71 = .ok (.aload_n 1, 1) := by decide +kernel
theorem dX10_arrive_72 : decode cX10_arrive 72 = .ok (.invokevirtual 343, 3) := by decide +kernel
theorem dX10_arrive_75 : decode cX10_arrive 75 = .ok (.ireturn, 1) := by decide +kernel
def fX10_arrive (o : Nat) (v1 : Option Nat) (h : Hz) : Option (Int32 × Hz) := b1 v1 fun a1 => (b1 (gI 0 0 a1 h) fun x2 => (if x2 = 0 then (b1 (tg 10 o h) fun _ => (b2 (fX10_arriveName o (some a1) h) fun x5 s6 => rz x5 s6)) else (if x2 = 1 then (b1 (tg 10 o h) fun _ => (b2 (fX10_arriveMore o (some a1) h) fun x9 s10 => rz x9 s10)) else (if x2 = 2 then (b1 (tg 10 o h) fun _ => (b2 (fX10_arriveGive o (some a1) h) fun x13 s14 => rz x13 s14)) else (if x2 = 3 then (b1 (tg 10 o h) fun _ => (b2 (fX10_arriveHome o (some a1) h) fun x17 s18 => rz x17 s18)) else (if x2 = 4 then (b1 (tg 10 o h) fun _ => (b2 (fX10_arriveStep o (some a1) h) fun x21 s22 => rz x21 s22)) else (b1 (tg 10 o h) fun _ => (b2 (fX10_arriveBack o (some a1) h) fun x24 s25 => rz x24 s25))))))))
set_option maxHeartbeats 4000000 in
set_option maxRecDepth 100000 in
theorem wX10_arrive_0 {r0 : Int32} {h0 : Hz} (X : zX A D cy p s m args c cX10_arrive RX10 2) (hlk : meth.locks = false) (hr : meth.sig.returnType = (some .boolean)) (o : Nat) (v1 : Option Nat) (h : Hz) (H : Heap) (locs : List Loc) (ls : Array Slot) (hl : lv_has ls 2 [(0, .ref o), (1, va_rf v1)]) (hW : zW A cy D h H) (hS : va_S A s.heap H locs) (h : fX10_arrive o v1 h = some (r0, h0)) : W p l e ({ frames := 6, cells := 701, slots := 7010, locals := 137 } : Room) s m args below meth c H locs 0 0 (MQ below (va_Qi (fun r1 u => r1 = r0 ∧ u = h0) (zB A D cy) A) args s 701 7010 A) (F0 m 0 ls []) := by
  obtain ⟨hx, hb, hts, hown, hK9, hml, hN9, hA9⟩ := id X
  unfold fX10_arrive at h
  refine z_aload_n hx hb dX10_arrive_0 rfl (lv_at hl 1 rfl) ?_
  replace h := b1_some h
  obtain ⟨a1, ea1, h⟩ := h
  subst ea1
  replace h := b1_some h
  obtain ⟨x2, gx2, h⟩ := h
  refine z_getI X hW gx2 kX0 (by decide) (by decide) kf_X10_207 dX10_arrive_1 ?_
  by_cases c3 : x2 = 0
  · replace h := it_t h c3
    refine lv_tableIn (off := 36) (tgt := 40) hx hb dX10_arrive_4 (by rw [c3]; decide) (by rw [c3]; decide) (by rw [c3]; rfl) (by decide) ?_
    refine lv_aload_n hx hb dX10_arrive_40 rfl (lv_at hl 0 rfl) ?_
    refine lv_aload_n hx hb dX10_arrive_41 rfl (lv_at hl 1 rfl) ?_
    replace h := b1_some h
    obtain ⟨q4, gq4, h⟩ := h
    replace h := b2_some h
    obtain ⟨x5, s6, gs6, h⟩ := h
    refine z_callVi (rest := []) X hW hS (cX10_arriveName_met gs6) kb_X10_arriveName kv_X10_arriveName kl_X10_328 (it_v gq4).1 kX10 rfl rfl ⟨Nat.le_of_ble_eq_true rfl, Nat.le_of_ble_eq_true rfl⟩ rfl rfl (by decide) hl.1 dX10_arrive_42 ⟨(by decide), (by decide)⟩ (fun H locs hW hS => ?_)
    exact z_etz X hlk hr hW hS h (by decide) (by decide) dX10_arrive_45
  · replace h := it_f h c3
    by_cases c7 : x2 = 1
    · replace h := it_t h c7
      refine lv_tableIn (off := 42) (tgt := 46) hx hb dX10_arrive_4 (by rw [c7]; decide) (by rw [c7]; decide) (by rw [c7]; rfl) (by decide) ?_
      refine lv_aload_n hx hb dX10_arrive_46 rfl (lv_at hl 0 rfl) ?_
      refine lv_aload_n hx hb dX10_arrive_47 rfl (lv_at hl 1 rfl) ?_
      replace h := b1_some h
      obtain ⟨q8, gq8, h⟩ := h
      replace h := b2_some h
      obtain ⟨x9, s10, gs10, h⟩ := h
      refine z_callVi (rest := []) X hW hS (cX10_arriveMore_met gs10) kb_X10_arriveMore kv_X10_arriveMore kl_X10_331 (it_v gq8).1 kX10 rfl rfl ⟨Nat.le_of_ble_eq_true rfl, Nat.le_of_ble_eq_true rfl⟩ rfl rfl (by decide) hl.1 dX10_arrive_48 ⟨(by decide), (by decide)⟩ (fun H locs hW hS => ?_)
      exact z_etz X hlk hr hW hS h (by decide) (by decide) dX10_arrive_51
    · replace h := it_f h c7
      by_cases c11 : x2 = 2
      · replace h := it_t h c11
        refine lv_tableIn (off := 48) (tgt := 52) hx hb dX10_arrive_4 (by rw [c11]; decide) (by rw [c11]; decide) (by rw [c11]; rfl) (by decide) ?_
        refine lv_aload_n hx hb dX10_arrive_52 rfl (lv_at hl 0 rfl) ?_
        refine lv_aload_n hx hb dX10_arrive_53 rfl (lv_at hl 1 rfl) ?_
        replace h := b1_some h
        obtain ⟨q12, gq12, h⟩ := h
        replace h := b2_some h
        obtain ⟨x13, s14, gs14, h⟩ := h
        refine z_callVi (rest := []) X hW hS (cX10_arriveGive_met gs14) kb_X10_arriveGive kv_X10_arriveGive kl_X10_334 (it_v gq12).1 kX10 rfl rfl ⟨Nat.le_of_ble_eq_true rfl, Nat.le_of_ble_eq_true rfl⟩ rfl rfl (by decide) hl.1 dX10_arrive_54 ⟨(by decide), (by decide)⟩ (fun H locs hW hS => ?_)
        exact z_etz X hlk hr hW hS h (by decide) (by decide) dX10_arrive_57
      · replace h := it_f h c11
        by_cases c15 : x2 = 3
        · replace h := it_t h c15
          refine lv_tableIn (off := 54) (tgt := 58) hx hb dX10_arrive_4 (by rw [c15]; decide) (by rw [c15]; decide) (by rw [c15]; rfl) (by decide) ?_
          refine lv_aload_n hx hb dX10_arrive_58 rfl (lv_at hl 0 rfl) ?_
          refine lv_aload_n hx hb dX10_arrive_59 rfl (lv_at hl 1 rfl) ?_
          replace h := b1_some h
          obtain ⟨q16, gq16, h⟩ := h
          replace h := b2_some h
          obtain ⟨x17, s18, gs18, h⟩ := h
          refine z_callVi (rest := []) X hW hS (cX10_arriveHome_met gs18) kb_X10_arriveHome kv_X10_arriveHome kl_X10_337 (it_v gq16).1 kX10 rfl rfl ⟨Nat.le_of_ble_eq_true rfl, Nat.le_of_ble_eq_true rfl⟩ rfl rfl (by decide) hl.1 dX10_arrive_60 ⟨(by decide), (by decide)⟩ (fun H locs hW hS => ?_)
          exact z_etz X hlk hr hW hS h (by decide) (by decide) dX10_arrive_63
        · replace h := it_f h c15
          by_cases c19 : x2 = 4
          · replace h := it_t h c19
            refine lv_tableIn (off := 60) (tgt := 64) hx hb dX10_arrive_4 (by rw [c19]; decide) (by rw [c19]; decide) (by rw [c19]; rfl) (by decide) ?_
            refine lv_aload_n hx hb dX10_arrive_64 rfl (lv_at hl 0 rfl) ?_
            refine lv_aload_n hx hb dX10_arrive_65 rfl (lv_at hl 1 rfl) ?_
            replace h := b1_some h
            obtain ⟨q20, gq20, h⟩ := h
            replace h := b2_some h
            obtain ⟨x21, s22, gs22, h⟩ := h
            refine z_callVi (rest := []) X hW hS (cX10_arriveStep_met gs22) kb_X10_arriveStep kv_X10_arriveStep kl_X10_340 (it_v gq20).1 kX10 rfl rfl ⟨Nat.le_of_ble_eq_true rfl, Nat.le_of_ble_eq_true rfl⟩ rfl rfl (by decide) hl.1 dX10_arrive_66 ⟨(by decide), (by decide)⟩ (fun H locs hW hS => ?_)
            exact z_etz X hlk hr hW hS h (by decide) (by decide) dX10_arrive_69
          · replace h := it_f h c19
            have nc3 := lv_neT c3 (a := 0) rfl
            have nc7 := lv_neT c7 (a := 1) rfl
            have nc11 := lv_neT c11 (a := 2) rfl
            have nc15 := lv_neT c15 (a := 3) rfl
            have nc19 := lv_neT c19 (a := 4) rfl
            refine lv_tableOut (tgt := 70) hx hb dX10_arrive_4 (by omega) (by decide) ?_
            refine lv_aload_n hx hb dX10_arrive_70 rfl (lv_at hl 0 rfl) ?_
            refine lv_aload_n hx hb dX10_arrive_71 rfl (lv_at hl 1 rfl) ?_
            replace h := b1_some h
            obtain ⟨q23, gq23, h⟩ := h
            replace h := b2_some h
            obtain ⟨x24, s25, gs25, h⟩ := h
            refine z_callVi (rest := []) X hW hS (cX10_arriveBack_met gs25) kb_X10_arriveBack kv_X10_arriveBack kl_X10_343 (it_v gq23).1 kX10 rfl rfl ⟨Nat.le_of_ble_eq_true rfl, Nat.le_of_ble_eq_true rfl⟩ rfl rfl (by decide) hl.1 dX10_arrive_72 ⟨(by decide), (by decide)⟩ (fun H locs hW hS => ?_)
            exact z_etz X hlk hr hW hS h (by decide) (by decide) dX10_arrive_75

set_option maxHeartbeats 4000000 in
set_option maxRecDepth 100000 in
theorem cX10_arrive_met {l : Launch} {A : Nat → Prop} {D : va_G} {cy : Nat → ClassId} {r0 : Int32} {h0 : Hz} {o : Nat} {v1 : Option Nat} {h : Hz} (g : fX10_arrive o v1 h = some (r0, h0)) : Met l yX10_arrive (Cond.code yX10_arrive cX10_arrive 2 (some .boolean) :: wT) ({ frames := 6, cells := 701, slots := 7010, locals := 137 } : Room) (va_Pc [.ref o, va_rf v1] (zS A D cy h)) (va_Qi (fun r1 u => r1 = r0 ∧ u = h0) (zB A D cy) A) 701 7010 A := by
  refine Met.ofW (cc := cX10_arrive) (maxL := 2) (ret := (some .boolean)) (by decide) rfl ?_
  intro p e s m args below meth c s₁ B hml hv
  obtain ⟨rfl, hW, hK, hN, hA⟩ := hv
  have X : zX A D cy p s m _ c cX10_arrive RX10 2 := ⟨B.exec, B.bytes, fun w hw => atoms_spec (ws := Cond.code yX10_arrive cX10_arrive 2 (some .boolean) :: wT) B.pre w (List.mem_cons_of_mem _ hw), findClass_of_methodNamed B.named, hK, hml, hN, hA⟩
  cases v1 with
  | none =>
    have hl := lv_entry [.ref o, va_rf none] (n := 2) (Nat.le_of_ble_eq_true rfl)
    rw [lg_entry_eq]
    generalize (lg_sl [.ref o, va_rf none] ++ List.replicate (2 - (lg_sl [.ref o, va_rf none]).length) Slot.unset).toArray = ls at hl ⊢
    have hl : lv_has ls 2 [(0, .ref o), (1, va_rf none)] := hl
    exact wX10_arrive_0 X B.notSynchronized B.returns o none _ _ _ _ (lv_sub hl [0, 1] rfl) hW va_S.rf g
  | some v1 =>
    have hl := lv_entry [.ref o, va_rf (some v1)] (n := 2) (Nat.le_of_ble_eq_true rfl)
    rw [lg_entry_eq]
    generalize (lg_sl [.ref o, va_rf (some v1)] ++ List.replicate (2 - (lg_sl [.ref o, va_rf (some v1)]).length) Slot.unset).toArray = ls at hl ⊢
    have hl : lv_has ls 2 [(0, .ref o), (1, va_rf (some v1))] := hl
    exact wX10_arrive_0 X B.notSynchronized B.returns o (some v1) _ _ _ _ (lv_sub hl [0, 1] rfl) hW va_S.rf g

theorem dX10_deliver_0 : decode cX10_deliver 0 = .ok (.aload_n 0, 1) := by decide +kernel
theorem dX10_deliver_1 : decode cX10_deliver 1 = .ok (.getfield 19, 3) := by decide +kernel
theorem dX10_deliver_4 : decode cX10_deliver 4 = .ok (.iload_n 1, 1) := by decide +kernel
theorem dX10_deliver_5 : decode cX10_deliver 5 = .ok (.invokevirtual 195, 3) := by decide +kernel
theorem dX10_deliver_8 : decode cX10_deliver 8 = .ok (.astore_n 2, 1) := by decide +kernel
theorem dX10_deliver_9 : decode cX10_deliver 9 = .ok (.aload_n 2, 1) := by decide +kernel
theorem dX10_deliver_10 : decode cX10_deliver 10 = .ok (.ifnonnull 9, 3) := by decide +kernel
theorem dX10_deliver_13 : decode cX10_deliver 13 = .ok (.aload_n 0, 1) := by decide +kernel
theorem dX10_deliver_14 : decode cX10_deliver 14 = .ok (.iconst (-1), 1) := by decide +kernel
theorem dX10_deliver_15 : decode cX10_deliver 15 = .ok (.invokevirtual 77, 3) := by decide +kernel
theorem dX10_deliver_18 : decode cX10_deliver 18 = .ok (.ireturn, 1) := by decide +kernel
theorem dX10_deliver_19 : decode cX10_deliver 19 = .ok (.aload_n 2, 1) := by decide +kernel
theorem dX10_deliver_20 : decode cX10_deliver 20 = .ok (.getfield 198, 3) := by decide +kernel
theorem dX10_deliver_23 : decode cX10_deliver 23 = .ok (.ifCond .ne 15, 3) := by decide +kernel
theorem dX10_deliver_26 : decode cX10_deliver 26 = .ok (.aload_n 0, 1) := by decide +kernel
theorem dX10_deliver_27 : decode cX10_deliver 27 = .ok (.dup, 1) := by decide +kernel
theorem dX10_deliver_28 : decode cX10_deliver 28 = .ok (.getfield 70, 3) := by decide +kernel
theorem dX10_deliver_31 : decode cX10_deliver 31 = .ok (.iconst 1, 1) := by decide +kernel
theorem dX10_deliver_32 : decode cX10_deliver 32 = .ok (.iadd, 1) := by decide +kernel
theorem dX10_deliver_33 : decode cX10_deliver 33 = .ok (.putfield 70, 3) := by decide +kernel
theorem dX10_deliver_36 : decode cX10_deliver 36 = .ok (.iconst 0, 1) := by decide +kernel
theorem dX10_deliver_37 : decode cX10_deliver 37 = .ok (.ireturn, 1) := by decide +kernel
theorem dX10_deliver_38 : decode cX10_deliver 38 = .ok (.aload_n 0, 1) := by decide +kernel
theorem dX10_deliver_39 : decode cX10_deliver 39 = .ok (.aload_n 2, 1) := by decide +kernel
theorem dX10_deliver_40 : decode cX10_deliver 40 = .ok (.invokevirtual 203, 3) := by decide +kernel
theorem dX10_deliver_43 : decode cX10_deliver 43 = .ok (.ifCond .ne 10, 3) := by decide +kernel
theorem dX10_deliver_46 : decode cX10_deliver 46 = .ok (.aload_n 0, 1) := by decide +kernel
theorem dX10_deliver_47 : decode cX10_deliver 47 = .ok (.bipush (-6), 2) := by decide +kernel
theorem dX10_deliver_49 : decode cX10_deliver 49 = .ok (.invokevirtual 77, 3) := by decide +kernel
theorem dX10_deliver_52 : decode cX10_deliver 52 = .ok (.ireturn, 1) := by decide +kernel
theorem dX10_deliver_53 : decode cX10_deliver 53 = .ok (.aload_n 2, 1) := by decide +kernel
theorem dX10_deliver_54 : decode cX10_deliver 54 = .ok (.iconst 0, 1) := by decide +kernel
theorem dX10_deliver_55 : decode cX10_deliver 55 = .ok (.putfield 198, 3) := by decide +kernel
theorem dX10_deliver_58 : decode cX10_deliver 58 = .ok (.iconst 1, 1) := by decide +kernel
theorem dX10_deliver_59 : decode cX10_deliver 59 = .ok (.ireturn, 1) := by decide +kernel
def fX10_deliver (o : Nat) (v1 : Int32) (h : Hz) : Option (Int32 × Hz) := (b1 (gA 10 1 o h) fun a1 => (b1 (tg 2 a1 h) fun _ => (b2 (fX2_find a1 v1 h) fun r3 s4 => (oe r3 ((b1 (tg 10 o s4) fun _ => (b2 (fX10_refuse o (-1) s4) fun x7 s8 => some (x7, s8)))) fun a5 => (b1 (gI 0 9 a5 s4) fun x9 => (if x9 = 0 then (b1 (gI 10 12 o s4) fun x19 => (b1 (pI 10 12 o (x19 + 1) s4) fun s20 => some (0, s20))) else (b1 (tg 10 o s4) fun _ => (b2 (fX10_arrive o (some a5) s4) fun x12 s13 => (if x12 = 0 then (b1 (tg 10 o s13) fun _ => (b2 (fX10_refuse o (-6) s13) fun x17 s18 => some (x17, s18))) else (b1 (pZ 0 9 a5 0 s13) fun s15 => some (1, s15)))))))))))
set_option maxHeartbeats 4000000 in
set_option maxRecDepth 100000 in
theorem wX10_deliver_0 {r0 : Int32} {h0 : Hz} (X : zX A D cy p s m args c cX10_deliver RX10 3) (hlk : meth.locks = false) (hr : meth.sig.returnType = (some .int)) (o : Nat) (v1 : Int32) (h : Hz) (H : Heap) (locs : List Loc) (ls : Array Slot) (hl : lv_has ls 3 [(0, .ref o), (1, .int v1)]) (hW : zW A cy D h H) (hS : va_S A s.heap H locs) (h : fX10_deliver o v1 h = some (r0, h0)) : W p l e ({ frames := 7, cells := 701, slots := 7010, locals := 158 } : Room) s m args below meth c H locs 0 0 (MQ below (va_Qi (fun r1 u => r1 = r0 ∧ u = h0) (zB A D cy) A) args s 701 7010 A) (F0 m 0 ls []) := by
  obtain ⟨hx, hb, hts, hown, hK9, hml, hN9, hA9⟩ := id X
  unfold fX10_deliver at h
  refine lv_aload_n hx hb dX10_deliver_0 rfl (lv_at hl 0 rfl) ?_
  replace h := b1_some h
  obtain ⟨a1, ga1, h⟩ := h
  refine z_getA X hW ga1 kX10 (by decide) (by decide) kf_X10_19 dX10_deliver_1 ?_
  refine lv_iload_n hx hb dX10_deliver_4 rfl (lv_at hl 1 rfl) ?_
  replace h := b1_some h
  obtain ⟨q2, gq2, h⟩ := h
  replace h := b2_some h
  obtain ⟨r3, s4, gs4, h⟩ := h
  refine z_callVq (rest := []) X hW hS (cX2_find_met gs4) kb_X2_find kv_X2_find kl_X10_195 (it_v gq2).1 kX2 rfl rfl ⟨Nat.le_of_ble_eq_true rfl, Nat.le_of_ble_eq_true rfl⟩ rfl rfl (by decide) hl.1 dX10_deliver_5 ⟨(by decide), (by decide)⟩ (fun H locs hW hS => ?_)
  refine z_astore_n (lv' := [(2, va_rf r3), (0, .ref o), (1, .int v1)]) hx hb dX10_deliver_8 rfl hl (by decide) rfl (fun ls hl => ?_)
  refine z_aload_n hx hb dX10_deliver_9 rfl (lv_at hl 0 rfl) ?_
  cases r3 with
  | none =>
    replace h := oe_n h
    have hl : lv_has ls 3 [(2, .null), (0, .ref o), (1, .int v1)] := hl
    refine lv_ifnonnullN hx hb dX10_deliver_10 ?_
    refine lv_aload_n hx hb dX10_deliver_13 rfl (lv_at hl 1 rfl) ?_
    refine lv_iconst (v := (-1)) hx hb dX10_deliver_14 (by decide) ?_
    replace h := b1_some h
    obtain ⟨q6, gq6, h⟩ := h
    replace h := b2_some h
    obtain ⟨x7, s8, gs8, h⟩ := h
    refine z_callVi (rest := []) X hW hS (cX10_refuse_met gs8) kb_X10_refuse kv_X10_refuse kl_X10_77 (it_v gq6).1 kX10 rfl rfl ⟨Nat.le_of_ble_eq_true rfl, Nat.le_of_ble_eq_true rfl⟩ rfl rfl (by decide) hl.1 dX10_deliver_15 ⟨(by decide), (by decide)⟩ (fun H locs hW hS => ?_)
    exact z_eti X hlk hr hW hS h (by decide) (by decide) dX10_deliver_18
  | some a5 =>
    replace h := oe_s h
    have hl : lv_has ls 3 [(2, .ref a5), (0, .ref o), (1, .int v1)] := hl
    refine lv_ifnonnull (tgt := 19) hx hb dX10_deliver_10 (by decide) ?_
    refine lv_aload_n hx hb dX10_deliver_19 rfl (lv_at hl 0 rfl) ?_
    replace h := b1_some h
    obtain ⟨x9, gx9, h⟩ := h
    refine z_getI X hW gx9 kX0 (by decide) (by decide) kf_X10_198 dX10_deliver_20 ?_
    refine lv_if_ne (tgt := 38) hx hb dX10_deliver_23 (by decide) (fun c10 => ?_) (fun c10 => ?_)
    · replace h := it_f h c10
      refine lv_aload_n hx hb dX10_deliver_38 rfl (lv_at hl 1 rfl) ?_
      refine lv_aload_n hx hb dX10_deliver_39 rfl (lv_at hl 0 rfl) ?_
      replace h := b1_some h
      obtain ⟨q11, gq11, h⟩ := h
      replace h := b2_some h
      obtain ⟨x12, s13, gs13, h⟩ := h
      refine z_callVi (rest := []) X hW hS (cX10_arrive_met gs13) kb_X10_arrive kv_X10_arrive kl_X10_203 (it_v gq11).1 kX10 rfl rfl ⟨Nat.le_of_ble_eq_true rfl, Nat.le_of_ble_eq_true rfl⟩ rfl rfl (by decide) hl.1 dX10_deliver_40 ⟨(by decide), (by decide)⟩ (fun H locs hW hS => ?_)
      refine lv_if_ne (tgt := 53) hx hb dX10_deliver_43 (by decide) (fun c14 => ?_) (fun c14 => ?_)
      · replace h := it_f h c14
        refine lv_aload_n hx hb dX10_deliver_53 rfl (lv_at hl 0 rfl) ?_
        refine lv_iconst (v := 0) hx hb dX10_deliver_54 (by decide) ?_
        replace h := b1_some h
        obtain ⟨s15, gs15, h⟩ := h
        refine z_putZ X hW hS gs15 kX0 (by decide) (by decide) rfl (Or.inl rfl) kf_X10_198 dX10_deliver_55 (fun H locs hW hS => ?_)
        refine lv_iconst (v := 1) hx hb dX10_deliver_58 (by decide) ?_
        exact z_eti X hlk hr hW hS h (by decide) (by decide) dX10_deliver_59
      · replace h := it_t h c14
        refine lv_aload_n hx hb dX10_deliver_46 rfl (lv_at hl 1 rfl) ?_
        refine lv_bipush (v := (-6)) hx hb dX10_deliver_47 (by decide) ?_
        replace h := b1_some h
        obtain ⟨q16, gq16, h⟩ := h
        replace h := b2_some h
        obtain ⟨x17, s18, gs18, h⟩ := h
        refine z_callVi (rest := []) X hW hS (cX10_refuse_met gs18) kb_X10_refuse kv_X10_refuse kl_X10_77 (it_v gq16).1 kX10 rfl rfl ⟨Nat.le_of_ble_eq_true rfl, Nat.le_of_ble_eq_true rfl⟩ rfl rfl (by decide) hl.1 dX10_deliver_49 ⟨(by decide), (by decide)⟩ (fun H locs hW hS => ?_)
        exact z_eti X hlk hr hW hS h (by decide) (by decide) dX10_deliver_52
    · replace h := it_t h c10
      refine lv_aload_n hx hb dX10_deliver_26 rfl (lv_at hl 1 rfl) ?_
      refine lv_dup hx hb dX10_deliver_27 rfl ?_
      replace h := b1_some h
      obtain ⟨x19, gx19, h⟩ := h
      refine z_getI X hW gx19 kX10 (by decide) (by decide) kf_X10_70 dX10_deliver_28 ?_
      refine lv_iconst (v := 1) hx hb dX10_deliver_31 (by decide) ?_
      refine lv_iadd hx hb dX10_deliver_32 ?_
      replace h := b1_some h
      obtain ⟨s20, gs20, h⟩ := h
      refine z_putI X hW hS gs20 kX10 (by decide) (by decide) rfl (Or.inl rfl) kf_X10_70 dX10_deliver_33 (fun H locs hW hS => ?_)
      refine lv_iconst (v := 0) hx hb dX10_deliver_36 (by decide) ?_
      exact z_eti X hlk hr hW hS h (by decide) (by decide) dX10_deliver_37

set_option maxHeartbeats 4000000 in
set_option maxRecDepth 100000 in
theorem cX10_deliver_met {l : Launch} {A : Nat → Prop} {D : va_G} {cy : Nat → ClassId} {r0 : Int32} {h0 : Hz} {o : Nat} {v1 : Int32} {h : Hz} (g : fX10_deliver o v1 h = some (r0, h0)) : Met l yX10_deliver (Cond.code yX10_deliver cX10_deliver 3 (some .int) :: wT) ({ frames := 7, cells := 701, slots := 7010, locals := 158 } : Room) (va_Pc [.ref o, .int v1] (zS A D cy h)) (va_Qi (fun r1 u => r1 = r0 ∧ u = h0) (zB A D cy) A) 701 7010 A := by
  refine Met.ofW (cc := cX10_deliver) (maxL := 3) (ret := (some .int)) (by decide) rfl ?_
  intro p e s m args below meth c s₁ B hml hv
  obtain ⟨rfl, hW, hK, hN, hA⟩ := hv
  have X : zX A D cy p s m _ c cX10_deliver RX10 3 := ⟨B.exec, B.bytes, fun w hw => atoms_spec (ws := Cond.code yX10_deliver cX10_deliver 3 (some .int) :: wT) B.pre w (List.mem_cons_of_mem _ hw), findClass_of_methodNamed B.named, hK, hml, hN, hA⟩
  have hl := lv_entry [.ref o, .int v1] (n := 3) (Nat.le_of_ble_eq_true rfl)
  rw [lg_entry_eq]
  generalize (lg_sl [.ref o, .int v1] ++ List.replicate (3 - (lg_sl [.ref o, .int v1]).length) Slot.unset).toArray = ls at hl ⊢
  have hl : lv_has ls 3 [(0, .ref o), (1, .int v1)] := hl
  exact wX10_deliver_0 X B.notSynchronized B.returns o v1 _ _ _ _ (lv_sub hl [0, 1] rfl) hW va_S.rf g

theorem dX10_letter_0 : decode cX10_letter 0 = .ok (.aload_n 0, 1) := by decide +kernel
theorem dX10_letter_1 : decode cX10_letter 1 = .ok (.getfield 19, 3) := by decide +kernel
theorem dX10_letter_4 : decode cX10_letter 4 = .ok (.iload_n 1, 1) := by decide +kernel
theorem dX10_letter_5 : decode cX10_letter 5 = .ok (.invokevirtual 195, 3) := by decide +kernel
theorem dX10_letter_8 : decode cX10_letter 8 = .ok (.astore_n 3, 1) := by decide +kernel
theorem dX10_letter_9 : decode cX10_letter 9 = .ok (.aload_n 3, 1) := by decide +kernel
theorem dX10_letter_10 : decode cX10_letter 10 = .ok (.ifnonnull 5, 3) := by decide +kernel
theorem dX10_letter_13 : decode cX10_letter 13 = .ok (.iconst (-1), 1) := by decide +kernel
theorem dX10_letter_14 : decode cX10_letter 14 = .ok (.ireturn, 1) := by decide +kernel
theorem dX10_letter_15 : decode cX10_letter 15 = .ok (.iload_n 2, 1) := by decide +kernel
theorem dX10_letter_16 : decode cX10_letter 16 = .ok (.tableswitch 145 0 9 #[56, 61, 74, 79, 84, 92, 97, 116, 121, 140], 56) := by decide +kernel
theorem dX10_letter_72 : decode cX10_letter 72 = .ok (.aload_n 3, 1) := by decide +kernel
theorem dX10_letter_73 : decode cX10_letter 73 = .ok (.getfield 207, 3) := by decide +kernel
theorem dX10_letter_76 : decode cX10_letter 76 = .ok (.ireturn, 1) := by decide +kernel
theorem dX10_letter_77 : decode cX10_letter 77 = .ok (.aload_n 3, 1) := by decide +kernel
theorem dX10_letter_78 : decode cX10_letter 78 = .ok (.getfield 198, 3) := by decide +kernel
theorem dX10_letter_81 : decode cX10_letter 81 = .ok (.ifCond .eq 7, 3) := by decide +kernel
theorem dX10_letter_84 : decode cX10_letter 84 = .ok (.iconst 1, 1) := by decide +kernel
theorem dX10_letter_85 : decode cX10_letter 85 = .ok (.goto 4, 3) := by decide +kernel
theorem dX10_letter_88 : decode cX10_letter 88 = .ok (.iconst 0, 1) := by decide +kernel
theorem dX10_letter_89 : decode cX10_letter 89 = .ok (.ireturn, 1) := by decide +kernel
theorem dX10_letter_90 : decode cX10_letter 90 = .ok (.aload_n 3, 1) := by decide +kernel
theorem dX10_letter_91 : decode cX10_letter 91 = .ok (.getfield 208, 3) := by decide +kernel
theorem dX10_letter_94 : decode cX10_letter 94 = .ok (.ireturn, 1) := by decide +kernel
theorem dX10_letter_95 : decode cX10_letter 95 = .ok (.aload_n 3, 1) := by decide +kernel
theorem dX10_letter_96 : decode cX10_letter 96 = .ok (.getfield 211, 3) := by decide +kernel
theorem dX10_letter_99 : decode cX10_letter 99 = .ok (.ireturn, 1) := by decide +kernel
theorem dX10_letter_100 : decode cX10_letter 100 = .ok (.aload_n 3, 1) := by decide +kernel
theorem dX10_letter_101 : decode cX10_letter 101 = .ok (.getfield 214, 3) := by decide +kernel
theorem dX10_letter_104 : decode cX10_letter 104 = .ok (.getfield 89, 3) := by decide +kernel
theorem dX10_letter_107 : decode cX10_letter 107 = .ok (.ireturn, 1) := by decide +kernel
theorem dX10_letter_108 : decode cX10_letter 108 = .ok (.aload_n 3, 1) := by decide +kernel
theorem dX10_letter_109 : decode cX10_letter 109 = .ok (.getfield 217, 3) := by decide +kernel
theorem dX10_letter_112 : decode cX10_letter 112 = .ok (.ireturn, 1) := by decide +kernel
theorem dX10_letter_113 : decode cX10_letter 113 = .ok (.aload_n 3, 1) := by decide +kernel
theorem dX10_letter_114 : decode cX10_letter 114 = .ok (.getfield 218, 3) := by decide +kernel
theorem dX10_letter_117 : decode cX10_letter 117 = .ok (.ifnonnull 7, 3) := by decide +kernel
theorem dX10_letter_120 : decode cX10_letter 120 = .ok (.iconst (-1), 1) := by decide +kernel
theorem dX10_letter_121 : decode cX10_letter 121 = .ok (.goto 10, 3) := by decide +kernel
theorem dX10_letter_124 : decode cX10_letter 124 = .ok (.aload_n 3, 1) := by decide +kernel
theorem dX10_letter_125 : decode cX10_letter 125 = .ok (.getfield 218, 3) := by decide +kernel
theorem dX10_letter_128 : decode cX10_letter 128 = .ok (.getfield 89, 3) := by decide +kernel
theorem dX10_letter_131 : decode cX10_letter 131 = .ok (.ireturn, 1) := by decide +kernel
theorem dX10_letter_132 : decode cX10_letter 132 = .ok (.aload_n 3, 1) := by decide +kernel
theorem dX10_letter_133 : decode cX10_letter 133 = .ok (.getfield 221, 3) := by decide +kernel
theorem dX10_letter_136 : decode cX10_letter 136 = .ok (.ireturn, 1) := by decide +kernel
theorem dX10_letter_137 : decode cX10_letter 137 = .ok (.aload_n 3, 1) := by decide +kernel
theorem dX10_letter_138 : decode cX10_letter 138 = .ok (.getfield 224, 3) := by decide +kernel
theorem dX10_letter_141 : decode cX10_letter 141 = .ok (.ifnonnull 7, 3) := by decide +kernel
theorem dX10_letter_144 : decode cX10_letter 144 = .ok (.iconst (-1), 1) := by decide +kernel
theorem dX10_letter_145 : decode cX10_letter 145 = .ok (.goto 10, 3) := by decide +kernel
theorem dX10_letter_148 : decode cX10_letter 148 = .ok (.aload_n 3, 1) := by decide +kernel
theorem dX10_letter_149 : decode cX10_letter 149 = .ok (.getfield 224, 3) := by decide +kernel
theorem dX10_letter_152 : decode cX10_letter 152 = .ok (.getfield 228, 3) := by decide +kernel
theorem dX10_letter_155 : decode cX10_letter 155 = .ok (.ireturn, 1) := by decide +kernel
theorem dX10_letter_156 : decode cX10_letter 156 = .ok (.aload_n 3, 1) := by decide +kernel
theorem dX10_letter_157 : decode cX10_letter 157 = .ok (.getfield 229, 3) := by decide +kernel
theorem dX10_letter_160 : decode cX10_letter 160 = .ok (.ireturn, 1) := by decide +kernel
theorem dX10_letter_161 : decode cX10_letter 161 = .ok (.iconst (-1), 1) := by decide +kernel
theorem dX10_letter_162 : decode cX10_letter 162 = .ok (.ireturn, 1) := by decide +kernel
def fX10_letter (o : Nat) (v1 : Int32) (v2 : Int32) (h : Hz) : Option (Int32 × Hz) := (b1 (gA 10 1 o h) fun a1 => (b1 (tg 2 a1 h) fun _ => (b2 (fX2_find a1 v1 h) fun r3 s4 => (oe r3 (some ((-1), s4)) fun a5 => (if v2 = 0 then (b1 (gI 0 0 a5 s4) fun x7 => some (x7, s4)) else (if v2 = 1 then (b1 (gI 0 9 a5 s4) fun x9 => (if x9 = 0 then some (0, s4) else some (1, s4))) else (if v2 = 2 then (b1 (gI 0 2 a5 s4) fun x12 => some (x12, s4)) else (if v2 = 3 then (b1 (gI 0 1 a5 s4) fun x14 => some (x14, s4)) else (if v2 = 4 then (b1 (gA 0 3 a5 s4) fun a16 => (b1 (gI 5 0 a16 s4) fun x17 => some (x17, s4))) else (if v2 = 5 then (b1 (gI 0 4 a5 s4) fun x19 => some (x19, s4)) else (if v2 = 6 then (b1 (gP 0 5 a5 s4) fun r21 => (oe r21 (some ((-1), s4)) fun a22 => (b1 (gP 0 5 a5 s4) fun r23 => b1 r23 fun a24 => (b1 (gI 5 0 a24 s4) fun x25 => some (x25, s4))))) else (if v2 = 7 then (b1 (gI 0 6 a5 s4) fun x27 => some (x27, s4)) else (if v2 = 8 then (b1 (gP 0 7 a5 s4) fun r29 => (oe r29 (some ((-1), s4)) fun a30 => (b1 (gP 0 7 a5 s4) fun r31 => b1 r31 fun a32 => (b1 (gI 9 0 a32 s4) fun x33 => some (x33, s4))))) else (if v2 = 9 then (b1 (gI 0 8 a5 s4) fun x35 => some (x35, s4)) else some ((-1), s4)))))))))))))))
set_option maxHeartbeats 4000000 in
set_option maxRecDepth 100000 in
theorem wX10_letter_0 {r0 : Int32} {h0 : Hz} (X : zX A D cy p s m args c cX10_letter RX10 4) (hlk : meth.locks = false) (hr : meth.sig.returnType = (some .int)) (o : Nat) (v1 : Int32) (v2 : Int32) (h : Hz) (H : Heap) (locs : List Loc) (ls : Array Slot) (hl : lv_has ls 4 [(0, .ref o), (1, .int v1), (2, .int v2)]) (hW : zW A cy D h H) (hS : va_S A s.heap H locs) (h : fX10_letter o v1 v2 h = some (r0, h0)) : W p l e ({ frames := 1, cells := 0, slots := 0, locals := 21 } : Room) s m args below meth c H locs 0 0 (MQ below (va_Qi (fun r1 u => r1 = r0 ∧ u = h0) (zB A D cy) A) args s 0 0 A) (F0 m 0 ls []) := by
  obtain ⟨hx, hb, hts, hown, hK9, hml, hN9, hA9⟩ := id X
  unfold fX10_letter at h
  refine lv_aload_n hx hb dX10_letter_0 rfl (lv_at hl 0 rfl) ?_
  replace h := b1_some h
  obtain ⟨a1, ga1, h⟩ := h
  refine z_getA X hW ga1 kX10 (by decide) (by decide) kf_X10_19 dX10_letter_1 ?_
  refine lv_iload_n hx hb dX10_letter_4 rfl (lv_at hl 1 rfl) ?_
  replace h := b1_some h
  obtain ⟨q2, gq2, h⟩ := h
  replace h := b2_some h
  obtain ⟨r3, s4, gs4, h⟩ := h
  refine z_callVq (rest := []) X hW hS (cX2_find_met gs4) kb_X2_find kv_X2_find kl_X10_195 (it_v gq2).1 kX2 rfl rfl ⟨Nat.le_of_ble_eq_true rfl, Nat.le_of_ble_eq_true rfl⟩ rfl rfl (by decide) hl.1 dX10_letter_5 ⟨(by decide), (by decide)⟩ (fun H locs hW hS => ?_)
  refine z_astore_n (lv' := [(3, va_rf r3), (0, .ref o), (1, .int v1), (2, .int v2)]) hx hb dX10_letter_8 rfl hl (by decide) rfl (fun ls hl => ?_)
  refine z_aload_n hx hb dX10_letter_9 rfl (lv_at hl 0 rfl) ?_
  cases r3 with
  | none =>
    replace h := oe_n h
    have hl : lv_has ls 4 [(3, .null), (0, .ref o), (1, .int v1), (2, .int v2)] := hl
    refine lv_ifnonnullN hx hb dX10_letter_10 ?_
    refine lv_iconst (v := (-1)) hx hb dX10_letter_13 (by decide) ?_
    exact z_eti X hlk hr hW hS h (by decide) (by decide) dX10_letter_14
  | some a5 =>
    replace h := oe_s h
    have hl : lv_has ls 4 [(3, .ref a5), (0, .ref o), (1, .int v1), (2, .int v2)] := hl
    refine lv_ifnonnull (tgt := 15) hx hb dX10_letter_10 (by decide) ?_
    refine lv_iload_n hx hb dX10_letter_15 rfl (lv_at hl 3 rfl) ?_
    by_cases c6 : v2 = 0
    · replace h := it_t h c6
      refine lv_tableIn (off := 56) (tgt := 72) hx hb dX10_letter_16 (by rw [c6]; decide) (by rw [c6]; decide) (by rw [c6]; rfl) (by decide) ?_
      refine lv_aload_n hx hb dX10_letter_72 rfl (lv_at hl 0 rfl) ?_
      replace h := b1_some h
      obtain ⟨x7, gx7, h⟩ := h
      refine z_getI X hW gx7 kX0 (by decide) (by decide) kf_X10_207 dX10_letter_73 ?_
      exact z_eti X hlk hr hW hS h (by decide) (by decide) dX10_letter_76
    · replace h := it_f h c6
      by_cases c8 : v2 = 1
      · replace h := it_t h c8
        refine lv_tableIn (off := 61) (tgt := 77) hx hb dX10_letter_16 (by rw [c8]; decide) (by rw [c8]; decide) (by rw [c8]; rfl) (by decide) ?_
        refine lv_aload_n hx hb dX10_letter_77 rfl (lv_at hl 0 rfl) ?_
        replace h := b1_some h
        obtain ⟨x9, gx9, h⟩ := h
        refine z_getI X hW gx9 kX0 (by decide) (by decide) kf_X10_198 dX10_letter_78 ?_
        refine lv_if_eq (tgt := 88) hx hb dX10_letter_81 (by decide) (fun c10 => ?_) (fun c10 => ?_)
        · replace h := it_t h c10
          refine lv_iconst (v := 0) hx hb dX10_letter_88 (by decide) ?_
          exact z_eti X hlk hr hW hS h (by decide) (by decide) dX10_letter_89
        · replace h := it_f h c10
          refine lv_iconst (v := 1) hx hb dX10_letter_84 (by decide) ?_
          refine lv_goto (tgt := 89) hx hb dX10_letter_85 (by decide) ?_
          exact z_eti X hlk hr hW hS h (by decide) (by decide) dX10_letter_89
      · replace h := it_f h c8
        by_cases c11 : v2 = 2
        · replace h := it_t h c11
          refine lv_tableIn (off := 74) (tgt := 90) hx hb dX10_letter_16 (by rw [c11]; decide) (by rw [c11]; decide) (by rw [c11]; rfl) (by decide) ?_
          refine lv_aload_n hx hb dX10_letter_90 rfl (lv_at hl 0 rfl) ?_
          replace h := b1_some h
          obtain ⟨x12, gx12, h⟩ := h
          refine z_getI X hW gx12 kX0 (by decide) (by decide) kf_X10_208 dX10_letter_91 ?_
          exact z_eti X hlk hr hW hS h (by decide) (by decide) dX10_letter_94
        · replace h := it_f h c11
          by_cases c13 : v2 = 3
          · replace h := it_t h c13
            refine lv_tableIn (off := 79) (tgt := 95) hx hb dX10_letter_16 (by rw [c13]; decide) (by rw [c13]; decide) (by rw [c13]; rfl) (by decide) ?_
            refine lv_aload_n hx hb dX10_letter_95 rfl (lv_at hl 0 rfl) ?_
            replace h := b1_some h
            obtain ⟨x14, gx14, h⟩ := h
            refine z_getI X hW gx14 kX0 (by decide) (by decide) kf_X10_211 dX10_letter_96 ?_
            exact z_eti X hlk hr hW hS h (by decide) (by decide) dX10_letter_99
          · replace h := it_f h c13
            by_cases c15 : v2 = 4
            · replace h := it_t h c15
              refine lv_tableIn (off := 84) (tgt := 100) hx hb dX10_letter_16 (by rw [c15]; decide) (by rw [c15]; decide) (by rw [c15]; rfl) (by decide) ?_
              refine lv_aload_n hx hb dX10_letter_100 rfl (lv_at hl 0 rfl) ?_
              replace h := b1_some h
              obtain ⟨a16, ga16, h⟩ := h
              refine z_getA X hW ga16 kX0 (by decide) (by decide) kf_X10_214 dX10_letter_101 ?_
              replace h := b1_some h
              obtain ⟨x17, gx17, h⟩ := h
              refine z_getI X hW gx17 kX5 (by decide) (by decide) kf_X10_89 dX10_letter_104 ?_
              exact z_eti X hlk hr hW hS h (by decide) (by decide) dX10_letter_107
            · replace h := it_f h c15
              by_cases c18 : v2 = 5
              · replace h := it_t h c18
                refine lv_tableIn (off := 92) (tgt := 108) hx hb dX10_letter_16 (by rw [c18]; decide) (by rw [c18]; decide) (by rw [c18]; rfl) (by decide) ?_
                refine lv_aload_n hx hb dX10_letter_108 rfl (lv_at hl 0 rfl) ?_
                replace h := b1_some h
                obtain ⟨x19, gx19, h⟩ := h
                refine z_getI X hW gx19 kX0 (by decide) (by decide) kf_X10_217 dX10_letter_109 ?_
                exact z_eti X hlk hr hW hS h (by decide) (by decide) dX10_letter_112
              · replace h := it_f h c18
                by_cases c20 : v2 = 6
                · replace h := it_t h c20
                  refine lv_tableIn (off := 97) (tgt := 113) hx hb dX10_letter_16 (by rw [c20]; decide) (by rw [c20]; decide) (by rw [c20]; rfl) (by decide) ?_
                  refine lv_aload_n hx hb dX10_letter_113 rfl (lv_at hl 0 rfl) ?_
                  replace h := b1_some h
                  obtain ⟨r21, gr21, h⟩ := h
                  refine z_getP X hW gr21 kX0 (by decide) (by decide) kf_X10_218 dX10_letter_114 ?_
                  cases r21 with
                  | none =>
                    replace h := oe_n h
                    have hl : lv_has ls 4 [(3, .ref a5), (0, .ref o), (1, .int v1), (2, .int v2)] := hl
                    refine lv_ifnonnullN hx hb dX10_letter_117 ?_
                    refine lv_iconst (v := (-1)) hx hb dX10_letter_120 (by decide) ?_
                    refine lv_goto (tgt := 131) hx hb dX10_letter_121 (by decide) ?_
                    exact z_eti X hlk hr hW hS h (by decide) (by decide) dX10_letter_131
                  | some a22 =>
                    replace h := oe_s h
                    have hl : lv_has ls 4 [(3, .ref a5), (0, .ref o), (1, .int v1), (2, .int v2)] := hl
                    refine lv_ifnonnull (tgt := 124) hx hb dX10_letter_117 (by decide) ?_
                    refine lv_aload_n hx hb dX10_letter_124 rfl (lv_at hl 0 rfl) ?_
                    replace h := b1_some h
                    obtain ⟨r23, gr23, h⟩ := h
                    refine z_getP X hW gr23 kX0 (by decide) (by decide) kf_X10_218 dX10_letter_125 ?_
                    replace h := b1_some h
                    obtain ⟨a24, ea24, h⟩ := h
                    subst ea24
                    replace h := b1_some h
                    obtain ⟨x25, gx25, h⟩ := h
                    refine z_getI X hW gx25 kX5 (by decide) (by decide) kf_X10_89 dX10_letter_128 ?_
                    exact z_eti X hlk hr hW hS h (by decide) (by decide) dX10_letter_131
                · replace h := it_f h c20
                  by_cases c26 : v2 = 7
                  · replace h := it_t h c26
                    refine lv_tableIn (off := 116) (tgt := 132) hx hb dX10_letter_16 (by rw [c26]; decide) (by rw [c26]; decide) (by rw [c26]; rfl) (by decide) ?_
                    refine lv_aload_n hx hb dX10_letter_132 rfl (lv_at hl 0 rfl) ?_
                    replace h := b1_some h
                    obtain ⟨x27, gx27, h⟩ := h
                    refine z_getI X hW gx27 kX0 (by decide) (by decide) kf_X10_221 dX10_letter_133 ?_
                    exact z_eti X hlk hr hW hS h (by decide) (by decide) dX10_letter_136
                  · replace h := it_f h c26
                    by_cases c28 : v2 = 8
                    · replace h := it_t h c28
                      refine lv_tableIn (off := 121) (tgt := 137) hx hb dX10_letter_16 (by rw [c28]; decide) (by rw [c28]; decide) (by rw [c28]; rfl) (by decide) ?_
                      refine lv_aload_n hx hb dX10_letter_137 rfl (lv_at hl 0 rfl) ?_
                      replace h := b1_some h
                      obtain ⟨r29, gr29, h⟩ := h
                      refine z_getP X hW gr29 kX0 (by decide) (by decide) kf_X10_224 dX10_letter_138 ?_
                      cases r29 with
                      | none =>
                        replace h := oe_n h
                        have hl : lv_has ls 4 [(3, .ref a5), (0, .ref o), (1, .int v1), (2, .int v2)] := hl
                        refine lv_ifnonnullN hx hb dX10_letter_141 ?_
                        refine lv_iconst (v := (-1)) hx hb dX10_letter_144 (by decide) ?_
                        refine lv_goto (tgt := 155) hx hb dX10_letter_145 (by decide) ?_
                        exact z_eti X hlk hr hW hS h (by decide) (by decide) dX10_letter_155
                      | some a30 =>
                        replace h := oe_s h
                        have hl : lv_has ls 4 [(3, .ref a5), (0, .ref o), (1, .int v1), (2, .int v2)] := hl
                        refine lv_ifnonnull (tgt := 148) hx hb dX10_letter_141 (by decide) ?_
                        refine lv_aload_n hx hb dX10_letter_148 rfl (lv_at hl 0 rfl) ?_
                        replace h := b1_some h
                        obtain ⟨r31, gr31, h⟩ := h
                        refine z_getP X hW gr31 kX0 (by decide) (by decide) kf_X10_224 dX10_letter_149 ?_
                        replace h := b1_some h
                        obtain ⟨a32, ea32, h⟩ := h
                        subst ea32
                        replace h := b1_some h
                        obtain ⟨x33, gx33, h⟩ := h
                        refine z_getI X hW gx33 kX9 (by decide) (by decide) kf_X10_228 dX10_letter_152 ?_
                        exact z_eti X hlk hr hW hS h (by decide) (by decide) dX10_letter_155
                    · replace h := it_f h c28
                      by_cases c34 : v2 = 9
                      · replace h := it_t h c34
                        refine lv_tableIn (off := 140) (tgt := 156) hx hb dX10_letter_16 (by rw [c34]; decide) (by rw [c34]; decide) (by rw [c34]; rfl) (by decide) ?_
                        refine lv_aload_n hx hb dX10_letter_156 rfl (lv_at hl 0 rfl) ?_
                        replace h := b1_some h
                        obtain ⟨x35, gx35, h⟩ := h
                        refine z_getI X hW gx35 kX0 (by decide) (by decide) kf_X10_229 dX10_letter_157 ?_
                        exact z_eti X hlk hr hW hS h (by decide) (by decide) dX10_letter_160
                      · replace h := it_f h c34
                        have nc6 := lv_neT c6 (a := 0) rfl
                        have nc8 := lv_neT c8 (a := 1) rfl
                        have nc11 := lv_neT c11 (a := 2) rfl
                        have nc13 := lv_neT c13 (a := 3) rfl
                        have nc15 := lv_neT c15 (a := 4) rfl
                        have nc18 := lv_neT c18 (a := 5) rfl
                        have nc20 := lv_neT c20 (a := 6) rfl
                        have nc26 := lv_neT c26 (a := 7) rfl
                        have nc28 := lv_neT c28 (a := 8) rfl
                        have nc34 := lv_neT c34 (a := 9) rfl
                        refine lv_tableOut (tgt := 161) hx hb dX10_letter_16 (by omega) (by decide) ?_
                        refine lv_iconst (v := (-1)) hx hb dX10_letter_161 (by decide) ?_
                        exact z_eti X hlk hr hW hS h (by decide) (by decide) dX10_letter_162

set_option maxHeartbeats 4000000 in
set_option maxRecDepth 100000 in
theorem cX10_letter_met {l : Launch} {A : Nat → Prop} {D : va_G} {cy : Nat → ClassId} {r0 : Int32} {h0 : Hz} {o : Nat} {v1 : Int32} {v2 : Int32} {h : Hz} (g : fX10_letter o v1 v2 h = some (r0, h0)) : Met l yX10_letter (Cond.code yX10_letter cX10_letter 4 (some .int) :: wT) ({ frames := 1, cells := 0, slots := 0, locals := 21 } : Room) (va_Pc [.ref o, .int v1, .int v2] (zS A D cy h)) (va_Qi (fun r1 u => r1 = r0 ∧ u = h0) (zB A D cy) A) 0 0 A := by
  refine Met.ofW (cc := cX10_letter) (maxL := 4) (ret := (some .int)) (by decide) rfl ?_
  intro p e s m args below meth c s₁ B hml hv
  obtain ⟨rfl, hW, hK, hN, hA⟩ := hv
  have X : zX A D cy p s m _ c cX10_letter RX10 4 := ⟨B.exec, B.bytes, fun w hw => atoms_spec (ws := Cond.code yX10_letter cX10_letter 4 (some .int) :: wT) B.pre w (List.mem_cons_of_mem _ hw), findClass_of_methodNamed B.named, hK, hml, hN, hA⟩
  have hl := lv_entry [.ref o, .int v1, .int v2] (n := 4) (Nat.le_of_ble_eq_true rfl)
  rw [lg_entry_eq]
  generalize (lg_sl [.ref o, .int v1, .int v2] ++ List.replicate (4 - (lg_sl [.ref o, .int v1, .int v2]).length) Slot.unset).toArray = ls at hl ⊢
  have hl : lv_has ls 4 [(0, .ref o), (1, .int v1), (2, .int v2)] := hl
  exact wX10_letter_0 X B.notSynchronized B.returns o v1 v2 _ _ _ _ (lv_sub hl [0, 1, 2] rfl) hW va_S.rf g

theorem dX10_findKept_0 : decode cX10_findKept 0 = .ok (.aload_n 0, 1) := by decide +kernel
theorem dX10_findKept_1 : decode cX10_findKept 1 = .ok (.getfield 49, 3) := by decide +kernel
theorem dX10_findKept_4 : decode cX10_findKept 4 = .ok (.invokevirtual 305, 3) := by decide +kernel
theorem dX10_findKept_7 : decode cX10_findKept 7 = .ok (.iconst 0, 1) := by decide +kernel
theorem dX10_findKept_8 : decode cX10_findKept 8 = .ok (.istore_n 2, 1) := by decide +kernel
theorem dX10_findKept_9 : decode cX10_findKept 9 = .ok (.iload_n 2, 1) := by decide +kernel
theorem dX10_findKept_10 : decode cX10_findKept 10 = .ok (.aload_n 0, 1) := by decide +kernel
theorem dX10_findKept_11 : decode cX10_findKept 11 = .ok (.getfield 10, 3) := by decide +kernel
theorem dX10_findKept_14 : decode cX10_findKept 14 = .ok (.invokevirtual 241, 3) := by decide +kernel
theorem dX10_findKept_17 : decode cX10_findKept 17 = .ok (.if_icmp .ge 68, 3) := by decide +kernel
theorem dX10_findKept_20 : decode cX10_findKept 20 = .ok (.aload_n 0, 1) := by decide +kernel
theorem dX10_findKept_21 : decode cX10_findKept 21 = .ok (.getfield 10, 3) := by decide +kernel
theorem dX10_findKept_24 : decode cX10_findKept 24 = .ok (.iload_n 2, 1) := by decide +kernel
theorem dX10_findKept_25 : decode cX10_findKept 25 = .ok (.invokevirtual 94, 3) := by decide +kernel
theorem dX10_findKept_28 : decode cX10_findKept 28 = .ok (.astore_n 3, 1) := by decide +kernel
theorem dX10_findKept_29 : decode cX10_findKept 29 = .ok (.aload_n 3, 1) := by decide +kernel
theorem dX10_findKept_30 : decode cX10_findKept 30 = .ok (.ifnull 49, 3) := by decide +kernel
theorem dX10_findKept_33 : decode cX10_findKept 33 = .ok (.aload_n 3, 1) := by decide +kernel
theorem dX10_findKept_34 : decode cX10_findKept 34 = .ok (.getfield 109, 3) := by decide +kernel
theorem dX10_findKept_37 : decode cX10_findKept 37 = .ok (.iload_n 1, 1) := by decide +kernel
theorem dX10_findKept_38 : decode cX10_findKept 38 = .ok (.if_icmp .eq 6, 3) := by decide +kernel
theorem dX10_findKept_41 : decode cX10_findKept 41 = .ok (.goto 38, 3) := by decide +kernel
theorem dX10_findKept_44 : decode cX10_findKept 44 = .ok (.aload_n 3, 1) := by decide +kernel
theorem dX10_findKept_45 : decode cX10_findKept 45 = .ok (.getfield 173, 3) := by decide +kernel
theorem dX10_findKept_48 : decode cX10_findKept 48 = .ok (.iconst 2, 1) := by decide +kernel
theorem dX10_findKept_49 : decode cX10_findKept 49 = .ok (.if_icmp .eq 22, 3) := by decide +kernel
theorem dX10_findKept_52 : decode cX10_findKept 52 = .ok (.aload_n 3, 1) := by decide +kernel
theorem dX10_findKept_53 : decode cX10_findKept 53 = .ok (.invokevirtual 251, 3) := by decide +kernel
theorem dX10_findKept_56 : decode cX10_findKept 56 = .ok (.ifCond .ne 15, 3) := by decide +kernel
theorem dX10_findKept_59 : decode cX10_findKept 59 = .ok (.aload_n 0, 1) := by decide +kernel
theorem dX10_findKept_60 : decode cX10_findKept 60 = .ok (.getfield 26, 3) := by decide +kernel
theorem dX10_findKept_63 : decode cX10_findKept 63 = .ok (.aload_n 3, 1) := by decide +kernel
theorem dX10_findKept_64 : decode cX10_findKept 64 = .ok (.invokevirtual 353, 3) := by decide +kernel
theorem dX10_findKept_67 : decode cX10_findKept 67 = .ok (.iconst (-1), 1) := by decide +kernel
theorem dX10_findKept_68 : decode cX10_findKept 68 = .ok (.if_icmp .eq 11, 3) := by decide +kernel
theorem dX10_findKept_71 : decode cX10_findKept 71 = .ok (.aload_n 0, 1) := by decide +kernel
theorem dX10_findKept_72 : decode cX10_findKept 72 = .ok (.getfield 49, 3) := by decide +kernel
theorem dX10_findKept_75 : decode cX10_findKept 75 = .ok (.aload_n 3, 1) := by decide +kernel
theorem dX10_findKept_76 : decode cX10_findKept 76 = .ok (.invokevirtual 314, 3) := by decide +kernel
theorem dX10_findKept_79 : decode cX10_findKept 79 = .ok (.iinc 2 1, 3) := by decide +kernel
theorem dX10_findKept_82 : decode cX10_findKept 82 = .ok (.goto (-73), 3) := by decide +kernel
theorem dX10_findKept_85 : decode cX10_findKept 85 = .ok (.aload_n 0, 1) := by decide +kernel
theorem dX10_findKept_86 : decode cX10_findKept 86 = .ok (.getfield 49, 3) := by decide +kernel
theorem dX10_findKept_89 : decode cX10_findKept 89 = .ok (.invokevirtual 311, 3) := by decide +kernel
theorem dX10_findKept_92 : decode cX10_findKept 92 = .ok (.return_, 1) := by decide +kernel
def fX10_findKept_71 (K9 : Nat → Int32 → Int32 → Hz → Option (Unit × Hz)) (o : Nat) (v1 : Int32) (v2 : Int32) (v3 : Nat) (h : Hz) : Option (Unit × Hz) := (b1 (gA 10 7 o h) fun a1 => (b1 (tg 3 a1 h) fun _ => (b2 (fX3_add a1 (some v3) h) fun _ s4 => K9 o v1 (v2 + 1) s4)))
set_option maxHeartbeats 4000000 in
set_option maxRecDepth 100000 in
theorem wX10_findKept_71 {r0 : Unit} {h0 : Hz} (X : zX A D cy p s m args c cX10_findKept RX10 4) (hlk : meth.locks = false) (hr : meth.sig.returnType = none) {K9 : Nat → Int32 → Int32 → Hz → Option (Unit × Hz)} (hK9 : ∀ (o : Nat) (u1 : Int32) (u2 : Int32) (h : Hz) (H : Heap) (locs : List Loc) (ls : Array Slot), lv_has ls 4 [(0, .ref o), (1, .int u1), (2, .int u2)] → zW A cy D h H → va_S A s.heap H locs → K9 o u1 u2 h = some (r0, h0) → W p l e ({ frames := 4, cells := 0, slots := 0, locals := 87 } : Room) s m args below meth c H locs 0 0 (MQ below (va_Qv (fun u => u = h0) (zB A D cy) A) args s 0 0 A) (F0 m 9 ls [])) (o : Nat) (v1 : Int32) (v2 : Int32) (v3 : Nat) (h : Hz) (H : Heap) (locs : List Loc) (ls : Array Slot) (hl : lv_has ls 4 [(0, .ref o), (1, .int v1), (2, .int v2), (3, .ref v3)]) (hW : zW A cy D h H) (hS : va_S A s.heap H locs) (h : fX10_findKept_71 K9 o v1 v2 v3 h = some (r0, h0)) : W p l e ({ frames := 4, cells := 0, slots := 0, locals := 87 } : Room) s m args below meth c H locs 0 0 (MQ below (va_Qv (fun u => u = h0) (zB A D cy) A) args s 0 0 A) (F0 m 71 ls []) := by
  obtain ⟨hx, hb, hts, hown, hKx, hml, hN9, hA9⟩ := id X
  unfold fX10_findKept_71 at h
  refine lv_aload_n hx hb dX10_findKept_71 rfl (lv_at hl 0 rfl) ?_
  replace h := b1_some h
  obtain ⟨a1, ga1, h⟩ := h
  refine z_getA X hW ga1 kX10 (by decide) (by decide) kf_X10_49 dX10_findKept_72 ?_
  refine lv_aload_n hx hb dX10_findKept_75 rfl (lv_at hl 3 rfl) ?_
  replace h := b1_some h
  obtain ⟨q2, gq2, h⟩ := h
  replace h := b2_some h
  obtain ⟨_ur3, s4, gs4, h⟩ := h
  refine z_callVv (rest := []) X hW hS (cX3_add_met gs4) kb_X3_add kv_X3_add kl_X10_314 (it_v gq2).1 kX3 rfl rfl ⟨Nat.le_of_ble_eq_true rfl, Nat.le_of_ble_eq_true rfl⟩ rfl rfl (by decide) hl.1 dX10_findKept_76 ⟨(by decide), (by decide)⟩ (fun H locs hW hS => ?_)
  refine lv_iinc (v := (v2 + 1)) (lv' := [(2, .int (v2 + 1)), (0, .ref o), (1, .int v1), (3, .ref v3)]) hx hb dX10_findKept_79 hl (k := 2) rfl rfl (by decide) rfl (fun ls hl => ?_)
  refine lv_goto (tgt := 9) hx hb dX10_findKept_82 (by decide) ?_
  exact hK9 o v1 (v2 + 1) _ _ _ _ (lv_sub hl [1, 2, 0] rfl) hW hS h

def fX10_findKept_9 : Nat → Nat → Int32 → Int32 → Hz → Option (Unit × Hz)
  | 0, _, _, _, _ => none
  | n + 1, o, v1, v2, h => (b1 (gA 10 0 o h) fun a1 => (b1 (tg 6 a1 h) fun _ => (b2 (fX6_size a1 h) fun x3 s4 => (if x3 ≤ v2 then (b1 (gA 10 7 o s4) fun a6 => (b1 (tg 3 a6 s4) fun _ => (b2 (fX3_spread a6 s4) fun _ s9 => some ((), s9)))) else (b1 (gA 10 0 o s4) fun a10 => (b1 (tg 6 a10 s4) fun _ => (b2 (fX6_find a10 v2 s4) fun r12 s13 => (oe r12 (fX10_findKept_9 n o v1 (v2 + 1) s13) fun a14 => (b1 (gI 5 2 a14 s13) fun x15 => (if x15 = v1 then (b1 (gI 5 1 a14 s13) fun x17 => (if x17 = 2 then fX10_findKept_71 (fX10_findKept_9 n) o v1 v2 a14 s13 else (b1 (tg 5 a14 s13) fun _ => (b2 (fX5_isAnchor a14 s13) fun x20 s21 => (if x20 = 0 then (b1 (gA 10 2 o s21) fun a23 => (b1 (tg 7 a23 s21) fun _ => (b2 (fX7_firstFor a23 (some a14) s21) fun x25 s26 => (if x25 = (-1) then fX10_findKept_9 n o v1 (v2 + 1) s26 else fX10_findKept_71 (fX10_findKept_9 n) o v1 v2 a14 s26)))) else fX10_findKept_71 (fX10_findKept_9 n) o v1 v2 a14 s21))))) else fX10_findKept_9 n o v1 (v2 + 1) s13))))))))))
set_option maxHeartbeats 4000000 in
set_option maxRecDepth 100000 in
theorem wX10_findKept_9 {r0 : Unit} {h0 : Hz} (X : zX A D cy p s m args c cX10_findKept RX10 4) (hlk : meth.locks = false) (hr : meth.sig.returnType = none) : ∀ (n : Nat) (o : Nat) (v1 : Int32) (v2 : Int32) (h : Hz) (H : Heap) (locs : List Loc) (ls : Array Slot) (hl : lv_has ls 4 [(0, .ref o), (1, .int v1), (2, .int v2)]) (hW : zW A cy D h H) (hS : va_S A s.heap H locs) (h : fX10_findKept_9 n o v1 v2 h = some (r0, h0)), W p l e ({ frames := 4, cells := 0, slots := 0, locals := 87 } : Room) s m args below meth c H locs 0 0 (MQ below (va_Qv (fun u => u = h0) (zB A D cy) A) args s 0 0 A) (F0 m 9 ls []) := by
  obtain ⟨hx, hb, hts, hown, hKx, hml, hN9, hA9⟩ := id X
  intro n
  induction n with
  | zero =>
    intro o v1 v2 h H locs ls hl hW hS h
    rw [fX10_findKept_9] at h
    cases h
  | succ n ih =>
    intro o v1 v2 h H locs ls hl hW hS h
    rw [fX10_findKept_9] at h
    refine lv_iload_n hx hb dX10_findKept_9 rfl (lv_at hl 2 rfl) ?_
    refine lv_aload_n hx hb dX10_findKept_10 rfl (lv_at hl 0 rfl) ?_
    replace h := b1_some h
    obtain ⟨a1, ga1, h⟩ := h
    refine z_getA X hW ga1 kX10 (by decide) (by decide) kf_X10_10 dX10_findKept_11 ?_
    replace h := b1_some h
    obtain ⟨q2, gq2, h⟩ := h
    replace h := b2_some h
    obtain ⟨x3, s4, gs4, h⟩ := h
    refine z_callVi (rest := [.int v2]) X hW hS (cX6_size_met gs4) kb_X6_size kv_X6_size kl_X10_241 (it_v gq2).1 kX6 rfl rfl ⟨Nat.le_of_ble_eq_true rfl, Nat.le_of_ble_eq_true rfl⟩ rfl rfl (Nat.le_of_ble_eq_true rfl) hl.1 dX10_findKept_14 ⟨(by decide), (by decide)⟩ (fun H locs hW hS => ?_)
    refine lv_icmp_ge (tgt := 85) hx hb dX10_findKept_17 (by decide) (fun c5 => ?_) (fun c5 => ?_)
    · replace h := it_t h c5
      refine lv_aload_n hx hb dX10_findKept_85 rfl (lv_at hl 0 rfl) ?_
      replace h := b1_some h
      obtain ⟨a6, ga6, h⟩ := h
      refine z_getA X hW ga6 kX10 (by decide) (by decide) kf_X10_49 dX10_findKept_86 ?_
      replace h := b1_some h
      obtain ⟨q7, gq7, h⟩ := h
      replace h := b2_some h
      obtain ⟨_ur8, s9, gs9, h⟩ := h
      refine z_callVv (rest := []) X hW hS (cX3_spread_met gs9) kb_X3_spread kv_X3_spread kl_X10_311 (it_v gq7).1 kX3 rfl rfl ⟨Nat.le_of_ble_eq_true rfl, Nat.le_of_ble_eq_true rfl⟩ rfl rfl (by decide) hl.1 dX10_findKept_89 ⟨(by decide), (by decide)⟩ (fun H locs hW hS => ?_)
      exact z_etv X hlk hr hW hS h (by decide) (by decide) dX10_findKept_92
    · replace h := it_f h c5
      refine lv_aload_n hx hb dX10_findKept_20 rfl (lv_at hl 0 rfl) ?_
      replace h := b1_some h
      obtain ⟨a10, ga10, h⟩ := h
      refine z_getA X hW ga10 kX10 (by decide) (by decide) kf_X10_10 dX10_findKept_21 ?_
      refine lv_iload_n hx hb dX10_findKept_24 rfl (lv_at hl 2 rfl) ?_
      replace h := b1_some h
      obtain ⟨q11, gq11, h⟩ := h
      replace h := b2_some h
      obtain ⟨r12, s13, gs13, h⟩ := h
      refine z_callVq (rest := []) X hW hS (cX6_find_met gs13) kb_X6_find kv_X6_find kl_X10_94 (it_v gq11).1 kX6 rfl rfl ⟨Nat.le_of_ble_eq_true rfl, Nat.le_of_ble_eq_true rfl⟩ rfl rfl (by decide) hl.1 dX10_findKept_25 ⟨(by decide), (by decide)⟩ (fun H locs hW hS => ?_)
      refine z_astore_n (lv' := [(3, va_rf r12), (0, .ref o), (1, .int v1), (2, .int v2)]) hx hb dX10_findKept_28 rfl hl (by decide) rfl (fun ls hl => ?_)
      refine z_aload_n hx hb dX10_findKept_29 rfl (lv_at hl 0 rfl) ?_
      cases r12 with
      | none =>
        replace h := oe_n h
        have hl : lv_has ls 4 [(3, .null), (0, .ref o), (1, .int v1), (2, .int v2)] := hl
        refine lv_ifnullN (tgt := 79) hx hb dX10_findKept_30 (by decide) ?_
        refine lv_iinc (v := (v2 + 1)) (lv' := [(2, .int (v2 + 1)), (3, .null), (0, .ref o), (1, .int v1)]) hx hb dX10_findKept_79 hl (k := 3) rfl rfl (by decide) rfl (fun ls hl => ?_)
        refine lv_goto (tgt := 9) hx hb dX10_findKept_82 (by decide) ?_
        exact ih o v1 (v2 + 1) _ _ _ _ (lv_sub hl [2, 3, 0] rfl) hW hS h
      | some a14 =>
        replace h := oe_s h
        have hl : lv_has ls 4 [(3, .ref a14), (0, .ref o), (1, .int v1), (2, .int v2)] := hl
        refine lv_ifnull hx hb dX10_findKept_30 ?_
        refine lv_aload_n hx hb dX10_findKept_33 rfl (lv_at hl 0 rfl) ?_
        replace h := b1_some h
        obtain ⟨x15, gx15, h⟩ := h
        refine z_getI X hW gx15 kX5 (by decide) (by decide) kf_X10_109 dX10_findKept_34 ?_
        refine lv_iload_n hx hb dX10_findKept_37 rfl (lv_at hl 2 rfl) ?_
        refine lv_icmp_eq (tgt := 44) hx hb dX10_findKept_38 (by decide) (fun c16 => ?_) (fun c16 => ?_)
        · replace h := it_t h c16
          refine lv_aload_n hx hb dX10_findKept_44 rfl (lv_at hl 0 rfl) ?_
          replace h := b1_some h
          obtain ⟨x17, gx17, h⟩ := h
          refine z_getI X hW gx17 kX5 (by decide) (by decide) kf_X10_173 dX10_findKept_45 ?_
          refine lv_iconst (v := 2) hx hb dX10_findKept_48 (by decide) ?_
          refine lv_icmp_eq (tgt := 71) hx hb dX10_findKept_49 (by decide) (fun c18 => ?_) (fun c18 => ?_)
          · replace h := it_t h c18
            exact wX10_findKept_71 X hlk hr ih o v1 v2 a14 _ _ _ _ (lv_sub hl [1, 2, 3, 0] rfl) hW hS h
          · replace h := it_f h c18
            refine lv_aload_n hx hb dX10_findKept_52 rfl (lv_at hl 0 rfl) ?_
            replace h := b1_some h
            obtain ⟨q19, gq19, h⟩ := h
            replace h := b2_some h
            obtain ⟨x20, s21, gs21, h⟩ := h
            refine z_callVi (rest := []) X hW hS (cX5_isAnchor_met gs21) kb_X5_isAnchor kv_X5_isAnchor kl_X10_251 (it_v gq19).1 kX5 rfl rfl ⟨Nat.le_of_ble_eq_true rfl, Nat.le_of_ble_eq_true rfl⟩ rfl rfl (by decide) hl.1 dX10_findKept_53 ⟨(by decide), (by decide)⟩ (fun H locs hW hS => ?_)
            refine lv_if_ne (tgt := 71) hx hb dX10_findKept_56 (by decide) (fun c22 => ?_) (fun c22 => ?_)
            · replace h := it_f h c22
              exact wX10_findKept_71 X hlk hr ih o v1 v2 a14 _ _ _ _ (lv_sub hl [1, 2, 3, 0] rfl) hW hS h
            · replace h := it_t h c22
              refine lv_aload_n hx hb dX10_findKept_59 rfl (lv_at hl 1 rfl) ?_
              replace h := b1_some h
              obtain ⟨a23, ga23, h⟩ := h
              refine z_getA X hW ga23 kX10 (by decide) (by decide) kf_X10_26 dX10_findKept_60 ?_
              refine lv_aload_n hx hb dX10_findKept_63 rfl (lv_at hl 0 rfl) ?_
              replace h := b1_some h
              obtain ⟨q24, gq24, h⟩ := h
              replace h := b2_some h
              obtain ⟨x25, s26, gs26, h⟩ := h
              refine z_callVi (rest := []) X hW hS (cX7_firstFor_met gs26) kb_X7_firstFor kv_X7_firstFor kl_X10_353 (it_v gq24).1 kX7 rfl rfl ⟨Nat.le_of_ble_eq_true rfl, Nat.le_of_ble_eq_true rfl⟩ rfl rfl (by decide) hl.1 dX10_findKept_64 ⟨(by decide), (by decide)⟩ (fun H locs hW hS => ?_)
              refine lv_iconst (v := (-1)) hx hb dX10_findKept_67 (by decide) ?_
              refine lv_icmp_eq (tgt := 79) hx hb dX10_findKept_68 (by decide) (fun c27 => ?_) (fun c27 => ?_)
              · replace h := it_t h c27
                refine lv_iinc (v := (v2 + 1)) (lv' := [(2, .int (v2 + 1)), (3, .ref a14), (0, .ref o), (1, .int v1)]) hx hb dX10_findKept_79 hl (k := 3) rfl rfl (by decide) rfl (fun ls hl => ?_)
                refine lv_goto (tgt := 9) hx hb dX10_findKept_82 (by decide) ?_
                exact ih o v1 (v2 + 1) _ _ _ _ (lv_sub hl [2, 3, 0] rfl) hW hS h
              · replace h := it_f h c27
                exact wX10_findKept_71 X hlk hr ih o v1 v2 a14 _ _ _ _ (lv_sub hl [1, 2, 3, 0] rfl) hW hS h
        · replace h := it_f h c16
          refine lv_goto (tgt := 79) hx hb dX10_findKept_41 (by decide) ?_
          refine lv_iinc (v := (v2 + 1)) (lv' := [(2, .int (v2 + 1)), (3, .ref a14), (0, .ref o), (1, .int v1)]) hx hb dX10_findKept_79 hl (k := 3) rfl rfl (by decide) rfl (fun ls hl => ?_)
          refine lv_goto (tgt := 9) hx hb dX10_findKept_82 (by decide) ?_
          exact ih o v1 (v2 + 1) _ _ _ _ (lv_sub hl [2, 3, 0] rfl) hW hS h

def fX10_findKept (o : Nat) (v1 : Int32) (h : Hz) : Option (Unit × Hz) := (b1 (gA 10 7 o h) fun a1 => (b1 (tg 3 a1 h) fun _ => (b2 (fX3_restart a1 h) fun _ s4 => fX10_findKept_9 100000 o v1 0 s4)))
set_option maxHeartbeats 4000000 in
set_option maxRecDepth 100000 in
theorem wX10_findKept_0 {r0 : Unit} {h0 : Hz} (X : zX A D cy p s m args c cX10_findKept RX10 4) (hlk : meth.locks = false) (hr : meth.sig.returnType = none) (o : Nat) (v1 : Int32) (h : Hz) (H : Heap) (locs : List Loc) (ls : Array Slot) (hl : lv_has ls 4 [(0, .ref o), (1, .int v1)]) (hW : zW A cy D h H) (hS : va_S A s.heap H locs) (h : fX10_findKept o v1 h = some (r0, h0)) : W p l e ({ frames := 4, cells := 0, slots := 0, locals := 87 } : Room) s m args below meth c H locs 0 0 (MQ below (va_Qv (fun u => u = h0) (zB A D cy) A) args s 0 0 A) (F0 m 0 ls []) := by
  obtain ⟨hx, hb, hts, hown, hKx, hml, hN9, hA9⟩ := id X
  unfold fX10_findKept at h
  refine lv_aload_n hx hb dX10_findKept_0 rfl (lv_at hl 0 rfl) ?_
  replace h := b1_some h
  obtain ⟨a1, ga1, h⟩ := h
  refine z_getA X hW ga1 kX10 (by decide) (by decide) kf_X10_49 dX10_findKept_1 ?_
  replace h := b1_some h
  obtain ⟨q2, gq2, h⟩ := h
  replace h := b2_some h
  obtain ⟨_ur3, s4, gs4, h⟩ := h
  refine z_callVv (rest := []) X hW hS (cX3_restart_met gs4) kb_X3_restart kv_X3_restart kl_X10_305 (it_v gq2).1 kX3 rfl rfl ⟨Nat.le_of_ble_eq_true rfl, Nat.le_of_ble_eq_true rfl⟩ rfl rfl (by decide) hl.1 dX10_findKept_4 ⟨(by decide), (by decide)⟩ (fun H locs hW hS => ?_)
  refine lv_iconst (v := 0) hx hb dX10_findKept_7 (by decide) ?_
  refine lv_istore_n (lv' := [(2, .int 0), (0, .ref o), (1, .int v1)]) hx hb dX10_findKept_8 rfl hl (by decide) rfl (fun ls hl => ?_)
  exact wX10_findKept_9 X hlk hr _ o v1 0 _ _ _ _ (lv_sub hl [1, 2, 0] rfl) hW hS h

set_option maxHeartbeats 4000000 in
set_option maxRecDepth 100000 in
theorem cX10_findKept_met {l : Launch} {A : Nat → Prop} {D : va_G} {cy : Nat → ClassId} {r0 : Unit} {h0 : Hz} {o : Nat} {v1 : Int32} {h : Hz} (g : fX10_findKept o v1 h = some (r0, h0)) : Met l yX10_findKept (Cond.code yX10_findKept cX10_findKept 4 none :: wT) ({ frames := 4, cells := 0, slots := 0, locals := 87 } : Room) (va_Pc [.ref o, .int v1] (zS A D cy h)) (va_Qv (fun u => u = h0) (zB A D cy) A) 0 0 A := by
  refine Met.ofW (cc := cX10_findKept) (maxL := 4) (ret := none) (by decide) rfl ?_
  intro p e s m args below meth c s₁ B hml hv
  obtain ⟨rfl, hW, hK, hN, hA⟩ := hv
  have X : zX A D cy p s m _ c cX10_findKept RX10 4 := ⟨B.exec, B.bytes, fun w hw => atoms_spec (ws := Cond.code yX10_findKept cX10_findKept 4 none :: wT) B.pre w (List.mem_cons_of_mem _ hw), findClass_of_methodNamed B.named, hK, hml, hN, hA⟩
  have hl := lv_entry [.ref o, .int v1] (n := 4) (Nat.le_of_ble_eq_true rfl)
  rw [lg_entry_eq]
  generalize (lg_sl [.ref o, .int v1] ++ List.replicate (4 - (lg_sl [.ref o, .int v1]).length) Slot.unset).toArray = ls at hl ⊢
  have hl : lv_has ls 4 [(0, .ref o), (1, .int v1)] := hl
  exact wX10_findKept_0 X B.notSynchronized B.returns o v1 _ _ _ _ (lv_sub hl [0, 1] rfl) hW va_S.rf g

theorem dX10_free_0 : decode cX10_free 0 = .ok (.aload_n 1, 1) := by decide +kernel
theorem dX10_free_1 : decode cX10_free 1 = .ok (.iconst 0, 1) := by decide +kernel
theorem dX10_free_2 : decode cX10_free 2 = .ok (.putfield 170, 3) := by decide +kernel
theorem dX10_free_5 : decode cX10_free 5 = .ok (.aload_n 1, 1) := by decide +kernel
theorem dX10_free_6 : decode cX10_free 6 = .ok (.getfield 180, 3) := by decide +kernel
theorem dX10_free_9 : decode cX10_free 9 = .ok (.ifnull 31, 3) := by decide +kernel
theorem dX10_free_12 : decode cX10_free 12 = .ok (.aload_n 0, 1) := by decide +kernel
theorem dX10_free_13 : decode cX10_free 13 = .ok (.getfield 19, 3) := by decide +kernel
theorem dX10_free_16 : decode cX10_free 16 = .ok (.iconst 3, 1) := by decide +kernel
theorem dX10_free_17 : decode cX10_free 17 = .ok (.aload_n 1, 1) := by decide +kernel
theorem dX10_free_18 : decode cX10_free 18 = .ok (.getfield 109, 3) := by decide +kernel
theorem dX10_free_21 : decode cX10_free 21 = .ok (.aload_n 1, 1) := by decide +kernel
theorem dX10_free_22 : decode cX10_free 22 = .ok (.getfield 180, 3) := by decide +kernel
theorem dX10_free_25 : decode cX10_free 25 = .ok (.getfield 109, 3) := by decide +kernel
theorem dX10_free_28 : decode cX10_free 28 = .ok (.aload_n 1, 1) := by decide +kernel
theorem dX10_free_29 : decode cX10_free 29 = .ok (.getfield 180, 3) := by decide +kernel
theorem dX10_free_32 : decode cX10_free 32 = .ok (.aload_n 1, 1) := by decide +kernel
theorem dX10_free_33 : decode cX10_free 33 = .ok (.getfield 184, 3) := by decide +kernel
theorem dX10_free_36 : decode cX10_free 36 = .ok (.invokevirtual 324, 3) := by decide +kernel
theorem dX10_free_39 : decode cX10_free 39 = .ok (.pop, 1) := by decide +kernel
theorem dX10_free_40 : decode cX10_free 40 = .ok (.aload_n 0, 1) := by decide +kernel
theorem dX10_free_41 : decode cX10_free 41 = .ok (.getfield 67, 3) := by decide +kernel
theorem dX10_free_44 : decode cX10_free 44 = .ok (.aload_n 0, 1) := by decide +kernel
theorem dX10_free_45 : decode cX10_free 45 = .ok (.getfield 43, 3) := by decide +kernel
theorem dX10_free_48 : decode cX10_free 48 = .ok (.arraylength, 1) := by decide +kernel
theorem dX10_free_49 : decode cX10_free 49 = .ok (.if_icmp .ge 26, 3) := by decide +kernel
theorem dX10_free_52 : decode cX10_free 52 = .ok (.aload_n 0, 1) := by decide +kernel
theorem dX10_free_53 : decode cX10_free 53 = .ok (.getfield 43, 3) := by decide +kernel
theorem dX10_free_56 : decode cX10_free 56 = .ok (.aload_n 0, 1) := by decide +kernel
theorem dX10_free_57 : decode cX10_free 57 = .ok (.getfield 67, 3) := by decide +kernel
theorem dX10_free_60 : decode cX10_free 60 = .ok (.aload_n 1, 1) := by decide +kernel
theorem dX10_free_61 : decode cX10_free 61 = .ok (.getfield 89, 3) := by decide +kernel
theorem dX10_free_64 : decode cX10_free 64 = .ok (.iastore, 1) := by decide +kernel
theorem dX10_free_65 : decode cX10_free 65 = .ok (.aload_n 0, 1) := by decide +kernel
theorem dX10_free_66 : decode cX10_free 66 = .ok (.dup, 1) := by decide +kernel
theorem dX10_free_67 : decode cX10_free 67 = .ok (.getfield 67, 3) := by decide +kernel
theorem dX10_free_70 : decode cX10_free 70 = .ok (.iconst 1, 1) := by decide +kernel
theorem dX10_free_71 : decode cX10_free 71 = .ok (.iadd, 1) := by decide +kernel
theorem dX10_free_72 : decode cX10_free 72 = .ok (.putfield 67, 3) := by decide +kernel
theorem dX10_free_75 : decode cX10_free 75 = .ok (.return_, 1) := by decide +kernel
def fX10_free_40 (o : Nat) (v1 : Nat) (h : Hz) : Option (Unit × Hz) := (b1 (gI 10 11 o h) fun x1 => (b1 (gA 10 6 o h) fun a2 => (b1 (xN 12 a2 h) fun x3 => (if x3 ≤ x1 then some ((), h) else (b1 (gA 10 6 o h) fun a5 => (b1 (gI 10 11 o h) fun x6 => (b1 (gI 5 0 v1 h) fun x7 => (b1 (yI a5 x6 x7 h) fun s8 => (b1 (gI 10 11 o s8) fun x9 => (b1 (pI 10 11 o (x9 + 1) s8) fun s10 => some ((), s10)))))))))))
set_option maxHeartbeats 4000000 in
set_option maxRecDepth 100000 in
theorem wX10_free_40 {r0 : Unit} {h0 : Hz} (X : zX A D cy p s m args c cX10_free RX10 2) (hlk : meth.locks = false) (hr : meth.sig.returnType = none) (o : Nat) (v1 : Nat) (h : Hz) (H : Heap) (locs : List Loc) (ls : Array Slot) (hl : lv_has ls 2 [(0, .ref o), (1, .ref v1)]) (hW : zW A cy D h H) (hS : va_S A s.heap H locs) (h : fX10_free_40 o v1 h = some (r0, h0)) : W p l e ({ frames := 3, cells := 1, slots := 10, locals := 62 } : Room) s m args below meth c H locs 1 10 (MQ below (va_Qv (fun u => u = h0) (zB A D cy) A) args s 1 10 A) (F0 m 40 ls []) := by
  obtain ⟨hx, hb, hts, hown, hK9, hml, hN9, hA9⟩ := id X
  unfold fX10_free_40 at h
  refine lv_aload_n hx hb dX10_free_40 rfl (lv_at hl 0 rfl) ?_
  replace h := b1_some h
  obtain ⟨x1, gx1, h⟩ := h
  refine z_getI X hW gx1 kX10 (by decide) (by decide) kf_X10_67 dX10_free_41 ?_
  refine lv_aload_n hx hb dX10_free_44 rfl (lv_at hl 0 rfl) ?_
  replace h := b1_some h
  obtain ⟨a2, ga2, h⟩ := h
  refine z_getA X hW ga2 kX10 (by decide) (by decide) kf_X10_43 dX10_free_45 ?_
  replace h := b1_some h
  obtain ⟨x3, gx3, h⟩ := h
  refine z_alenI X hW gx3 dX10_free_48 ?_
  refine lv_icmp_ge (tgt := 75) hx hb dX10_free_49 (by decide) (fun c4 => ?_) (fun c4 => ?_)
  · replace h := it_t h c4
    exact z_etv X hlk hr hW hS h (by decide) (by decide) dX10_free_75
  · replace h := it_f h c4
    refine lv_aload_n hx hb dX10_free_52 rfl (lv_at hl 0 rfl) ?_
    replace h := b1_some h
    obtain ⟨a5, ga5, h⟩ := h
    refine z_getA X hW ga5 kX10 (by decide) (by decide) kf_X10_43 dX10_free_53 ?_
    refine lv_aload_n hx hb dX10_free_56 rfl (lv_at hl 0 rfl) ?_
    replace h := b1_some h
    obtain ⟨x6, gx6, h⟩ := h
    refine z_getI X hW gx6 kX10 (by decide) (by decide) kf_X10_67 dX10_free_57 ?_
    refine lv_aload_n hx hb dX10_free_60 rfl (lv_at hl 1 rfl) ?_
    replace h := b1_some h
    obtain ⟨x7, gx7, h⟩ := h
    refine z_getI X hW gx7 kX5 (by decide) (by decide) kf_X10_89 dX10_free_61 ?_
    replace h := b1_some h
    obtain ⟨s8, gs8, h⟩ := h
    refine z_astI X hW hS gs8 dX10_free_64 (fun H locs hW hS => ?_)
    refine lv_aload_n hx hb dX10_free_65 rfl (lv_at hl 0 rfl) ?_
    refine lv_dup hx hb dX10_free_66 rfl ?_
    replace h := b1_some h
    obtain ⟨x9, gx9, h⟩ := h
    refine z_getI X hW gx9 kX10 (by decide) (by decide) kf_X10_67 dX10_free_67 ?_
    refine lv_iconst (v := 1) hx hb dX10_free_70 (by decide) ?_
    refine lv_iadd hx hb dX10_free_71 ?_
    replace h := b1_some h
    obtain ⟨s10, gs10, h⟩ := h
    refine z_putI X hW hS gs10 kX10 (by decide) (by decide) rfl (Or.inl rfl) kf_X10_67 dX10_free_72 (fun H locs hW hS => ?_)
    exact z_etv X hlk hr hW hS h (by decide) (by decide) dX10_free_75

def fX10_free (o : Nat) (v1 : Option Nat) (h : Hz) : Option (Unit × Hz) := b1 v1 fun a1 => (b1 (pZ 5 10 a1 0 h) fun s2 => (b1 (gP 5 6 a1 s2) fun r3 => (oe r3 (fX10_free_40 o a1 s2) fun a4 => (b1 (gA 10 1 o s2) fun a5 => (b1 (gI 5 2 a1 s2) fun x6 => (b1 (gP 5 6 a1 s2) fun r7 => b1 r7 fun a8 => (b1 (gI 5 2 a8 s2) fun x9 => (b1 (gP 5 6 a1 s2) fun r10 => (b1 (gI 5 7 a1 s2) fun x11 => (b1 (tg 2 a5 s2) fun _ => (b2 (fX2_fileOfWeight a5 3 x6 x9 r10 x11 s2) fun x13 s14 => fX10_free_40 o a1 s14)))))))))))
set_option maxHeartbeats 4000000 in
set_option maxRecDepth 100000 in
theorem wX10_free_0 {r0 : Unit} {h0 : Hz} (X : zX A D cy p s m args c cX10_free RX10 2) (hlk : meth.locks = false) (hr : meth.sig.returnType = none) (o : Nat) (v1 : Option Nat) (h : Hz) (H : Heap) (locs : List Loc) (ls : Array Slot) (hl : lv_has ls 2 [(0, .ref o), (1, va_rf v1)]) (hW : zW A cy D h H) (hS : va_S A s.heap H locs) (h : fX10_free o v1 h = some (r0, h0)) : W p l e ({ frames := 3, cells := 1, slots := 10, locals := 62 } : Room) s m args below meth c H locs 0 0 (MQ below (va_Qv (fun u => u = h0) (zB A D cy) A) args s 1 10 A) (F0 m 0 ls []) := by
  obtain ⟨hx, hb, hts, hown, hK9, hml, hN9, hA9⟩ := id X
  unfold fX10_free at h
  refine z_aload_n hx hb dX10_free_0 rfl (lv_at hl 1 rfl) ?_
  refine lv_iconst (v := 0) hx hb dX10_free_1 (by decide) ?_
  replace h := b1_some h
  obtain ⟨a1, ea1, h⟩ := h
  subst ea1
  replace h := b1_some h
  obtain ⟨s2, gs2, h⟩ := h
  refine z_putZ X hW hS gs2 kX5 (by decide) (by decide) rfl (Or.inl rfl) kf_X10_170 dX10_free_2 (fun H locs hW hS => ?_)
  refine lv_aload_n hx hb dX10_free_5 rfl (lv_at hl 1 rfl) ?_
  replace h := b1_some h
  obtain ⟨r3, gr3, h⟩ := h
  refine z_getP X hW gr3 kX5 (by decide) (by decide) kf_X10_180 dX10_free_6 ?_
  cases r3 with
  | none =>
    replace h := oe_n h
    have hl : lv_has ls 2 [(0, .ref o), (1, .ref a1)] := hl
    refine lv_ifnullN (tgt := 40) hx hb dX10_free_9 (by decide) ?_
    refine W.widen (k := 1) (n := 10) (by decide) (by decide) ?_
    exact wX10_free_40 X hlk hr o a1 _ _ _ _ (lv_sub hl [0, 1] rfl) hW hS h
  | some a4 =>
    replace h := oe_s h
    have hl : lv_has ls 2 [(0, .ref o), (1, .ref a1)] := hl
    refine lv_ifnull hx hb dX10_free_9 ?_
    refine lv_aload_n hx hb dX10_free_12 rfl (lv_at hl 0 rfl) ?_
    replace h := b1_some h
    obtain ⟨a5, ga5, h⟩ := h
    refine z_getA X hW ga5 kX10 (by decide) (by decide) kf_X10_19 dX10_free_13 ?_
    refine lv_iconst (v := 3) hx hb dX10_free_16 (by decide) ?_
    refine lv_aload_n hx hb dX10_free_17 rfl (lv_at hl 1 rfl) ?_
    replace h := b1_some h
    obtain ⟨x6, gx6, h⟩ := h
    refine z_getI X hW gx6 kX5 (by decide) (by decide) kf_X10_109 dX10_free_18 ?_
    refine lv_aload_n hx hb dX10_free_21 rfl (lv_at hl 1 rfl) ?_
    replace h := b1_some h
    obtain ⟨r7, gr7, h⟩ := h
    refine z_getP X hW gr7 kX5 (by decide) (by decide) kf_X10_180 dX10_free_22 ?_
    replace h := b1_some h
    obtain ⟨a8, ea8, h⟩ := h
    subst ea8
    replace h := b1_some h
    obtain ⟨x9, gx9, h⟩ := h
    refine z_getI X hW gx9 kX5 (by decide) (by decide) kf_X10_109 dX10_free_25 ?_
    refine lv_aload_n hx hb dX10_free_28 rfl (lv_at hl 1 rfl) ?_
    replace h := b1_some h
    obtain ⟨r10, gr10, h⟩ := h
    refine z_getP X hW gr10 kX5 (by decide) (by decide) kf_X10_180 dX10_free_29 ?_
    refine lv_aload_n hx hb dX10_free_32 rfl (lv_at hl 1 rfl) ?_
    replace h := b1_some h
    obtain ⟨x11, gx11, h⟩ := h
    refine z_getI X hW gx11 kX5 (by decide) (by decide) kf_X10_184 dX10_free_33 ?_
    replace h := b1_some h
    obtain ⟨q12, gq12, h⟩ := h
    replace h := b2_some h
    obtain ⟨x13, s14, gs14, h⟩ := h
    refine z_callVi (rest := []) X hW hS (cX2_fileOfWeight_met gs14) kb_X2_fileOfWeight kv_X2_fileOfWeight kl_X10_324 (it_v gq12).1 kX2 rfl rfl ⟨Nat.le_of_ble_eq_true rfl, Nat.le_of_ble_eq_true rfl⟩ rfl rfl (by decide) hl.1 dX10_free_36 ⟨(by decide), (by decide)⟩ (fun H locs hW hS => ?_)
    refine lv_pop hx hb dX10_free_39 rfl ?_
    exact wX10_free_40 X hlk hr o a1 _ _ _ _ (lv_sub hl [0, 1] rfl) hW hS h

set_option maxHeartbeats 4000000 in
set_option maxRecDepth 100000 in
theorem cX10_free_met {l : Launch} {A : Nat → Prop} {D : va_G} {cy : Nat → ClassId} {r0 : Unit} {h0 : Hz} {o : Nat} {v1 : Option Nat} {h : Hz} (g : fX10_free o v1 h = some (r0, h0)) : Met l yX10_free (Cond.code yX10_free cX10_free 2 none :: wT) ({ frames := 3, cells := 1, slots := 10, locals := 62 } : Room) (va_Pc [.ref o, va_rf v1] (zS A D cy h)) (va_Qv (fun u => u = h0) (zB A D cy) A) 1 10 A := by
  refine Met.ofW (cc := cX10_free) (maxL := 2) (ret := none) (by decide) rfl ?_
  intro p e s m args below meth c s₁ B hml hv
  obtain ⟨rfl, hW, hK, hN, hA⟩ := hv
  have X : zX A D cy p s m _ c cX10_free RX10 2 := ⟨B.exec, B.bytes, fun w hw => atoms_spec (ws := Cond.code yX10_free cX10_free 2 none :: wT) B.pre w (List.mem_cons_of_mem _ hw), findClass_of_methodNamed B.named, hK, hml, hN, hA⟩
  cases v1 with
  | none =>
    have hl := lv_entry [.ref o, va_rf none] (n := 2) (Nat.le_of_ble_eq_true rfl)
    rw [lg_entry_eq]
    generalize (lg_sl [.ref o, va_rf none] ++ List.replicate (2 - (lg_sl [.ref o, va_rf none]).length) Slot.unset).toArray = ls at hl ⊢
    have hl : lv_has ls 2 [(0, .ref o), (1, va_rf none)] := hl
    exact wX10_free_0 X B.notSynchronized B.returns o none _ _ _ _ (lv_sub hl [0, 1] rfl) hW va_S.rf g
  | some v1 =>
    have hl := lv_entry [.ref o, va_rf (some v1)] (n := 2) (Nat.le_of_ble_eq_true rfl)
    rw [lg_entry_eq]
    generalize (lg_sl [.ref o, va_rf (some v1)] ++ List.replicate (2 - (lg_sl [.ref o, va_rf (some v1)]).length) Slot.unset).toArray = ls at hl ⊢
    have hl : lv_has ls 2 [(0, .ref o), (1, va_rf (some v1))] := hl
    exact wX10_free_0 X B.notSynchronized B.returns o (some v1) _ _ _ _ (lv_sub hl [0, 1] rfl) hW va_S.rf g

theorem dX10_gatesToFree_0 : decode cX10_gatesToFree 0 = .ok (.iconst 0, 1) := by decide +kernel
theorem dX10_gatesToFree_1 : decode cX10_gatesToFree 1 = .ok (.istore_n 2, 1) := by decide +kernel
theorem dX10_gatesToFree_2 : decode cX10_gatesToFree 2 = .ok (.iconst 0, 1) := by decide +kernel
theorem dX10_gatesToFree_3 : decode cX10_gatesToFree 3 = .ok (.istore_n 3, 1) := by decide +kernel
theorem dX10_gatesToFree_4 : decode cX10_gatesToFree 4 = .ok (.iload_n 3, 1) := by decide +kernel
theorem dX10_gatesToFree_5 : decode cX10_gatesToFree 5 = .ok (.aload_n 0, 1) := by decide +kernel
theorem dX10_gatesToFree_6 : decode cX10_gatesToFree 6 = .ok (.getfield 10, 3) := by decide +kernel
theorem dX10_gatesToFree_9 : decode cX10_gatesToFree 9 = .ok (.invokevirtual 241, 3) := by decide +kernel
theorem dX10_gatesToFree_12 : decode cX10_gatesToFree 12 = .ok (.if_icmp .ge 57, 3) := by decide +kernel
theorem dX10_gatesToFree_15 : decode cX10_gatesToFree 15 = .ok (.aload_n 0, 1) := by decide +kernel
theorem dX10_gatesToFree_16 : decode cX10_gatesToFree 16 = .ok (.getfield 10, 3) := by decide +kernel
theorem dX10_gatesToFree_19 : decode cX10_gatesToFree 19 = .ok (.iload_n 3, 1) := by decide +kernel
theorem dX10_gatesToFree_20 : decode cX10_gatesToFree 20 = .ok (.invokevirtual 94, 3) := by decide +kernel
theorem dX10_gatesToFree_23 : decode cX10_gatesToFree 23 = .ok (.astore 4, 2) := by decide +kernel
theorem dX10_gatesToFree_25 : decode cX10_gatesToFree 25 = .ok (.aload 4, 2) := by decide +kernel
theorem dX10_gatesToFree_27 : decode cX10_gatesToFree 27 = .ok (.ifnull 36, 3) := by decide +kernel
theorem dX10_gatesToFree_30 : decode cX10_gatesToFree 30 = .ok (.aload 4, 2) := by decide +kernel
theorem dX10_gatesToFree_32 : decode cX10_gatesToFree 32 = .ok (.getfield 109, 3) := by decide +kernel
theorem dX10_gatesToFree_35 : decode cX10_gatesToFree 35 = .ok (.iload_n 1, 1) := by decide +kernel
theorem dX10_gatesToFree_36 : decode cX10_gatesToFree 36 = .ok (.if_icmp .ne 27, 3) := by decide +kernel
theorem dX10_gatesToFree_39 : decode cX10_gatesToFree 39 = .ok (.aload 4, 2) := by decide +kernel
theorem dX10_gatesToFree_41 : decode cX10_gatesToFree 41 = .ok (.getfield 173, 3) := by decide +kernel
theorem dX10_gatesToFree_44 : decode cX10_gatesToFree 44 = .ok (.iconst 3, 1) := by decide +kernel
theorem dX10_gatesToFree_45 : decode cX10_gatesToFree 45 = .ok (.if_icmp .ne 18, 3) := by decide +kernel
theorem dX10_gatesToFree_48 : decode cX10_gatesToFree 48 = .ok (.aload_n 0, 1) := by decide +kernel
theorem dX10_gatesToFree_49 : decode cX10_gatesToFree 49 = .ok (.getfield 49, 3) := by decide +kernel
theorem dX10_gatesToFree_52 : decode cX10_gatesToFree 52 = .ok (.aload 4, 2) := by decide +kernel
theorem dX10_gatesToFree_54 : decode cX10_gatesToFree 54 = .ok (.invokevirtual 244, 3) := by decide +kernel
theorem dX10_gatesToFree_57 : decode cX10_gatesToFree 57 = .ok (.ifCond .ne 6, 3) := by decide +kernel
theorem dX10_gatesToFree_60 : decode cX10_gatesToFree 60 = .ok (.iinc 2 1, 3) := by decide +kernel
theorem dX10_gatesToFree_63 : decode cX10_gatesToFree 63 = .ok (.iinc 3 1, 3) := by decide +kernel
theorem dX10_gatesToFree_66 : decode cX10_gatesToFree 66 = .ok (.goto (-62), 3) := by decide +kernel
theorem dX10_gatesToFree_69 : decode cX10_gatesToFree 69 = .ok (.iload_n 2, 1) := by decide +kernel
theorem dX10_gatesToFree_70 : decode cX10_gatesToFree 70 = .ok (.ireturn, 1) := by decide +kernel
def fX10_gatesToFree_4 : Nat → Nat → Int32 → Int32 → Int32 → Hz → Option (Int32 × Hz)
  | 0, _, _, _, _, _ => none
  | n + 1, o, v1, v2, v3, h => (b1 (gA 10 0 o h) fun a1 => (b1 (tg 6 a1 h) fun _ => (b2 (fX6_size a1 h) fun x3 s4 => (if x3 ≤ v3 then some (v2, s4) else (b1 (gA 10 0 o s4) fun a6 => (b1 (tg 6 a6 s4) fun _ => (b2 (fX6_find a6 v3 s4) fun r8 s9 => (oe r8 (fX10_gatesToFree_4 n o v1 v2 (v3 + 1) s9) fun a10 => (b1 (gI 5 2 a10 s9) fun x11 => (if x11 = v1 then (b1 (gI 5 1 a10 s9) fun x13 => (if x13 = 3 then (b1 (gA 10 7 o s9) fun a15 => (b1 (tg 3 a15 s9) fun _ => (b2 (fX3_has a15 (some a10) s9) fun x17 s18 => (if x17 = 0 then fX10_gatesToFree_4 n o v1 (v2 + 1) (v3 + 1) s18 else fX10_gatesToFree_4 n o v1 v2 (v3 + 1) s18)))) else fX10_gatesToFree_4 n o v1 v2 (v3 + 1) s9)) else fX10_gatesToFree_4 n o v1 v2 (v3 + 1) s9))))))))))
set_option maxHeartbeats 4000000 in
set_option maxRecDepth 100000 in
theorem wX10_gatesToFree_4 {r0 : Int32} {h0 : Hz} (X : zX A D cy p s m args c cX10_gatesToFree RX10 5) (hlk : meth.locks = false) (hr : meth.sig.returnType = (some .int)) : ∀ (n : Nat) (o : Nat) (v1 : Int32) (v2 : Int32) (v3 : Int32) (h : Hz) (H : Heap) (locs : List Loc) (ls : Array Slot) (hl : lv_has ls 5 [(0, .ref o), (1, .int v1), (2, .int v2), (3, .int v3)]) (hW : zW A cy D h H) (hS : va_S A s.heap H locs) (h : fX10_gatesToFree_4 n o v1 v2 v3 h = some (r0, h0)), W p l e ({ frames := 1, cells := 0, slots := 0, locals := 22 } : Room) s m args below meth c H locs 0 0 (MQ below (va_Qi (fun r1 u => r1 = r0 ∧ u = h0) (zB A D cy) A) args s 0 0 A) (F0 m 4 ls []) := by
  obtain ⟨hx, hb, hts, hown, hK9, hml, hN9, hA9⟩ := id X
  intro n
  induction n with
  | zero =>
    intro o v1 v2 v3 h H locs ls hl hW hS h
    rw [fX10_gatesToFree_4] at h
    cases h
  | succ n ih =>
    intro o v1 v2 v3 h H locs ls hl hW hS h
    rw [fX10_gatesToFree_4] at h
    refine lv_iload_n hx hb dX10_gatesToFree_4 rfl (lv_at hl 3 rfl) ?_
    refine lv_aload_n hx hb dX10_gatesToFree_5 rfl (lv_at hl 0 rfl) ?_
    replace h := b1_some h
    obtain ⟨a1, ga1, h⟩ := h
    refine z_getA X hW ga1 kX10 (by decide) (by decide) kf_X10_10 dX10_gatesToFree_6 ?_
    replace h := b1_some h
    obtain ⟨q2, gq2, h⟩ := h
    replace h := b2_some h
    obtain ⟨x3, s4, gs4, h⟩ := h
    refine z_callVi (rest := [.int v3]) X hW hS (cX6_size_met gs4) kb_X6_size kv_X6_size kl_X10_241 (it_v gq2).1 kX6 rfl rfl ⟨Nat.le_of_ble_eq_true rfl, Nat.le_of_ble_eq_true rfl⟩ rfl rfl (Nat.le_of_ble_eq_true rfl) hl.1 dX10_gatesToFree_9 ⟨(by decide), (by decide)⟩ (fun H locs hW hS => ?_)
    refine lv_icmp_ge (tgt := 69) hx hb dX10_gatesToFree_12 (by decide) (fun c5 => ?_) (fun c5 => ?_)
    · replace h := it_t h c5
      refine lv_iload_n hx hb dX10_gatesToFree_69 rfl (lv_at hl 2 rfl) ?_
      exact z_eti X hlk hr hW hS h (by decide) (by decide) dX10_gatesToFree_70
    · replace h := it_f h c5
      refine lv_aload_n hx hb dX10_gatesToFree_15 rfl (lv_at hl 0 rfl) ?_
      replace h := b1_some h
      obtain ⟨a6, ga6, h⟩ := h
      refine z_getA X hW ga6 kX10 (by decide) (by decide) kf_X10_10 dX10_gatesToFree_16 ?_
      refine lv_iload_n hx hb dX10_gatesToFree_19 rfl (lv_at hl 3 rfl) ?_
      replace h := b1_some h
      obtain ⟨q7, gq7, h⟩ := h
      replace h := b2_some h
      obtain ⟨r8, s9, gs9, h⟩ := h
      refine z_callVq (rest := []) X hW hS (cX6_find_met gs9) kb_X6_find kv_X6_find kl_X10_94 (it_v gq7).1 kX6 rfl rfl ⟨Nat.le_of_ble_eq_true rfl, Nat.le_of_ble_eq_true rfl⟩ rfl rfl (by decide) hl.1 dX10_gatesToFree_20 ⟨(by decide), (by decide)⟩ (fun H locs hW hS => ?_)
      refine z_astore (lv' := [(4, va_rf r8), (0, .ref o), (1, .int v1), (2, .int v2), (3, .int v3)]) hx hb dX10_gatesToFree_23 hl (by decide) rfl (fun ls hl => ?_)
      refine z_aload hx hb dX10_gatesToFree_25 (lv_at hl 0 rfl) ?_
      cases r8 with
      | none =>
        replace h := oe_n h
        have hl : lv_has ls 5 [(4, .null), (0, .ref o), (1, .int v1), (2, .int v2), (3, .int v3)] := hl
        refine lv_ifnullN (tgt := 63) hx hb dX10_gatesToFree_27 (by decide) ?_
        refine lv_iinc (v := (v3 + 1)) (lv' := [(3, .int (v3 + 1)), (4, .null), (0, .ref o), (1, .int v1), (2, .int v2)]) hx hb dX10_gatesToFree_63 hl (k := 4) rfl rfl (by decide) rfl (fun ls hl => ?_)
        refine lv_goto (tgt := 4) hx hb dX10_gatesToFree_66 (by decide) ?_
        exact ih o v1 v2 (v3 + 1) _ _ _ _ (lv_sub hl [2, 3, 4, 0] rfl) hW hS h
      | some a10 =>
        replace h := oe_s h
        have hl : lv_has ls 5 [(4, .ref a10), (0, .ref o), (1, .int v1), (2, .int v2), (3, .int v3)] := hl
        refine lv_ifnull hx hb dX10_gatesToFree_27 ?_
        refine lv_aload hx hb dX10_gatesToFree_30 (lv_at hl 0 rfl) ?_
        replace h := b1_some h
        obtain ⟨x11, gx11, h⟩ := h
        refine z_getI X hW gx11 kX5 (by decide) (by decide) kf_X10_109 dX10_gatesToFree_32 ?_
        refine lv_iload_n hx hb dX10_gatesToFree_35 rfl (lv_at hl 2 rfl) ?_
        refine lv_icmp_ne (tgt := 63) hx hb dX10_gatesToFree_36 (by decide) (fun c12 => ?_) (fun c12 => ?_)
        · replace h := it_f h c12
          refine lv_iinc (v := (v3 + 1)) (lv' := [(3, .int (v3 + 1)), (4, .ref a10), (0, .ref o), (1, .int v1), (2, .int v2)]) hx hb dX10_gatesToFree_63 hl (k := 4) rfl rfl (by decide) rfl (fun ls hl => ?_)
          refine lv_goto (tgt := 4) hx hb dX10_gatesToFree_66 (by decide) ?_
          exact ih o v1 v2 (v3 + 1) _ _ _ _ (lv_sub hl [2, 3, 4, 0] rfl) hW hS h
        · replace h := it_t h c12
          refine lv_aload hx hb dX10_gatesToFree_39 (lv_at hl 0 rfl) ?_
          replace h := b1_some h
          obtain ⟨x13, gx13, h⟩ := h
          refine z_getI X hW gx13 kX5 (by decide) (by decide) kf_X10_173 dX10_gatesToFree_41 ?_
          refine lv_iconst (v := 3) hx hb dX10_gatesToFree_44 (by decide) ?_
          refine lv_icmp_ne (tgt := 63) hx hb dX10_gatesToFree_45 (by decide) (fun c14 => ?_) (fun c14 => ?_)
          · replace h := it_f h c14
            refine lv_iinc (v := (v3 + 1)) (lv' := [(3, .int (v3 + 1)), (4, .ref a10), (0, .ref o), (1, .int v1), (2, .int v2)]) hx hb dX10_gatesToFree_63 hl (k := 4) rfl rfl (by decide) rfl (fun ls hl => ?_)
            refine lv_goto (tgt := 4) hx hb dX10_gatesToFree_66 (by decide) ?_
            exact ih o v1 v2 (v3 + 1) _ _ _ _ (lv_sub hl [2, 3, 4, 0] rfl) hW hS h
          · replace h := it_t h c14
            refine lv_aload_n hx hb dX10_gatesToFree_48 rfl (lv_at hl 1 rfl) ?_
            replace h := b1_some h
            obtain ⟨a15, ga15, h⟩ := h
            refine z_getA X hW ga15 kX10 (by decide) (by decide) kf_X10_49 dX10_gatesToFree_49 ?_
            refine lv_aload hx hb dX10_gatesToFree_52 (lv_at hl 0 rfl) ?_
            replace h := b1_some h
            obtain ⟨q16, gq16, h⟩ := h
            replace h := b2_some h
            obtain ⟨x17, s18, gs18, h⟩ := h
            refine z_callVi (rest := []) X hW hS (cX3_has_met gs18) kb_X3_has kv_X3_has kl_X10_244 (it_v gq16).1 kX3 rfl rfl ⟨Nat.le_of_ble_eq_true rfl, Nat.le_of_ble_eq_true rfl⟩ rfl rfl (by decide) hl.1 dX10_gatesToFree_54 ⟨(by decide), (by decide)⟩ (fun H locs hW hS => ?_)
            refine lv_if_ne (tgt := 63) hx hb dX10_gatesToFree_57 (by decide) (fun c19 => ?_) (fun c19 => ?_)
            · replace h := it_f h c19
              refine lv_iinc (v := (v3 + 1)) (lv' := [(3, .int (v3 + 1)), (4, .ref a10), (0, .ref o), (1, .int v1), (2, .int v2)]) hx hb dX10_gatesToFree_63 hl (k := 4) rfl rfl (by decide) rfl (fun ls hl => ?_)
              refine lv_goto (tgt := 4) hx hb dX10_gatesToFree_66 (by decide) ?_
              exact ih o v1 v2 (v3 + 1) _ _ _ _ (lv_sub hl [2, 3, 4, 0] rfl) hW hS h
            · replace h := it_t h c19
              refine lv_iinc (v := (v2 + 1)) (lv' := [(2, .int (v2 + 1)), (4, .ref a10), (0, .ref o), (1, .int v1), (3, .int v3)]) hx hb dX10_gatesToFree_60 hl (k := 3) rfl rfl (by decide) rfl (fun ls hl => ?_)
              refine lv_iinc (v := (v3 + 1)) (lv' := [(3, .int (v3 + 1)), (2, .int (v2 + 1)), (4, .ref a10), (0, .ref o), (1, .int v1)]) hx hb dX10_gatesToFree_63 hl (k := 4) rfl rfl (by decide) rfl (fun ls hl => ?_)
              refine lv_goto (tgt := 4) hx hb dX10_gatesToFree_66 (by decide) ?_
              exact ih o v1 (v2 + 1) (v3 + 1) _ _ _ _ (lv_sub hl [3, 4, 1, 0] rfl) hW hS h

def fX10_gatesToFree (o : Nat) (v1 : Int32) (h : Hz) : Option (Int32 × Hz) := fX10_gatesToFree_4 100000 o v1 0 0 h
set_option maxHeartbeats 4000000 in
set_option maxRecDepth 100000 in
theorem wX10_gatesToFree_0 {r0 : Int32} {h0 : Hz} (X : zX A D cy p s m args c cX10_gatesToFree RX10 5) (hlk : meth.locks = false) (hr : meth.sig.returnType = (some .int)) (o : Nat) (v1 : Int32) (h : Hz) (H : Heap) (locs : List Loc) (ls : Array Slot) (hl : lv_has ls 5 [(0, .ref o), (1, .int v1)]) (hW : zW A cy D h H) (hS : va_S A s.heap H locs) (h : fX10_gatesToFree o v1 h = some (r0, h0)) : W p l e ({ frames := 1, cells := 0, slots := 0, locals := 22 } : Room) s m args below meth c H locs 0 0 (MQ below (va_Qi (fun r1 u => r1 = r0 ∧ u = h0) (zB A D cy) A) args s 0 0 A) (F0 m 0 ls []) := by
  obtain ⟨hx, hb, hts, hown, hK9, hml, hN9, hA9⟩ := id X
  unfold fX10_gatesToFree at h
  refine lv_iconst (v := 0) hx hb dX10_gatesToFree_0 (by decide) ?_
  refine lv_istore_n (lv' := [(2, .int 0), (0, .ref o), (1, .int v1)]) hx hb dX10_gatesToFree_1 rfl hl (by decide) rfl (fun ls hl => ?_)
  refine lv_iconst (v := 0) hx hb dX10_gatesToFree_2 (by decide) ?_
  refine lv_istore_n (lv' := [(3, .int 0), (2, .int 0), (0, .ref o), (1, .int v1)]) hx hb dX10_gatesToFree_3 rfl hl (by decide) rfl (fun ls hl => ?_)
  exact wX10_gatesToFree_4 X hlk hr _ o v1 0 0 _ _ _ _ (lv_sub hl [2, 3, 1, 0] rfl) hW hS h

set_option maxHeartbeats 4000000 in
set_option maxRecDepth 100000 in
theorem cX10_gatesToFree_met {l : Launch} {A : Nat → Prop} {D : va_G} {cy : Nat → ClassId} {r0 : Int32} {h0 : Hz} {o : Nat} {v1 : Int32} {h : Hz} (g : fX10_gatesToFree o v1 h = some (r0, h0)) : Met l yX10_gatesToFree (Cond.code yX10_gatesToFree cX10_gatesToFree 5 (some .int) :: wT) ({ frames := 1, cells := 0, slots := 0, locals := 22 } : Room) (va_Pc [.ref o, .int v1] (zS A D cy h)) (va_Qi (fun r1 u => r1 = r0 ∧ u = h0) (zB A D cy) A) 0 0 A := by
  refine Met.ofW (cc := cX10_gatesToFree) (maxL := 5) (ret := (some .int)) (by decide) rfl ?_
  intro p e s m args below meth c s₁ B hml hv
  obtain ⟨rfl, hW, hK, hN, hA⟩ := hv
  have X : zX A D cy p s m _ c cX10_gatesToFree RX10 5 := ⟨B.exec, B.bytes, fun w hw => atoms_spec (ws := Cond.code yX10_gatesToFree cX10_gatesToFree 5 (some .int) :: wT) B.pre w (List.mem_cons_of_mem _ hw), findClass_of_methodNamed B.named, hK, hml, hN, hA⟩
  have hl := lv_entry [.ref o, .int v1] (n := 5) (Nat.le_of_ble_eq_true rfl)
  rw [lg_entry_eq]
  generalize (lg_sl [.ref o, .int v1] ++ List.replicate (5 - (lg_sl [.ref o, .int v1]).length) Slot.unset).toArray = ls at hl ⊢
  have hl : lv_has ls 5 [(0, .ref o), (1, .int v1)] := hl
  exact wX10_gatesToFree_0 X B.notSynchronized B.returns o v1 _ _ _ _ (lv_sub hl [0, 1] rfl) hW va_S.rf g

theorem dX10_clean_0 : decode cX10_clean 0 = .ok (.iload_n 1, 1) := by decide +kernel
theorem dX10_clean_1 : decode cX10_clean 1 = .ok (.invokestatic 73, 3) := by decide +kernel
theorem dX10_clean_4 : decode cX10_clean 4 = .ok (.ifCond .ne 9, 3) := by decide +kernel
theorem dX10_clean_7 : decode cX10_clean 7 = .ok (.aload_n 0, 1) := by decide +kernel
theorem dX10_clean_8 : decode cX10_clean 8 = .ok (.iconst (-1), 1) := by decide +kernel
theorem dX10_clean_9 : decode cX10_clean 9 = .ok (.invokevirtual 77, 3) := by decide +kernel
theorem dX10_clean_12 : decode cX10_clean 12 = .ok (.ireturn, 1) := by decide +kernel
theorem dX10_clean_13 : decode cX10_clean 13 = .ok (.aload_n 0, 1) := by decide +kernel
theorem dX10_clean_14 : decode cX10_clean 14 = .ok (.iload_n 1, 1) := by decide +kernel
theorem dX10_clean_15 : decode cX10_clean 15 = .ok (.invokevirtual 232, 3) := by decide +kernel
theorem dX10_clean_18 : decode cX10_clean 18 = .ok (.aload_n 0, 1) := by decide +kernel
theorem dX10_clean_19 : decode cX10_clean 19 = .ok (.getfield 19, 3) := by decide +kernel
theorem dX10_clean_22 : decode cX10_clean 22 = .ok (.aload_n 0, 1) := by decide +kernel
theorem dX10_clean_23 : decode cX10_clean 23 = .ok (.iload_n 1, 1) := by decide +kernel
theorem dX10_clean_24 : decode cX10_clean 24 = .ok (.invokevirtual 235, 3) := by decide +kernel
theorem dX10_clean_27 : decode cX10_clean 27 = .ok (.invokevirtual 238, 3) := by decide +kernel
theorem dX10_clean_30 : decode cX10_clean 30 = .ok (.ifCond .ne 10, 3) := by decide +kernel
theorem dX10_clean_33 : decode cX10_clean 33 = .ok (.aload_n 0, 1) := by decide +kernel
theorem dX10_clean_34 : decode cX10_clean 34 = .ok (.bipush (-6), 2) := by decide +kernel
theorem dX10_clean_36 : decode cX10_clean 36 = .ok (.invokevirtual 77, 3) := by decide +kernel
theorem dX10_clean_39 : decode cX10_clean 39 = .ok (.ireturn, 1) := by decide +kernel
theorem dX10_clean_40 : decode cX10_clean 40 = .ok (.aload_n 0, 1) := by decide +kernel
theorem dX10_clean_41 : decode cX10_clean 41 = .ok (.iconst 0, 1) := by decide +kernel
theorem dX10_clean_42 : decode cX10_clean 42 = .ok (.putfield 67, 3) := by decide +kernel
theorem dX10_clean_45 : decode cX10_clean 45 = .ok (.iconst 0, 1) := by decide +kernel
theorem dX10_clean_46 : decode cX10_clean 46 = .ok (.istore_n 2, 1) := by decide +kernel
theorem dX10_clean_47 : decode cX10_clean 47 = .ok (.iload_n 2, 1) := by decide +kernel
theorem dX10_clean_48 : decode cX10_clean 48 = .ok (.aload_n 0, 1) := by decide +kernel
theorem dX10_clean_49 : decode cX10_clean 49 = .ok (.getfield 10, 3) := by decide +kernel
theorem dX10_clean_52 : decode cX10_clean 52 = .ok (.invokevirtual 241, 3) := by decide +kernel
theorem dX10_clean_55 : decode cX10_clean 55 = .ok (.if_icmp .ge 46, 3) := by decide +kernel
theorem dX10_clean_58 : decode cX10_clean 58 = .ok (.aload_n 0, 1) := by decide +kernel
theorem dX10_clean_59 : decode cX10_clean 59 = .ok (.getfield 10, 3) := by decide +kernel
theorem dX10_clean_62 : decode cX10_clean 62 = .ok (.iload_n 2, 1) := by decide +kernel
theorem dX10_clean_63 : decode cX10_clean 63 = .ok (.invokevirtual 94, 3) := by decide +kernel
theorem dX10_clean_66 : decode cX10_clean 66 = .ok (.astore_n 3, 1) := by decide +kernel
theorem dX10_clean_67 : decode cX10_clean 67 = .ok (.aload_n 3, 1) := by decide +kernel
theorem dX10_clean_68 : decode cX10_clean 68 = .ok (.ifnull 27, 3) := by decide +kernel
theorem dX10_clean_71 : decode cX10_clean 71 = .ok (.aload_n 3, 1) := by decide +kernel
theorem dX10_clean_72 : decode cX10_clean 72 = .ok (.getfield 109, 3) := by decide +kernel
theorem dX10_clean_75 : decode cX10_clean 75 = .ok (.iload_n 1, 1) := by decide +kernel
theorem dX10_clean_76 : decode cX10_clean 76 = .ok (.if_icmp .ne 19, 3) := by decide +kernel
theorem dX10_clean_79 : decode cX10_clean 79 = .ok (.aload_n 0, 1) := by decide +kernel
theorem dX10_clean_80 : decode cX10_clean 80 = .ok (.getfield 49, 3) := by decide +kernel
theorem dX10_clean_83 : decode cX10_clean 83 = .ok (.aload_n 3, 1) := by decide +kernel
theorem dX10_clean_84 : decode cX10_clean 84 = .ok (.invokevirtual 244, 3) := by decide +kernel
theorem dX10_clean_87 : decode cX10_clean 87 = .ok (.ifCond .ne 8, 3) := by decide +kernel
theorem dX10_clean_90 : decode cX10_clean 90 = .ok (.aload_n 0, 1) := by decide +kernel
theorem dX10_clean_91 : decode cX10_clean 91 = .ok (.aload_n 3, 1) := by decide +kernel
theorem dX10_clean_92 : decode cX10_clean 92 = .ok (.invokevirtual 247, 3) := by decide +kernel
theorem dX10_clean_95 : decode cX10_clean 95 = .ok (.iinc 2 1, 3) := by decide +kernel
theorem dX10_clean_98 : decode cX10_clean 98 = .ok (.goto (-51), 3) := by decide +kernel
theorem dX10_clean_101 : decode cX10_clean 101 = .ok (.aload_n 0, 1) := by decide +kernel
theorem dX10_clean_102 : decode cX10_clean 102 = .ok (.getfield 67, 3) := by decide +kernel
theorem dX10_clean_105 : decode cX10_clean 105 = .ok (.ifCond .le 8, 3) := by decide +kernel
theorem dX10_clean_108 : decode cX10_clean 108 = .ok (.aload_n 0, 1) := by decide +kernel
theorem dX10_clean_109 : decode cX10_clean 109 = .ok (.iload_n 1, 1) := by decide +kernel
theorem dX10_clean_110 : decode cX10_clean 110 = .ok (.invokevirtual 85, 3) := by decide +kernel
theorem dX10_clean_113 : decode cX10_clean 113 = .ok (.aload_n 0, 1) := by decide +kernel
theorem dX10_clean_114 : decode cX10_clean 114 = .ok (.getfield 67, 3) := by decide +kernel
theorem dX10_clean_117 : decode cX10_clean 117 = .ok (.ireturn, 1) := by decide +kernel
def fX10_clean_47 : Nat → Nat → Int32 → Int32 → Hz → Option (Int32 × Hz)
  | 0, _, _, _, _ => none
  | n + 1, o, v1, v2, h => (b1 (gA 10 0 o h) fun a1 => (b1 (tg 6 a1 h) fun _ => (b2 (fX6_size a1 h) fun x3 s4 => (if x3 ≤ v2 then (b1 (gI 10 11 o s4) fun x6 => (if x6 ≤ 0 then (b1 (gI 10 11 o s4) fun x8 => some (x8, s4)) else (b1 (tg 10 o s4) fun _ => (b2 (fX10_touch o v1 s4) fun _ s11 => (b1 (gI 10 11 o s11) fun x12 => some (x12, s11)))))) else (b1 (gA 10 0 o s4) fun a13 => (b1 (tg 6 a13 s4) fun _ => (b2 (fX6_find a13 v2 s4) fun r15 s16 => (oe r15 (fX10_clean_47 n o v1 (v2 + 1) s16) fun a17 => (b1 (gI 5 2 a17 s16) fun x18 => (if x18 = v1 then (b1 (gA 10 7 o s16) fun a20 => (b1 (tg 3 a20 s16) fun _ => (b2 (fX3_has a20 (some a17) s16) fun x22 s23 => (if x22 = 0 then (b1 (tg 10 o s23) fun _ => (b2 (fX10_free o (some a17) s23) fun _ s27 => fX10_clean_47 n o v1 (v2 + 1) s27)) else fX10_clean_47 n o v1 (v2 + 1) s23)))) else fX10_clean_47 n o v1 (v2 + 1) s16))))))))))
set_option maxHeartbeats 4000000 in
set_option maxRecDepth 100000 in
theorem wX10_clean_47 {r0 : Int32} {h0 : Hz} (X : zX A D cy p s m args c cX10_clean RX10 4) (hlk : meth.locks = false) (hr : meth.sig.returnType = (some .int)) : ∀ (n : Nat) (o : Nat) (v1 : Int32) (v2 : Int32) (h : Hz) (H : Heap) (locs : List Loc) (ls : Array Slot) (cells slots : Nat) (hc9 : cells + n * 1 ≤ 700) (hs9 : slots + n * 10 ≤ 7000) (hl : lv_has ls 4 [(0, .ref o), (1, .int v1), (2, .int v2)]) (hW : zW A cy D h H) (hS : va_S A s.heap H locs) (h : fX10_clean_47 n o v1 v2 h = some (r0, h0)), W p l e ({ frames := 5, cells := 700, slots := 7000, locals := 110 } : Room) s m args below meth c H locs cells slots (MQ below (va_Qi (fun r1 u => r1 = r0 ∧ u = h0) (zB A D cy) A) args s 700 7000 A) (F0 m 47 ls []) := by
  obtain ⟨hx, hb, hts, hown, hK9, hml, hN9, hA9⟩ := id X
  intro n
  induction n with
  | zero =>
    intro o v1 v2 h H locs ls cells slots hc9 hs9 hl hW hS h
    rw [fX10_clean_47] at h
    cases h
  | succ n ih =>
    intro o v1 v2 h H locs ls cells slots hc9 hs9 hl hW hS h
    rw [fX10_clean_47] at h
    refine lv_iload_n hx hb dX10_clean_47 rfl (lv_at hl 2 rfl) ?_
    refine lv_aload_n hx hb dX10_clean_48 rfl (lv_at hl 0 rfl) ?_
    replace h := b1_some h
    obtain ⟨a1, ga1, h⟩ := h
    refine z_getA X hW ga1 kX10 (by decide) (by decide) kf_X10_10 dX10_clean_49 ?_
    replace h := b1_some h
    obtain ⟨q2, gq2, h⟩ := h
    replace h := b2_some h
    obtain ⟨x3, s4, gs4, h⟩ := h
    refine z_callVi (rest := [.int v2]) X hW hS (cX6_size_met gs4) kb_X6_size kv_X6_size kl_X10_241 (it_v gq2).1 kX6 rfl rfl ⟨Nat.le_of_ble_eq_true rfl, Nat.le_of_ble_eq_true rfl⟩ rfl rfl (Nat.le_of_ble_eq_true rfl) hl.1 dX10_clean_52 ⟨(by show _ ≤ 700; omega), (by show _ ≤ 7000; omega)⟩ (fun H locs hW hS => ?_)
    refine lv_icmp_ge (tgt := 101) hx hb dX10_clean_55 (by decide) (fun c5 => ?_) (fun c5 => ?_)
    · replace h := it_t h c5
      refine lv_aload_n hx hb dX10_clean_101 rfl (lv_at hl 0 rfl) ?_
      replace h := b1_some h
      obtain ⟨x6, gx6, h⟩ := h
      refine z_getI X hW gx6 kX10 (by decide) (by decide) kf_X10_67 dX10_clean_102 ?_
      refine lv_if_le (tgt := 113) hx hb dX10_clean_105 (by decide) (fun c7 => ?_) (fun c7 => ?_)
      · replace h := it_t h c7
        refine lv_aload_n hx hb dX10_clean_113 rfl (lv_at hl 0 rfl) ?_
        replace h := b1_some h
        obtain ⟨x8, gx8, h⟩ := h
        refine z_getI X hW gx8 kX10 (by decide) (by decide) kf_X10_67 dX10_clean_114 ?_
        exact z_eti X hlk hr hW hS h (by show _ ≤ 700; omega) (by show _ ≤ 7000; omega) dX10_clean_117
      · replace h := it_f h c7
        refine lv_aload_n hx hb dX10_clean_108 rfl (lv_at hl 0 rfl) ?_
        refine lv_iload_n hx hb dX10_clean_109 rfl (lv_at hl 1 rfl) ?_
        replace h := b1_some h
        obtain ⟨q9, gq9, h⟩ := h
        replace h := b2_some h
        obtain ⟨_ur10, s11, gs11, h⟩ := h
        refine z_callVv (rest := []) X hW hS (cX10_touch_met gs11) kb_X10_touch kv_X10_touch kl_X10_85 (it_v gq9).1 kX10 rfl rfl ⟨Nat.le_of_ble_eq_true rfl, Nat.le_of_ble_eq_true rfl⟩ rfl rfl (by decide) hl.1 dX10_clean_110 ⟨(by show _ ≤ 700; omega), (by show _ ≤ 7000; omega)⟩ (fun H locs hW hS => ?_)
        refine lv_aload_n hx hb dX10_clean_113 rfl (lv_at hl 0 rfl) ?_
        replace h := b1_some h
        obtain ⟨x12, gx12, h⟩ := h
        refine z_getI X hW gx12 kX10 (by decide) (by decide) kf_X10_67 dX10_clean_114 ?_
        exact z_eti X hlk hr hW hS h (by show _ ≤ 700; omega) (by show _ ≤ 7000; omega) dX10_clean_117
    · replace h := it_f h c5
      refine lv_aload_n hx hb dX10_clean_58 rfl (lv_at hl 0 rfl) ?_
      replace h := b1_some h
      obtain ⟨a13, ga13, h⟩ := h
      refine z_getA X hW ga13 kX10 (by decide) (by decide) kf_X10_10 dX10_clean_59 ?_
      refine lv_iload_n hx hb dX10_clean_62 rfl (lv_at hl 2 rfl) ?_
      replace h := b1_some h
      obtain ⟨q14, gq14, h⟩ := h
      replace h := b2_some h
      obtain ⟨r15, s16, gs16, h⟩ := h
      refine z_callVq (rest := []) X hW hS (cX6_find_met gs16) kb_X6_find kv_X6_find kl_X10_94 (it_v gq14).1 kX6 rfl rfl ⟨Nat.le_of_ble_eq_true rfl, Nat.le_of_ble_eq_true rfl⟩ rfl rfl (by decide) hl.1 dX10_clean_63 ⟨(by show _ ≤ 700; omega), (by show _ ≤ 7000; omega)⟩ (fun H locs hW hS => ?_)
      refine z_astore_n (lv' := [(3, va_rf r15), (0, .ref o), (1, .int v1), (2, .int v2)]) hx hb dX10_clean_66 rfl hl (by decide) rfl (fun ls hl => ?_)
      refine z_aload_n hx hb dX10_clean_67 rfl (lv_at hl 0 rfl) ?_
      cases r15 with
      | none =>
        replace h := oe_n h
        have hl : lv_has ls 4 [(3, .null), (0, .ref o), (1, .int v1), (2, .int v2)] := hl
        refine lv_ifnullN (tgt := 95) hx hb dX10_clean_68 (by decide) ?_
        refine lv_iinc (v := (v2 + 1)) (lv' := [(2, .int (v2 + 1)), (3, .null), (0, .ref o), (1, .int v1)]) hx hb dX10_clean_95 hl (k := 3) rfl rfl (by decide) rfl (fun ls hl => ?_)
        refine lv_goto (tgt := 47) hx hb dX10_clean_98 (by decide) ?_
        exact ih o v1 (v2 + 1) _ _ _ _ _ _ (by omega) (by omega) (lv_sub hl [2, 3, 0] rfl) hW hS h
      | some a17 =>
        replace h := oe_s h
        have hl : lv_has ls 4 [(3, .ref a17), (0, .ref o), (1, .int v1), (2, .int v2)] := hl
        refine lv_ifnull hx hb dX10_clean_68 ?_
        refine lv_aload_n hx hb dX10_clean_71 rfl (lv_at hl 0 rfl) ?_
        replace h := b1_some h
        obtain ⟨x18, gx18, h⟩ := h
        refine z_getI X hW gx18 kX5 (by decide) (by decide) kf_X10_109 dX10_clean_72 ?_
        refine lv_iload_n hx hb dX10_clean_75 rfl (lv_at hl 2 rfl) ?_
        refine lv_icmp_ne (tgt := 95) hx hb dX10_clean_76 (by decide) (fun c19 => ?_) (fun c19 => ?_)
        · replace h := it_f h c19
          refine lv_iinc (v := (v2 + 1)) (lv' := [(2, .int (v2 + 1)), (3, .ref a17), (0, .ref o), (1, .int v1)]) hx hb dX10_clean_95 hl (k := 3) rfl rfl (by decide) rfl (fun ls hl => ?_)
          refine lv_goto (tgt := 47) hx hb dX10_clean_98 (by decide) ?_
          exact ih o v1 (v2 + 1) _ _ _ _ _ _ (by omega) (by omega) (lv_sub hl [2, 3, 0] rfl) hW hS h
        · replace h := it_t h c19
          refine lv_aload_n hx hb dX10_clean_79 rfl (lv_at hl 1 rfl) ?_
          replace h := b1_some h
          obtain ⟨a20, ga20, h⟩ := h
          refine z_getA X hW ga20 kX10 (by decide) (by decide) kf_X10_49 dX10_clean_80 ?_
          refine lv_aload_n hx hb dX10_clean_83 rfl (lv_at hl 0 rfl) ?_
          replace h := b1_some h
          obtain ⟨q21, gq21, h⟩ := h
          replace h := b2_some h
          obtain ⟨x22, s23, gs23, h⟩ := h
          refine z_callVi (rest := []) X hW hS (cX3_has_met gs23) kb_X3_has kv_X3_has kl_X10_244 (it_v gq21).1 kX3 rfl rfl ⟨Nat.le_of_ble_eq_true rfl, Nat.le_of_ble_eq_true rfl⟩ rfl rfl (by decide) hl.1 dX10_clean_84 ⟨(by show _ ≤ 700; omega), (by show _ ≤ 7000; omega)⟩ (fun H locs hW hS => ?_)
          refine lv_if_ne (tgt := 95) hx hb dX10_clean_87 (by decide) (fun c24 => ?_) (fun c24 => ?_)
          · replace h := it_f h c24
            refine lv_iinc (v := (v2 + 1)) (lv' := [(2, .int (v2 + 1)), (3, .ref a17), (0, .ref o), (1, .int v1)]) hx hb dX10_clean_95 hl (k := 3) rfl rfl (by decide) rfl (fun ls hl => ?_)
            refine lv_goto (tgt := 47) hx hb dX10_clean_98 (by decide) ?_
            exact ih o v1 (v2 + 1) _ _ _ _ _ _ (by omega) (by omega) (lv_sub hl [2, 3, 0] rfl) hW hS h
          · replace h := it_t h c24
            refine lv_aload_n hx hb dX10_clean_90 rfl (lv_at hl 1 rfl) ?_
            refine lv_aload_n hx hb dX10_clean_91 rfl (lv_at hl 0 rfl) ?_
            replace h := b1_some h
            obtain ⟨q25, gq25, h⟩ := h
            replace h := b2_some h
            obtain ⟨_ur26, s27, gs27, h⟩ := h
            refine z_callVv (rest := []) X hW hS (cX10_free_met gs27) kb_X10_free kv_X10_free kl_X10_247 (it_v gq25).1 kX10 rfl rfl ⟨Nat.le_of_ble_eq_true rfl, Nat.le_of_ble_eq_true rfl⟩ rfl rfl (by decide) hl.1 dX10_clean_92 ⟨(by show _ ≤ 700; omega), (by show _ ≤ 7000; omega)⟩ (fun H locs hW hS => ?_)
            refine lv_iinc (v := (v2 + 1)) (lv' := [(2, .int (v2 + 1)), (3, .ref a17), (0, .ref o), (1, .int v1)]) hx hb dX10_clean_95 hl (k := 3) rfl rfl (by decide) rfl (fun ls hl => ?_)
            refine lv_goto (tgt := 47) hx hb dX10_clean_98 (by decide) ?_
            exact ih o v1 (v2 + 1) _ _ _ _ _ _ (by omega) (by omega) (lv_sub hl [2, 3, 0] rfl) hW hS h

def fX10_clean (o : Nat) (v1 : Int32) (h : Hz) : Option (Int32 × Hz) := (b2 (fX10_isHost v1 h) fun x1 s2 => (if x1 = 0 then (b1 (tg 10 o s2) fun _ => (b2 (fX10_refuse o (-1) s2) fun x20 s21 => some (x20, s21))) else (b1 (tg 10 o s2) fun _ => (b2 (fX10_findKept o v1 s2) fun _ s6 => (b1 (gA 10 1 o s6) fun a7 => (b1 (tg 10 o s6) fun _ => (b2 (fX10_gatesToFree o v1 s6) fun x9 s10 => (b1 (tg 2 a7 s10) fun _ => (b2 (fX2_hasRoom a7 x9 s10) fun x12 s13 => (if x12 = 0 then (b1 (tg 10 o s13) fun _ => (b2 (fX10_refuse o (-6) s13) fun x17 s18 => some (x17, s18))) else (b1 (pI 10 11 o 0 s13) fun s15 => fX10_clean_47 700 o v1 0 s15)))))))))))
set_option maxHeartbeats 4000000 in
set_option maxRecDepth 100000 in
theorem wX10_clean_0 {r0 : Int32} {h0 : Hz} (X : zX A D cy p s m args c cX10_clean RX10 4) (hlk : meth.locks = false) (hr : meth.sig.returnType = (some .int)) (o : Nat) (v1 : Int32) (h : Hz) (H : Heap) (locs : List Loc) (ls : Array Slot) (hl : lv_has ls 4 [(0, .ref o), (1, .int v1)]) (hW : zW A cy D h H) (hS : va_S A s.heap H locs) (h : fX10_clean o v1 h = some (r0, h0)) : W p l e ({ frames := 5, cells := 700, slots := 7000, locals := 110 } : Room) s m args below meth c H locs 0 0 (MQ below (va_Qi (fun r1 u => r1 = r0 ∧ u = h0) (zB A D cy) A) args s 700 7000 A) (F0 m 0 ls []) := by
  obtain ⟨hx, hb, hts, hown, hK9, hml, hN9, hA9⟩ := id X
  unfold fX10_clean at h
  refine lv_iload_n hx hb dX10_clean_0 rfl (lv_at hl 1 rfl) ?_
  replace h := b2_some h
  obtain ⟨x1, s2, gs2, h⟩ := h
  refine z_callSi (rest := []) X hW hS (cX10_isHost_met gs2) kb_X10_isHost ks_X10_isHost kl_X10_73 rfl rfl ⟨Nat.le_of_ble_eq_true rfl, Nat.le_of_ble_eq_true rfl⟩ rfl rfl (by decide) hl.1 dX10_clean_1 ⟨(by decide), (by decide)⟩ (fun H locs hW hS => ?_)
  refine lv_if_ne (tgt := 13) hx hb dX10_clean_4 (by decide) (fun c3 => ?_) (fun c3 => ?_)
  · replace h := it_f h c3
    refine lv_aload_n hx hb dX10_clean_13 rfl (lv_at hl 0 rfl) ?_
    refine lv_iload_n hx hb dX10_clean_14 rfl (lv_at hl 1 rfl) ?_
    replace h := b1_some h
    obtain ⟨q4, gq4, h⟩ := h
    replace h := b2_some h
    obtain ⟨_ur5, s6, gs6, h⟩ := h
    refine z_callVv (rest := []) X hW hS (cX10_findKept_met gs6) kb_X10_findKept kv_X10_findKept kl_X10_232 (it_v gq4).1 kX10 rfl rfl ⟨Nat.le_of_ble_eq_true rfl, Nat.le_of_ble_eq_true rfl⟩ rfl rfl (by decide) hl.1 dX10_clean_15 ⟨(by decide), (by decide)⟩ (fun H locs hW hS => ?_)
    refine lv_aload_n hx hb dX10_clean_18 rfl (lv_at hl 0 rfl) ?_
    replace h := b1_some h
    obtain ⟨a7, ga7, h⟩ := h
    refine z_getA X hW ga7 kX10 (by decide) (by decide) kf_X10_19 dX10_clean_19 ?_
    refine lv_aload_n hx hb dX10_clean_22 rfl (lv_at hl 0 rfl) ?_
    refine lv_iload_n hx hb dX10_clean_23 rfl (lv_at hl 1 rfl) ?_
    replace h := b1_some h
    obtain ⟨q8, gq8, h⟩ := h
    replace h := b2_some h
    obtain ⟨x9, s10, gs10, h⟩ := h
    refine z_callVi (rest := [.ref a7]) X hW hS (cX10_gatesToFree_met gs10) kb_X10_gatesToFree kv_X10_gatesToFree kl_X10_235 (it_v gq8).1 kX10 rfl rfl ⟨Nat.le_of_ble_eq_true rfl, Nat.le_of_ble_eq_true rfl⟩ rfl rfl (Nat.le_of_ble_eq_true rfl) hl.1 dX10_clean_24 ⟨(by decide), (by decide)⟩ (fun H locs hW hS => ?_)
    replace h := b1_some h
    obtain ⟨q11, gq11, h⟩ := h
    replace h := b2_some h
    obtain ⟨x12, s13, gs13, h⟩ := h
    refine z_callVi (rest := []) X hW hS (cX2_hasRoom_met gs13) kb_X2_hasRoom kv_X2_hasRoom kl_X10_238 (it_v gq11).1 kX2 rfl rfl ⟨Nat.le_of_ble_eq_true rfl, Nat.le_of_ble_eq_true rfl⟩ rfl rfl (by decide) hl.1 dX10_clean_27 ⟨(by decide), (by decide)⟩ (fun H locs hW hS => ?_)
    refine lv_if_ne (tgt := 40) hx hb dX10_clean_30 (by decide) (fun c14 => ?_) (fun c14 => ?_)
    · replace h := it_f h c14
      refine lv_aload_n hx hb dX10_clean_40 rfl (lv_at hl 0 rfl) ?_
      refine lv_iconst (v := 0) hx hb dX10_clean_41 (by decide) ?_
      replace h := b1_some h
      obtain ⟨s15, gs15, h⟩ := h
      refine z_putI X hW hS gs15 kX10 (by decide) (by decide) rfl (Or.inl rfl) kf_X10_67 dX10_clean_42 (fun H locs hW hS => ?_)
      refine lv_iconst (v := 0) hx hb dX10_clean_45 (by decide) ?_
      refine lv_istore_n (lv' := [(2, .int 0), (0, .ref o), (1, .int v1)]) hx hb dX10_clean_46 rfl hl (by decide) rfl (fun ls hl => ?_)
      refine W.widen (k := 0) (n := 0) (by decide) (by decide) ?_
      exact wX10_clean_47 X hlk hr _ o v1 0 _ _ _ _ _ _ (by decide) (by decide) (lv_sub hl [1, 2, 0] rfl) hW hS h
    · replace h := it_t h c14
      refine lv_aload_n hx hb dX10_clean_33 rfl (lv_at hl 0 rfl) ?_
      refine lv_bipush (v := (-6)) hx hb dX10_clean_34 (by decide) ?_
      replace h := b1_some h
      obtain ⟨q16, gq16, h⟩ := h
      replace h := b2_some h
      obtain ⟨x17, s18, gs18, h⟩ := h
      refine z_callVi (rest := []) X hW hS (cX10_refuse_met gs18) kb_X10_refuse kv_X10_refuse kl_X10_77 (it_v gq16).1 kX10 rfl rfl ⟨Nat.le_of_ble_eq_true rfl, Nat.le_of_ble_eq_true rfl⟩ rfl rfl (by decide) hl.1 dX10_clean_36 ⟨(by decide), (by decide)⟩ (fun H locs hW hS => ?_)
      exact z_eti X hlk hr hW hS h (by decide) (by decide) dX10_clean_39
  · replace h := it_t h c3
    refine lv_aload_n hx hb dX10_clean_7 rfl (lv_at hl 0 rfl) ?_
    refine lv_iconst (v := (-1)) hx hb dX10_clean_8 (by decide) ?_
    replace h := b1_some h
    obtain ⟨q19, gq19, h⟩ := h
    replace h := b2_some h
    obtain ⟨x20, s21, gs21, h⟩ := h
    refine z_callVi (rest := []) X hW hS (cX10_refuse_met gs21) kb_X10_refuse kv_X10_refuse kl_X10_77 (it_v gq19).1 kX10 rfl rfl ⟨Nat.le_of_ble_eq_true rfl, Nat.le_of_ble_eq_true rfl⟩ rfl rfl (by decide) hl.1 dX10_clean_9 ⟨(by decide), (by decide)⟩ (fun H locs hW hS => ?_)
    exact z_eti X hlk hr hW hS h (by decide) (by decide) dX10_clean_12

set_option maxHeartbeats 4000000 in
set_option maxRecDepth 100000 in
theorem cX10_clean_met {l : Launch} {A : Nat → Prop} {D : va_G} {cy : Nat → ClassId} {r0 : Int32} {h0 : Hz} {o : Nat} {v1 : Int32} {h : Hz} (g : fX10_clean o v1 h = some (r0, h0)) : Met l yX10_clean (Cond.code yX10_clean cX10_clean 4 (some .int) :: wT) ({ frames := 5, cells := 700, slots := 7000, locals := 110 } : Room) (va_Pc [.ref o, .int v1] (zS A D cy h)) (va_Qi (fun r1 u => r1 = r0 ∧ u = h0) (zB A D cy) A) 700 7000 A := by
  refine Met.ofW (cc := cX10_clean) (maxL := 4) (ret := (some .int)) (by decide) rfl ?_
  intro p e s m args below meth c s₁ B hml hv
  obtain ⟨rfl, hW, hK, hN, hA⟩ := hv
  have X : zX A D cy p s m _ c cX10_clean RX10 4 := ⟨B.exec, B.bytes, fun w hw => atoms_spec (ws := Cond.code yX10_clean cX10_clean 4 (some .int) :: wT) B.pre w (List.mem_cons_of_mem _ hw), findClass_of_methodNamed B.named, hK, hml, hN, hA⟩
  have hl := lv_entry [.ref o, .int v1] (n := 4) (Nat.le_of_ble_eq_true rfl)
  rw [lg_entry_eq]
  generalize (lg_sl [.ref o, .int v1] ++ List.replicate (4 - (lg_sl [.ref o, .int v1]).length) Slot.unset).toArray = ls at hl ⊢
  have hl : lv_has ls 4 [(0, .ref o), (1, .int v1)] := hl
  exact wX10_clean_0 X B.notSynchronized B.returns o v1 _ _ _ _ (lv_sub hl [0, 1] rfl) hW va_S.rf g

theorem dX10_freed_0 : decode cX10_freed 0 = .ok (.iload_n 1, 1) := by decide +kernel
theorem dX10_freed_1 : decode cX10_freed 1 = .ok (.ifCond .lt 20, 3) := by decide +kernel
theorem dX10_freed_4 : decode cX10_freed 4 = .ok (.iload_n 1, 1) := by decide +kernel
theorem dX10_freed_5 : decode cX10_freed 5 = .ok (.aload_n 0, 1) := by decide +kernel
theorem dX10_freed_6 : decode cX10_freed 6 = .ok (.getfield 67, 3) := by decide +kernel
theorem dX10_freed_9 : decode cX10_freed 9 = .ok (.if_icmp .ge 12, 3) := by decide +kernel
theorem dX10_freed_12 : decode cX10_freed 12 = .ok (.iload_n 1, 1) := by decide +kernel
theorem dX10_freed_13 : decode cX10_freed 13 = .ok (.aload_n 0, 1) := by decide +kernel
theorem dX10_freed_14 : decode cX10_freed 14 = .ok (.getfield 43, 3) := by decide +kernel
theorem dX10_freed_17 : decode cX10_freed 17 = .ok (.arraylength, 1) := by decide +kernel
theorem dX10_freed_18 : decode cX10_freed 18 = .ok (.if_icmp .lt 5, 3) := by decide +kernel
theorem dX10_freed_21 : decode cX10_freed 21 = .ok (.iconst (-1), 1) := by decide +kernel
theorem dX10_freed_22 : decode cX10_freed 22 = .ok (.ireturn, 1) := by decide +kernel
theorem dX10_freed_23 : decode cX10_freed 23 = .ok (.aload_n 0, 1) := by decide +kernel
theorem dX10_freed_24 : decode cX10_freed 24 = .ok (.getfield 43, 3) := by decide +kernel
theorem dX10_freed_27 : decode cX10_freed 27 = .ok (.iload_n 1, 1) := by decide +kernel
theorem dX10_freed_28 : decode cX10_freed 28 = .ok (.iaload, 1) := by decide +kernel
theorem dX10_freed_29 : decode cX10_freed 29 = .ok (.ireturn, 1) := by decide +kernel
def fX10_freed (o : Nat) (v1 : Int32) (h : Hz) : Option (Int32 × Hz) := (if v1 < 0 then some ((-1), h) else (b1 (gI 10 11 o h) fun x2 => (if x2 ≤ v1 then some ((-1), h) else (b1 (gA 10 6 o h) fun a4 => (b1 (xN 12 a4 h) fun x5 => (if v1 < x5 then (b1 (gA 10 6 o h) fun a7 => (b1 (xI 12 a7 v1 h) fun x8 => some (x8, h))) else some ((-1), h)))))))
set_option maxHeartbeats 4000000 in
set_option maxRecDepth 100000 in
theorem wX10_freed_0 {r0 : Int32} {h0 : Hz} (X : zX A D cy p s m args c cX10_freed RX10 2) (hlk : meth.locks = false) (hr : meth.sig.returnType = (some .int)) (o : Nat) (v1 : Int32) (h : Hz) (H : Heap) (locs : List Loc) (ls : Array Slot) (hl : lv_has ls 2 [(0, .ref o), (1, .int v1)]) (hW : zW A cy D h H) (hS : va_S A s.heap H locs) (h : fX10_freed o v1 h = some (r0, h0)) : W p l e ({ frames := 0, cells := 0, slots := 0, locals := 0 } : Room) s m args below meth c H locs 0 0 (MQ below (va_Qi (fun r1 u => r1 = r0 ∧ u = h0) (zB A D cy) A) args s 0 0 A) (F0 m 0 ls []) := by
  obtain ⟨hx, hb, hts, hown, hK9, hml, hN9, hA9⟩ := id X
  unfold fX10_freed at h
  refine lv_iload_n hx hb dX10_freed_0 rfl (lv_at hl 1 rfl) ?_
  refine lv_if_lt (tgt := 21) hx hb dX10_freed_1 (by decide) (fun c1 => ?_) (fun c1 => ?_)
  · replace h := it_t h c1
    refine lv_iconst (v := (-1)) hx hb dX10_freed_21 (by decide) ?_
    exact z_eti X hlk hr hW hS h (by decide) (by decide) dX10_freed_22
  · replace h := it_f h c1
    refine lv_iload_n hx hb dX10_freed_4 rfl (lv_at hl 1 rfl) ?_
    refine lv_aload_n hx hb dX10_freed_5 rfl (lv_at hl 0 rfl) ?_
    replace h := b1_some h
    obtain ⟨x2, gx2, h⟩ := h
    refine z_getI X hW gx2 kX10 (by decide) (by decide) kf_X10_67 dX10_freed_6 ?_
    refine lv_icmp_ge (tgt := 21) hx hb dX10_freed_9 (by decide) (fun c3 => ?_) (fun c3 => ?_)
    · replace h := it_t h c3
      refine lv_iconst (v := (-1)) hx hb dX10_freed_21 (by decide) ?_
      exact z_eti X hlk hr hW hS h (by decide) (by decide) dX10_freed_22
    · replace h := it_f h c3
      refine lv_iload_n hx hb dX10_freed_12 rfl (lv_at hl 1 rfl) ?_
      refine lv_aload_n hx hb dX10_freed_13 rfl (lv_at hl 0 rfl) ?_
      replace h := b1_some h
      obtain ⟨a4, ga4, h⟩ := h
      refine z_getA X hW ga4 kX10 (by decide) (by decide) kf_X10_43 dX10_freed_14 ?_
      replace h := b1_some h
      obtain ⟨x5, gx5, h⟩ := h
      refine z_alenI X hW gx5 dX10_freed_17 ?_
      refine lv_icmp_lt (tgt := 23) hx hb dX10_freed_18 (by decide) (fun c6 => ?_) (fun c6 => ?_)
      · replace h := it_t h c6
        refine lv_aload_n hx hb dX10_freed_23 rfl (lv_at hl 0 rfl) ?_
        replace h := b1_some h
        obtain ⟨a7, ga7, h⟩ := h
        refine z_getA X hW ga7 kX10 (by decide) (by decide) kf_X10_43 dX10_freed_24 ?_
        refine lv_iload_n hx hb dX10_freed_27 rfl (lv_at hl 1 rfl) ?_
        replace h := b1_some h
        obtain ⟨x8, gx8, h⟩ := h
        refine z_aldI X hW gx8 dX10_freed_28 ?_
        exact z_eti X hlk hr hW hS h (by decide) (by decide) dX10_freed_29
      · replace h := it_f h c6
        refine lv_iconst (v := (-1)) hx hb dX10_freed_21 (by decide) ?_
        exact z_eti X hlk hr hW hS h (by decide) (by decide) dX10_freed_22

set_option maxHeartbeats 4000000 in
set_option maxRecDepth 100000 in
theorem cX10_freed_met {l : Launch} {A : Nat → Prop} {D : va_G} {cy : Nat → ClassId} {r0 : Int32} {h0 : Hz} {o : Nat} {v1 : Int32} {h : Hz} (g : fX10_freed o v1 h = some (r0, h0)) : Met l yX10_freed (Cond.code yX10_freed cX10_freed 2 (some .int) :: wT) ({ frames := 0, cells := 0, slots := 0, locals := 0 } : Room) (va_Pc [.ref o, .int v1] (zS A D cy h)) (va_Qi (fun r1 u => r1 = r0 ∧ u = h0) (zB A D cy) A) 0 0 A := by
  refine Met.ofW (cc := cX10_freed) (maxL := 2) (ret := (some .int)) (by decide) rfl ?_
  intro p e s m args below meth c s₁ B hml hv
  obtain ⟨rfl, hW, hK, hN, hA⟩ := hv
  have X : zX A D cy p s m _ c cX10_freed RX10 2 := ⟨B.exec, B.bytes, fun w hw => atoms_spec (ws := Cond.code yX10_freed cX10_freed 2 (some .int) :: wT) B.pre w (List.mem_cons_of_mem _ hw), findClass_of_methodNamed B.named, hK, hml, hN, hA⟩
  have hl := lv_entry [.ref o, .int v1] (n := 2) (Nat.le_of_ble_eq_true rfl)
  rw [lg_entry_eq]
  generalize (lg_sl [.ref o, .int v1] ++ List.replicate (2 - (lg_sl [.ref o, .int v1]).length) Slot.unset).toArray = ls at hl ⊢
  have hl : lv_has ls 2 [(0, .ref o), (1, .int v1)] := hl
  exact wX10_freed_0 X B.notSynchronized B.returns o v1 _ _ _ _ (lv_sub hl [0, 1] rfl) hW va_S.rf g

theorem dX10_doubt_0 : decode cX10_doubt 0 = .ok (.aload_n 0, 1) := by decide +kernel
theorem dX10_doubt_1 : decode cX10_doubt 1 = .ok (.getfield 10, 3) := by decide +kernel
theorem dX10_doubt_4 : decode cX10_doubt 4 = .ok (.iload_n 1, 1) := by decide +kernel
theorem dX10_doubt_5 : decode cX10_doubt 5 = .ok (.invokevirtual 94, 3) := by decide +kernel
theorem dX10_doubt_8 : decode cX10_doubt 8 = .ok (.astore_n 2, 1) := by decide +kernel
theorem dX10_doubt_9 : decode cX10_doubt 9 = .ok (.aload_n 2, 1) := by decide +kernel
theorem dX10_doubt_10 : decode cX10_doubt 10 = .ok (.ifnonnull 9, 3) := by decide +kernel
theorem dX10_doubt_13 : decode cX10_doubt 13 = .ok (.aload_n 0, 1) := by decide +kernel
theorem dX10_doubt_14 : decode cX10_doubt 14 = .ok (.iconst (-1), 1) := by decide +kernel
theorem dX10_doubt_15 : decode cX10_doubt 15 = .ok (.invokevirtual 77, 3) := by decide +kernel
theorem dX10_doubt_18 : decode cX10_doubt 18 = .ok (.ireturn, 1) := by decide +kernel
theorem dX10_doubt_19 : decode cX10_doubt 19 = .ok (.aload_n 2, 1) := by decide +kernel
theorem dX10_doubt_20 : decode cX10_doubt 20 = .ok (.getfield 173, 3) := by decide +kernel
theorem dX10_doubt_23 : decode cX10_doubt 23 = .ok (.iconst 3, 1) := by decide +kernel
theorem dX10_doubt_24 : decode cX10_doubt 24 = .ok (.if_icmp .ne 10, 3) := by decide +kernel
theorem dX10_doubt_27 : decode cX10_doubt 27 = .ok (.aload_n 0, 1) := by decide +kernel
theorem dX10_doubt_28 : decode cX10_doubt 28 = .ok (.bipush (-2), 2) := by decide +kernel
theorem dX10_doubt_30 : decode cX10_doubt 30 = .ok (.invokevirtual 77, 3) := by decide +kernel
theorem dX10_doubt_33 : decode cX10_doubt 33 = .ok (.ireturn, 1) := by decide +kernel
theorem dX10_doubt_34 : decode cX10_doubt 34 = .ok (.aload_n 2, 1) := by decide +kernel
theorem dX10_doubt_35 : decode cX10_doubt 35 = .ok (.invokevirtual 251, 3) := by decide +kernel
theorem dX10_doubt_38 : decode cX10_doubt 38 = .ok (.ifCond .ne 10, 3) := by decide +kernel
theorem dX10_doubt_41 : decode cX10_doubt 41 = .ok (.aload_n 0, 1) := by decide +kernel
theorem dX10_doubt_42 : decode cX10_doubt 42 = .ok (.bipush (-5), 2) := by decide +kernel
theorem dX10_doubt_44 : decode cX10_doubt 44 = .ok (.invokevirtual 77, 3) := by decide +kernel
theorem dX10_doubt_47 : decode cX10_doubt 47 = .ok (.ireturn, 1) := by decide +kernel
theorem dX10_doubt_48 : decode cX10_doubt 48 = .ok (.aload_n 0, 1) := by decide +kernel
theorem dX10_doubt_49 : decode cX10_doubt 49 = .ok (.getfield 63, 3) := by decide +kernel
theorem dX10_doubt_52 : decode cX10_doubt 52 = .ok (.aload_n 0, 1) := by decide +kernel
theorem dX10_doubt_53 : decode cX10_doubt 53 = .ok (.getfield 32, 3) := by decide +kernel
theorem dX10_doubt_56 : decode cX10_doubt 56 = .ok (.arraylength, 1) := by decide +kernel
theorem dX10_doubt_57 : decode cX10_doubt 57 = .ok (.if_icmp .ge 14, 3) := by decide +kernel
theorem dX10_doubt_60 : decode cX10_doubt 60 = .ok (.aload_n 0, 1) := by decide +kernel
theorem dX10_doubt_61 : decode cX10_doubt 61 = .ok (.getfield 19, 3) := by decide +kernel
theorem dX10_doubt_64 : decode cX10_doubt 64 = .ok (.iconst 1, 1) := by decide +kernel
theorem dX10_doubt_65 : decode cX10_doubt 65 = .ok (.invokevirtual 238, 3) := by decide +kernel
theorem dX10_doubt_68 : decode cX10_doubt 68 = .ok (.ifCond .ne 10, 3) := by decide +kernel
theorem dX10_doubt_71 : decode cX10_doubt 71 = .ok (.aload_n 0, 1) := by decide +kernel
theorem dX10_doubt_72 : decode cX10_doubt 72 = .ok (.bipush (-6), 2) := by decide +kernel
theorem dX10_doubt_74 : decode cX10_doubt 74 = .ok (.invokevirtual 77, 3) := by decide +kernel
theorem dX10_doubt_77 : decode cX10_doubt 77 = .ok (.ireturn, 1) := by decide +kernel
theorem dX10_doubt_78 : decode cX10_doubt 78 = .ok (.new 30, 3) := by decide +kernel
theorem dX10_doubt_81 : decode cX10_doubt 81 = .ok (.dup, 1) := by decide +kernel
theorem dX10_doubt_82 : decode cX10_doubt 82 = .ok (.aload_n 0, 1) := by decide +kernel
theorem dX10_doubt_83 : decode cX10_doubt 83 = .ok (.getfield 63, 3) := by decide +kernel
theorem dX10_doubt_86 : decode cX10_doubt 86 = .ok (.aload_n 2, 1) := by decide +kernel
theorem dX10_doubt_87 : decode cX10_doubt 87 = .ok (.invokespecial 254, 3) := by decide +kernel
theorem dX10_doubt_90 : decode cX10_doubt 90 = .ok (.astore_n 3, 1) := by decide +kernel
theorem dX10_doubt_91 : decode cX10_doubt 91 = .ok (.aload_n 0, 1) := by decide +kernel
theorem dX10_doubt_92 : decode cX10_doubt 92 = .ok (.getfield 32, 3) := by decide +kernel
theorem dX10_doubt_95 : decode cX10_doubt 95 = .ok (.aload_n 0, 1) := by decide +kernel
theorem dX10_doubt_96 : decode cX10_doubt 96 = .ok (.getfield 63, 3) := by decide +kernel
theorem dX10_doubt_99 : decode cX10_doubt 99 = .ok (.aload_n 3, 1) := by decide +kernel
theorem dX10_doubt_100 : decode cX10_doubt 100 = .ok (.aastore, 1) := by decide +kernel
theorem dX10_doubt_101 : decode cX10_doubt 101 = .ok (.aload_n 0, 1) := by decide +kernel
theorem dX10_doubt_102 : decode cX10_doubt 102 = .ok (.dup, 1) := by decide +kernel
theorem dX10_doubt_103 : decode cX10_doubt 103 = .ok (.getfield 63, 3) := by decide +kernel
theorem dX10_doubt_106 : decode cX10_doubt 106 = .ok (.iconst 1, 1) := by decide +kernel
theorem dX10_doubt_107 : decode cX10_doubt 107 = .ok (.iadd, 1) := by decide +kernel
theorem dX10_doubt_108 : decode cX10_doubt 108 = .ok (.putfield 63, 3) := by decide +kernel
theorem dX10_doubt_111 : decode cX10_doubt 111 = .ok (.aload_n 0, 1) := by decide +kernel
theorem dX10_doubt_112 : decode cX10_doubt 112 = .ok (.getfield 19, 3) := by decide +kernel
theorem dX10_doubt_115 : decode cX10_doubt 115 = .ok (.iconst 4, 1) := by decide +kernel
theorem dX10_doubt_116 : decode cX10_doubt 116 = .ok (.aload_n 3, 1) := by decide +kernel
theorem dX10_doubt_117 : decode cX10_doubt 117 = .ok (.aload_n 2, 1) := by decide +kernel
theorem dX10_doubt_118 : decode cX10_doubt 118 = .ok (.getfield 109, 3) := by decide +kernel
theorem dX10_doubt_121 : decode cX10_doubt 121 = .ok (.aload_n 2, 1) := by decide +kernel
theorem dX10_doubt_122 : decode cX10_doubt 122 = .ok (.iconst 0, 1) := by decide +kernel
theorem dX10_doubt_123 : decode cX10_doubt 123 = .ok (.invokevirtual 256, 3) := by decide +kernel
theorem dX10_doubt_126 : decode cX10_doubt 126 = .ok (.pop, 1) := by decide +kernel
theorem dX10_doubt_127 : decode cX10_doubt 127 = .ok (.aload_n 3, 1) := by decide +kernel
theorem dX10_doubt_128 : decode cX10_doubt 128 = .ok (.getfield 228, 3) := by decide +kernel
theorem dX10_doubt_131 : decode cX10_doubt 131 = .ok (.ireturn, 1) := by decide +kernel
def fX10_doubt_71 (o : Nat) (h : Hz) : Option (Int32 × Hz) := (b1 (tg 10 o h) fun _ => (b2 (fX10_refuse o (-6) h) fun x2 s3 => some (x2, s3)))
set_option maxHeartbeats 4000000 in
set_option maxRecDepth 100000 in
theorem wX10_doubt_71 {r0 : Int32} {h0 : Hz} (X : zX A D cy p s m args c cX10_doubt RX10 4) (hlk : meth.locks = false) (hr : meth.sig.returnType = (some .int)) (o : Nat) (h : Hz) (H : Heap) (locs : List Loc) (ls : Array Slot) (hl : lv_has ls 4 [(0, .ref o)]) (hW : zW A cy D h H) (hS : va_S A s.heap H locs) (h : fX10_doubt_71 o h = some (r0, h0)) : W p l e ({ frames := 3, cells := 6, slots := 929, locals := 63 } : Room) s m args below meth c H locs 0 0 (MQ below (va_Qi (fun r1 u => r1 = r0 ∧ u = h0) (zB A D cy) A) args s 6 929 A) (F0 m 71 ls []) := by
  obtain ⟨hx, hb, hts, hown, hK9, hml, hN9, hA9⟩ := id X
  unfold fX10_doubt_71 at h
  refine lv_aload_n hx hb dX10_doubt_71 rfl (lv_at hl 0 rfl) ?_
  refine lv_bipush (v := (-6)) hx hb dX10_doubt_72 (by decide) ?_
  replace h := b1_some h
  obtain ⟨q1, gq1, h⟩ := h
  replace h := b2_some h
  obtain ⟨x2, s3, gs3, h⟩ := h
  refine z_callVi (rest := []) X hW hS (cX10_refuse_met gs3) kb_X10_refuse kv_X10_refuse kl_X10_77 (it_v gq1).1 kX10 rfl rfl ⟨Nat.le_of_ble_eq_true rfl, Nat.le_of_ble_eq_true rfl⟩ rfl rfl (by decide) hl.1 dX10_doubt_74 ⟨(by decide), (by decide)⟩ (fun H locs hW hS => ?_)
  exact z_eti X hlk hr hW hS h (by decide) (by decide) dX10_doubt_77

def fX10_doubt (o : Nat) (v1 : Int32) (h : Hz) : Option (Int32 × Hz) := (b1 (gA 10 0 o h) fun a1 => (b1 (tg 6 a1 h) fun _ => (b2 (fX6_find a1 v1 h) fun r3 s4 => (oe r3 ((b1 (tg 10 o s4) fun _ => (b2 (fX10_refuse o (-1) s4) fun x7 s8 => some (x7, s8)))) fun a5 => (b1 (gI 5 1 a5 s4) fun x9 => (if x9 = 3 then (b1 (tg 10 o s4) fun _ => (b2 (fX10_refuse o (-2) s4) fun x44 s45 => some (x44, s45))) else (b1 (tg 5 a5 s4) fun _ => (b2 (fX5_isAnchor a5 s4) fun x12 s13 => (if x12 = 0 then (b1 (tg 10 o s13) fun _ => (b2 (fX10_refuse o (-5) s13) fun x41 s42 => some (x41, s42))) else (b1 (gI 10 10 o s13) fun x15 => (b1 (gA 10 3 o s13) fun a16 => (b1 (xN 19 a16 s13) fun x17 => (if x17 ≤ x15 then fX10_doubt_71 o s13 else (b1 (gA 10 1 o s13) fun a19 => (b1 (tg 2 a19 s13) fun _ => (b2 (fX2_hasRoom a19 1 s13) fun x21 s22 => (if x21 = 0 then fX10_doubt_71 o s22 else (b2 (nO 9 s22) fun a24 s25 => (b1 (gI 10 10 o s25) fun x26 => (b2 (fX9_init a24 x26 (some a5) s25) fun _ s28 => (b1 (gA 10 3 o s28) fun a29 => (b1 (gI 10 10 o s28) fun x30 => (b1 (yP 19 9 a29 x30 (some a24) s28) fun s31 => (b1 (gI 10 10 o s31) fun x32 => (b1 (pI 10 10 o (x32 + 1) s31) fun s33 => (b1 (gA 10 1 o s33) fun a34 => (b1 (gI 5 2 a5 s33) fun x35 => (b1 (tg 2 a34 s33) fun _ => (b2 (fX2_fileOfWalk a34 4 (some a24) x35 (some a5) 0 s33) fun x37 s38 => (b1 (gI 9 0 a24 s38) fun x39 => some (x39, s38)))))))))))))))))))))))))))))))
set_option maxHeartbeats 4000000 in
set_option maxRecDepth 100000 in
theorem wX10_doubt_0 {r0 : Int32} {h0 : Hz} (X : zX A D cy p s m args c cX10_doubt RX10 4) (hlk : meth.locks = false) (hr : meth.sig.returnType = (some .int)) (o : Nat) (v1 : Int32) (h : Hz) (H : Heap) (locs : List Loc) (ls : Array Slot) (hl : lv_has ls 4 [(0, .ref o), (1, .int v1)]) (hW : zW A cy D h H) (hS : va_S A s.heap H locs) (h : fX10_doubt o v1 h = some (r0, h0)) : W p l e ({ frames := 3, cells := 6, slots := 929, locals := 63 } : Room) s m args below meth c H locs 0 0 (MQ below (va_Qi (fun r1 u => r1 = r0 ∧ u = h0) (zB A D cy) A) args s 6 929 A) (F0 m 0 ls []) := by
  obtain ⟨hx, hb, hts, hown, hK9, hml, hN9, hA9⟩ := id X
  unfold fX10_doubt at h
  refine lv_aload_n hx hb dX10_doubt_0 rfl (lv_at hl 0 rfl) ?_
  replace h := b1_some h
  obtain ⟨a1, ga1, h⟩ := h
  refine z_getA X hW ga1 kX10 (by decide) (by decide) kf_X10_10 dX10_doubt_1 ?_
  refine lv_iload_n hx hb dX10_doubt_4 rfl (lv_at hl 1 rfl) ?_
  replace h := b1_some h
  obtain ⟨q2, gq2, h⟩ := h
  replace h := b2_some h
  obtain ⟨r3, s4, gs4, h⟩ := h
  refine z_callVq (rest := []) X hW hS (cX6_find_met gs4) kb_X6_find kv_X6_find kl_X10_94 (it_v gq2).1 kX6 rfl rfl ⟨Nat.le_of_ble_eq_true rfl, Nat.le_of_ble_eq_true rfl⟩ rfl rfl (by decide) hl.1 dX10_doubt_5 ⟨(by decide), (by decide)⟩ (fun H locs hW hS => ?_)
  refine z_astore_n (lv' := [(2, va_rf r3), (0, .ref o), (1, .int v1)]) hx hb dX10_doubt_8 rfl hl (by decide) rfl (fun ls hl => ?_)
  refine z_aload_n hx hb dX10_doubt_9 rfl (lv_at hl 0 rfl) ?_
  cases r3 with
  | none =>
    replace h := oe_n h
    have hl : lv_has ls 4 [(2, .null), (0, .ref o), (1, .int v1)] := hl
    refine lv_ifnonnullN hx hb dX10_doubt_10 ?_
    refine lv_aload_n hx hb dX10_doubt_13 rfl (lv_at hl 1 rfl) ?_
    refine lv_iconst (v := (-1)) hx hb dX10_doubt_14 (by decide) ?_
    replace h := b1_some h
    obtain ⟨q6, gq6, h⟩ := h
    replace h := b2_some h
    obtain ⟨x7, s8, gs8, h⟩ := h
    refine z_callVi (rest := []) X hW hS (cX10_refuse_met gs8) kb_X10_refuse kv_X10_refuse kl_X10_77 (it_v gq6).1 kX10 rfl rfl ⟨Nat.le_of_ble_eq_true rfl, Nat.le_of_ble_eq_true rfl⟩ rfl rfl (by decide) hl.1 dX10_doubt_15 ⟨(by decide), (by decide)⟩ (fun H locs hW hS => ?_)
    exact z_eti X hlk hr hW hS h (by decide) (by decide) dX10_doubt_18
  | some a5 =>
    replace h := oe_s h
    have hl : lv_has ls 4 [(2, .ref a5), (0, .ref o), (1, .int v1)] := hl
    refine lv_ifnonnull (tgt := 19) hx hb dX10_doubt_10 (by decide) ?_
    refine lv_aload_n hx hb dX10_doubt_19 rfl (lv_at hl 0 rfl) ?_
    replace h := b1_some h
    obtain ⟨x9, gx9, h⟩ := h
    refine z_getI X hW gx9 kX5 (by decide) (by decide) kf_X10_173 dX10_doubt_20 ?_
    refine lv_iconst (v := 3) hx hb dX10_doubt_23 (by decide) ?_
    refine lv_icmp_ne (tgt := 34) hx hb dX10_doubt_24 (by decide) (fun c10 => ?_) (fun c10 => ?_)
    · replace h := it_f h c10
      refine lv_aload_n hx hb dX10_doubt_34 rfl (lv_at hl 0 rfl) ?_
      replace h := b1_some h
      obtain ⟨q11, gq11, h⟩ := h
      replace h := b2_some h
      obtain ⟨x12, s13, gs13, h⟩ := h
      refine z_callVi (rest := []) X hW hS (cX5_isAnchor_met gs13) kb_X5_isAnchor kv_X5_isAnchor kl_X10_251 (it_v gq11).1 kX5 rfl rfl ⟨Nat.le_of_ble_eq_true rfl, Nat.le_of_ble_eq_true rfl⟩ rfl rfl (by decide) hl.1 dX10_doubt_35 ⟨(by decide), (by decide)⟩ (fun H locs hW hS => ?_)
      refine lv_if_ne (tgt := 48) hx hb dX10_doubt_38 (by decide) (fun c14 => ?_) (fun c14 => ?_)
      · replace h := it_f h c14
        refine lv_aload_n hx hb dX10_doubt_48 rfl (lv_at hl 1 rfl) ?_
        replace h := b1_some h
        obtain ⟨x15, gx15, h⟩ := h
        refine z_getI X hW gx15 kX10 (by decide) (by decide) kf_X10_63 dX10_doubt_49 ?_
        refine lv_aload_n hx hb dX10_doubt_52 rfl (lv_at hl 1 rfl) ?_
        replace h := b1_some h
        obtain ⟨a16, ga16, h⟩ := h
        refine z_getA X hW ga16 kX10 (by decide) (by decide) kf_X10_32 dX10_doubt_53 ?_
        replace h := b1_some h
        obtain ⟨x17, gx17, h⟩ := h
        refine z_alenP X hW gx17 (by decide) (by decide) rfl dX10_doubt_56 ?_
        refine lv_icmp_ge (tgt := 71) hx hb dX10_doubt_57 (by decide) (fun c18 => ?_) (fun c18 => ?_)
        · replace h := it_t h c18
          exact wX10_doubt_71 X hlk hr o _ _ _ _ (lv_sub hl [1] rfl) hW hS h
        · replace h := it_f h c18
          refine lv_aload_n hx hb dX10_doubt_60 rfl (lv_at hl 1 rfl) ?_
          replace h := b1_some h
          obtain ⟨a19, ga19, h⟩ := h
          refine z_getA X hW ga19 kX10 (by decide) (by decide) kf_X10_19 dX10_doubt_61 ?_
          refine lv_iconst (v := 1) hx hb dX10_doubt_64 (by decide) ?_
          replace h := b1_some h
          obtain ⟨q20, gq20, h⟩ := h
          replace h := b2_some h
          obtain ⟨x21, s22, gs22, h⟩ := h
          refine z_callVi (rest := []) X hW hS (cX2_hasRoom_met gs22) kb_X2_hasRoom kv_X2_hasRoom kl_X10_238 (it_v gq20).1 kX2 rfl rfl ⟨Nat.le_of_ble_eq_true rfl, Nat.le_of_ble_eq_true rfl⟩ rfl rfl (by decide) hl.1 dX10_doubt_65 ⟨(by decide), (by decide)⟩ (fun H locs hW hS => ?_)
          refine lv_if_ne (tgt := 78) hx hb dX10_doubt_68 (by decide) (fun c23 => ?_) (fun c23 => ?_)
          · replace h := it_f h c23
            replace h := b2_some h
            obtain ⟨a24, s25, ga24, h⟩ := h
            refine z_new X hW hS ga24 kX9 kd_X9 kc_X10_30 kn_X9 ki_14 dX10_doubt_78 (by decide) (by decide) (fun H hW hS => ?_)
            refine lv_dup hx hb dX10_doubt_81 rfl ?_
            refine lv_aload_n hx hb dX10_doubt_82 rfl (lv_at hl 1 rfl) ?_
            replace h := b1_some h
            obtain ⟨x26, gx26, h⟩ := h
            refine z_getI X hW gx26 kX10 (by decide) (by decide) kf_X10_63 dX10_doubt_83 ?_
            refine lv_aload_n hx hb dX10_doubt_86 rfl (lv_at hl 0 rfl) ?_
            replace h := b2_some h
            obtain ⟨_ur27, s28, gs28, h⟩ := h
            refine z_callIv (rest := [.ref a24]) X hW hS (cX9_init_met gs28) kb_X9_init km_X9_init rfl kl_X10_254 rfl rfl ⟨Nat.le_of_ble_eq_true rfl, Nat.le_of_ble_eq_true rfl⟩ rfl rfl (Nat.le_of_ble_eq_true rfl) hl.1 dX10_doubt_87 ⟨(by decide), (by decide)⟩ (fun H locs hW hS => ?_)
            refine lv_astore_n (lv' := [(3, .ref a24), (2, .ref a5), (0, .ref o), (1, .int v1)]) hx hb dX10_doubt_90 rfl hl (by decide) rfl (fun ls hl => ?_)
            refine lv_aload_n hx hb dX10_doubt_91 rfl (lv_at hl 2 rfl) ?_
            replace h := b1_some h
            obtain ⟨a29, ga29, h⟩ := h
            refine z_getA X hW ga29 kX10 (by decide) (by decide) kf_X10_32 dX10_doubt_92 ?_
            refine lv_aload_n hx hb dX10_doubt_95 rfl (lv_at hl 2 rfl) ?_
            replace h := b1_some h
            obtain ⟨x30, gx30, h⟩ := h
            refine z_getI X hW gx30 kX10 (by decide) (by decide) kf_X10_63 dX10_doubt_96 ?_
            refine lv_aload_n hx hb dX10_doubt_99 rfl (lv_at hl 0 rfl) ?_
            replace h := b1_some h
            obtain ⟨s31, gs31, h⟩ := h
            refine z_astP X hW hS gs31 (by decide) (by decide) kX9 rfl dX10_doubt_100 (fun H locs hW hS => ?_)
            refine lv_aload_n hx hb dX10_doubt_101 rfl (lv_at hl 2 rfl) ?_
            refine lv_dup hx hb dX10_doubt_102 rfl ?_
            replace h := b1_some h
            obtain ⟨x32, gx32, h⟩ := h
            refine z_getI X hW gx32 kX10 (by decide) (by decide) kf_X10_63 dX10_doubt_103 ?_
            refine lv_iconst (v := 1) hx hb dX10_doubt_106 (by decide) ?_
            refine lv_iadd hx hb dX10_doubt_107 ?_
            replace h := b1_some h
            obtain ⟨s33, gs33, h⟩ := h
            refine z_putI X hW hS gs33 kX10 (by decide) (by decide) rfl (Or.inl rfl) kf_X10_63 dX10_doubt_108 (fun H locs hW hS => ?_)
            refine lv_aload_n hx hb dX10_doubt_111 rfl (lv_at hl 2 rfl) ?_
            replace h := b1_some h
            obtain ⟨a34, ga34, h⟩ := h
            refine z_getA X hW ga34 kX10 (by decide) (by decide) kf_X10_19 dX10_doubt_112 ?_
            refine lv_iconst (v := 4) hx hb dX10_doubt_115 (by decide) ?_
            refine lv_aload_n hx hb dX10_doubt_116 rfl (lv_at hl 0 rfl) ?_
            refine lv_aload_n hx hb dX10_doubt_117 rfl (lv_at hl 1 rfl) ?_
            replace h := b1_some h
            obtain ⟨x35, gx35, h⟩ := h
            refine z_getI X hW gx35 kX5 (by decide) (by decide) kf_X10_109 dX10_doubt_118 ?_
            refine lv_aload_n hx hb dX10_doubt_121 rfl (lv_at hl 1 rfl) ?_
            refine lv_iconst (v := 0) hx hb dX10_doubt_122 (by decide) ?_
            replace h := b1_some h
            obtain ⟨q36, gq36, h⟩ := h
            replace h := b2_some h
            obtain ⟨x37, s38, gs38, h⟩ := h
            refine z_callVi (rest := []) X hW hS (cX2_fileOfWalk_met gs38) kb_X2_fileOfWalk kv_X2_fileOfWalk kl_X10_256 (it_v gq36).1 kX2 rfl rfl ⟨Nat.le_of_ble_eq_true rfl, Nat.le_of_ble_eq_true rfl⟩ rfl rfl (by decide) hl.1 dX10_doubt_123 ⟨(by decide), (by decide)⟩ (fun H locs hW hS => ?_)
            refine lv_pop hx hb dX10_doubt_126 rfl ?_
            refine lv_aload_n hx hb dX10_doubt_127 rfl (lv_at hl 0 rfl) ?_
            replace h := b1_some h
            obtain ⟨x39, gx39, h⟩ := h
            refine z_getI X hW gx39 kX9 (by decide) (by decide) kf_X10_228 dX10_doubt_128 ?_
            exact z_eti X hlk hr hW hS h (by decide) (by decide) dX10_doubt_131
          · replace h := it_t h c23
            exact wX10_doubt_71 X hlk hr o _ _ _ _ (lv_sub hl [1] rfl) hW hS h
      · replace h := it_t h c14
        refine lv_aload_n hx hb dX10_doubt_41 rfl (lv_at hl 1 rfl) ?_
        refine lv_bipush (v := (-5)) hx hb dX10_doubt_42 (by decide) ?_
        replace h := b1_some h
        obtain ⟨q40, gq40, h⟩ := h
        replace h := b2_some h
        obtain ⟨x41, s42, gs42, h⟩ := h
        refine z_callVi (rest := []) X hW hS (cX10_refuse_met gs42) kb_X10_refuse kv_X10_refuse kl_X10_77 (it_v gq40).1 kX10 rfl rfl ⟨Nat.le_of_ble_eq_true rfl, Nat.le_of_ble_eq_true rfl⟩ rfl rfl (by decide) hl.1 dX10_doubt_44 ⟨(by decide), (by decide)⟩ (fun H locs hW hS => ?_)
        exact z_eti X hlk hr hW hS h (by decide) (by decide) dX10_doubt_47
    · replace h := it_t h c10
      refine lv_aload_n hx hb dX10_doubt_27 rfl (lv_at hl 1 rfl) ?_
      refine lv_bipush (v := (-2)) hx hb dX10_doubt_28 (by decide) ?_
      replace h := b1_some h
      obtain ⟨q43, gq43, h⟩ := h
      replace h := b2_some h
      obtain ⟨x44, s45, gs45, h⟩ := h
      refine z_callVi (rest := []) X hW hS (cX10_refuse_met gs45) kb_X10_refuse kv_X10_refuse kl_X10_77 (it_v gq43).1 kX10 rfl rfl ⟨Nat.le_of_ble_eq_true rfl, Nat.le_of_ble_eq_true rfl⟩ rfl rfl (by decide) hl.1 dX10_doubt_30 ⟨(by decide), (by decide)⟩ (fun H locs hW hS => ?_)
      exact z_eti X hlk hr hW hS h (by decide) (by decide) dX10_doubt_33

set_option maxHeartbeats 4000000 in
set_option maxRecDepth 100000 in
theorem cX10_doubt_met {l : Launch} {A : Nat → Prop} {D : va_G} {cy : Nat → ClassId} {r0 : Int32} {h0 : Hz} {o : Nat} {v1 : Int32} {h : Hz} (g : fX10_doubt o v1 h = some (r0, h0)) : Met l yX10_doubt (Cond.code yX10_doubt cX10_doubt 4 (some .int) :: wT) ({ frames := 3, cells := 6, slots := 929, locals := 63 } : Room) (va_Pc [.ref o, .int v1] (zS A D cy h)) (va_Qi (fun r1 u => r1 = r0 ∧ u = h0) (zB A D cy) A) 6 929 A := by
  refine Met.ofW (cc := cX10_doubt) (maxL := 4) (ret := (some .int)) (by decide) rfl ?_
  intro p e s m args below meth c s₁ B hml hv
  obtain ⟨rfl, hW, hK, hN, hA⟩ := hv
  have X : zX A D cy p s m _ c cX10_doubt RX10 4 := ⟨B.exec, B.bytes, fun w hw => atoms_spec (ws := Cond.code yX10_doubt cX10_doubt 4 (some .int) :: wT) B.pre w (List.mem_cons_of_mem _ hw), findClass_of_methodNamed B.named, hK, hml, hN, hA⟩
  have hl := lv_entry [.ref o, .int v1] (n := 4) (Nat.le_of_ble_eq_true rfl)
  rw [lg_entry_eq]
  generalize (lg_sl [.ref o, .int v1] ++ List.replicate (4 - (lg_sl [.ref o, .int v1]).length) Slot.unset).toArray = ls at hl ⊢
  have hl : lv_has ls 4 [(0, .ref o), (1, .int v1)] := hl
  exact wX10_doubt_0 X B.notSynchronized B.returns o v1 _ _ _ _ (lv_sub hl [0, 1] rfl) hW va_S.rf g

end Z14_classc
