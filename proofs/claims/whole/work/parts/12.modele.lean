section Z12_modele
variable {p : Program} {l : Launch} {e : Env} {s : State} {m : MethodId} {args : Array Value} {below : List Frame} {meth : Method} {c : Code} {A : Nat → Prop} {D : va_G} {cy : Nat → ClassId}
theorem dX11_rootFor_0 : decode cX11_rootFor 0 = .ok (.iconst (-1), 1) := by decide +kernel
theorem dX11_rootFor_1 : decode cX11_rootFor 1 = .ok (.istore_n 1, 1) := by decide +kernel
theorem dX11_rootFor_2 : decode cX11_rootFor 2 = .ok (.iconst 0, 1) := by decide +kernel
theorem dX11_rootFor_3 : decode cX11_rootFor 3 = .ok (.istore_n 2, 1) := by decide +kernel
theorem dX11_rootFor_4 : decode cX11_rootFor 4 = .ok (.iload_n 2, 1) := by decide +kernel
theorem dX11_rootFor_5 : decode cX11_rootFor 5 = .ok (.aload_n 0, 1) := by decide +kernel
theorem dX11_rootFor_6 : decode cX11_rootFor 6 = .ok (.getfield 145, 3) := by decide +kernel
theorem dX11_rootFor_9 : decode cX11_rootFor 9 = .ok (.if_icmp .ge 60, 3) := by decide +kernel
theorem dX11_rootFor_12 : decode cX11_rootFor 12 = .ok (.aload_n 0, 1) := by decide +kernel
theorem dX11_rootFor_13 : decode cX11_rootFor 13 = .ok (.getfield 31, 3) := by decide +kernel
theorem dX11_rootFor_16 : decode cX11_rootFor 16 = .ok (.iload_n 2, 1) := by decide +kernel
theorem dX11_rootFor_17 : decode cX11_rootFor 17 = .ok (.baload, 1) := by decide +kernel
theorem dX11_rootFor_18 : decode cX11_rootFor 18 = .ok (.ifCond .ne 45, 3) := by decide +kernel
theorem dX11_rootFor_21 : decode cX11_rootFor 21 = .ok (.aload_n 0, 1) := by decide +kernel
theorem dX11_rootFor_22 : decode cX11_rootFor 22 = .ok (.getfield 9, 3) := by decide +kernel
theorem dX11_rootFor_25 : decode cX11_rootFor 25 = .ok (.iload_n 2, 1) := by decide +kernel
theorem dX11_rootFor_26 : decode cX11_rootFor 26 = .ok (.iaload, 1) := by decide +kernel
theorem dX11_rootFor_27 : decode cX11_rootFor 27 = .ok (.iconst 2, 1) := by decide +kernel
theorem dX11_rootFor_28 : decode cX11_rootFor 28 = .ok (.if_icmp .ne 35, 3) := by decide +kernel
theorem dX11_rootFor_31 : decode cX11_rootFor 31 = .ok (.aload_n 0, 1) := by decide +kernel
theorem dX11_rootFor_32 : decode cX11_rootFor 32 = .ok (.getfield 142, 3) := by decide +kernel
theorem dX11_rootFor_35 : decode cX11_rootFor 35 = .ok (.iload_n 2, 1) := by decide +kernel
theorem dX11_rootFor_36 : decode cX11_rootFor 36 = .ok (.iaload, 1) := by decide +kernel
theorem dX11_rootFor_37 : decode cX11_rootFor 37 = .ok (.iconst (-1), 1) := by decide +kernel
theorem dX11_rootFor_38 : decode cX11_rootFor 38 = .ok (.if_icmp .eq 25, 3) := by decide +kernel
theorem dX11_rootFor_41 : decode cX11_rootFor 41 = .ok (.iload_n 1, 1) := by decide +kernel
theorem dX11_rootFor_42 : decode cX11_rootFor 42 = .ok (.iconst (-1), 1) := by decide +kernel
theorem dX11_rootFor_43 : decode cX11_rootFor 43 = .ok (.if_icmp .eq 18, 3) := by decide +kernel
theorem dX11_rootFor_46 : decode cX11_rootFor 46 = .ok (.aload_n 0, 1) := by decide +kernel
theorem dX11_rootFor_47 : decode cX11_rootFor 47 = .ok (.getfield 142, 3) := by decide +kernel
theorem dX11_rootFor_50 : decode cX11_rootFor 50 = .ok (.iload_n 2, 1) := by decide +kernel
theorem dX11_rootFor_51 : decode cX11_rootFor 51 = .ok (.iaload, 1) := by decide +kernel
theorem dX11_rootFor_52 : decode cX11_rootFor 52 = .ok (.aload_n 0, 1) := by decide +kernel
theorem dX11_rootFor_53 : decode cX11_rootFor 53 = .ok (.getfield 142, 3) := by decide +kernel
theorem dX11_rootFor_56 : decode cX11_rootFor 56 = .ok (.iload_n 1, 1) := by decide +kernel
theorem dX11_rootFor_57 : decode cX11_rootFor 57 = .ok (.iaload, 1) := by decide +kernel
theorem dX11_rootFor_58 : decode cX11_rootFor 58 = .ok (.if_icmp .ge 5, 3) := by decide +kernel
theorem dX11_rootFor_61 : decode cX11_rootFor 61 = .ok (.iload_n 2, 1) := by decide +kernel
theorem dX11_rootFor_62 : decode cX11_rootFor 62 = .ok (.istore_n 1, 1) := by decide +kernel
theorem dX11_rootFor_63 : decode cX11_rootFor 63 = .ok (.iinc 2 1, 3) := by decide +kernel
theorem dX11_rootFor_66 : decode cX11_rootFor 66 = .ok (.goto (-62), 3) := by decide +kernel
theorem dX11_rootFor_69 : decode cX11_rootFor 69 = .ok (.iload_n 1, 1) := by decide +kernel
theorem dX11_rootFor_70 : decode cX11_rootFor 70 = .ok (.ireturn, 1) := by decide +kernel
def fX11_rootFor_4 : Nat → Nat → Int32 → Int32 → Hz → Option (Int32 × Hz)
  | 0, _, _, _, _ => none
  | n + 1, o, v1, v2, h => (b1 (gI 11 9 o h) fun x1 => (if x1 ≤ v2 then some (v1, h) else (b1 (gA 11 7 o h) fun a3 => (b1 (xI 14 a3 v2 h) fun x4 => (if x4 = 0 then (b1 (gA 11 0 o h) fun a6 => (b1 (xI 12 a6 v2 h) fun x7 => (if x7 = 2 then (b1 (gA 11 49 o h) fun a9 => (b1 (xI 12 a9 v2 h) fun x10 => (if x10 = (-1) then fX11_rootFor_4 n o v1 (v2 + 1) h else (if v1 = (-1) then fX11_rootFor_4 n o v2 (v2 + 1) h else (b1 (gA 11 49 o h) fun a13 => (b1 (xI 12 a13 v2 h) fun x14 => (b1 (gA 11 49 o h) fun a15 => (b1 (xI 12 a15 v1 h) fun x16 => (if x16 ≤ x14 then fX11_rootFor_4 n o v1 (v2 + 1) h else fX11_rootFor_4 n o v2 (v2 + 1) h))))))))) else fX11_rootFor_4 n o v1 (v2 + 1) h))) else fX11_rootFor_4 n o v1 (v2 + 1) h)))))
set_option maxHeartbeats 4000000 in
set_option maxRecDepth 100000 in
theorem wX11_rootFor_4 {r0 : Int32} {h0 : Hz} (X : zX A D cy p s m args c cX11_rootFor RX11 3) (hlk : meth.locks = false) (hr : meth.sig.returnType = (some .int)) : ∀ (n : Nat) (o : Nat) (v1 : Int32) (v2 : Int32) (h : Hz) (H : Heap) (locs : List Loc) (ls : Array Slot) (hl : lv_has ls 3 [(0, .ref o), (1, .int v1), (2, .int v2)]) (hW : zW A cy D h H) (hS : va_S A s.heap H locs) (h : fX11_rootFor_4 n o v1 v2 h = some (r0, h0)), W p l e ({ frames := 0, cells := 0, slots := 0, locals := 0 } : Room) s m args below meth c H locs 0 0 (MQ below (va_Qi (fun r1 u => r1 = r0 ∧ u = h0) (zB A D cy) A) args s 0 0 A) (F0 m 4 ls []) := by
  obtain ⟨hx, hb, hts, hown, hK9, hml, hN9, hA9⟩ := id X
  intro n
  induction n with
  | zero =>
    intro o v1 v2 h H locs ls hl hW hS h
    rw [fX11_rootFor_4] at h
    cases h
  | succ n ih =>
    intro o v1 v2 h H locs ls hl hW hS h
    rw [fX11_rootFor_4] at h
    refine lv_iload_n hx hb dX11_rootFor_4 rfl (lv_at hl 2 rfl) ?_
    refine lv_aload_n hx hb dX11_rootFor_5 rfl (lv_at hl 0 rfl) ?_
    replace h := b1_some h
    obtain ⟨x1, gx1, h⟩ := h
    refine z_getI X hW gx1 kX11 (by decide) (by decide) kf_X11_145 dX11_rootFor_6 ?_
    refine lv_icmp_ge (tgt := 69) hx hb dX11_rootFor_9 (by decide) (fun c2 => ?_) (fun c2 => ?_)
    · replace h := it_t h c2
      refine lv_iload_n hx hb dX11_rootFor_69 rfl (lv_at hl 1 rfl) ?_
      exact z_eti X hlk hr hW hS h (by decide) (by decide) dX11_rootFor_70
    · replace h := it_f h c2
      refine lv_aload_n hx hb dX11_rootFor_12 rfl (lv_at hl 0 rfl) ?_
      replace h := b1_some h
      obtain ⟨a3, ga3, h⟩ := h
      refine z_getA X hW ga3 kX11 (by decide) (by decide) kf_X11_31 dX11_rootFor_13 ?_
      refine lv_iload_n hx hb dX11_rootFor_16 rfl (lv_at hl 2 rfl) ?_
      replace h := b1_some h
      obtain ⟨x4, gx4, h⟩ := h
      refine z_aldZ X hW gx4 dX11_rootFor_17 ?_
      refine lv_if_ne (tgt := 63) hx hb dX11_rootFor_18 (by decide) (fun c5 => ?_) (fun c5 => ?_)
      · replace h := it_f h c5
        refine lv_iinc (v := (v2 + 1)) (lv' := [(2, .int (v2 + 1)), (0, .ref o), (1, .int v1)]) hx hb dX11_rootFor_63 hl (k := 2) rfl rfl (by decide) rfl (fun ls hl => ?_)
        refine lv_goto (tgt := 4) hx hb dX11_rootFor_66 (by decide) ?_
        exact ih o v1 (v2 + 1) _ _ _ _ (lv_sub hl [1, 2, 0] rfl) hW hS h
      · replace h := it_t h c5
        refine lv_aload_n hx hb dX11_rootFor_21 rfl (lv_at hl 0 rfl) ?_
        replace h := b1_some h
        obtain ⟨a6, ga6, h⟩ := h
        refine z_getA X hW ga6 kX11 (by decide) (by decide) kf_X11_9 dX11_rootFor_22 ?_
        refine lv_iload_n hx hb dX11_rootFor_25 rfl (lv_at hl 2 rfl) ?_
        replace h := b1_some h
        obtain ⟨x7, gx7, h⟩ := h
        refine z_aldI X hW gx7 dX11_rootFor_26 ?_
        refine lv_iconst (v := 2) hx hb dX11_rootFor_27 (by decide) ?_
        refine lv_icmp_ne (tgt := 63) hx hb dX11_rootFor_28 (by decide) (fun c8 => ?_) (fun c8 => ?_)
        · replace h := it_f h c8
          refine lv_iinc (v := (v2 + 1)) (lv' := [(2, .int (v2 + 1)), (0, .ref o), (1, .int v1)]) hx hb dX11_rootFor_63 hl (k := 2) rfl rfl (by decide) rfl (fun ls hl => ?_)
          refine lv_goto (tgt := 4) hx hb dX11_rootFor_66 (by decide) ?_
          exact ih o v1 (v2 + 1) _ _ _ _ (lv_sub hl [1, 2, 0] rfl) hW hS h
        · replace h := it_t h c8
          refine lv_aload_n hx hb dX11_rootFor_31 rfl (lv_at hl 0 rfl) ?_
          replace h := b1_some h
          obtain ⟨a9, ga9, h⟩ := h
          refine z_getA X hW ga9 kX11 (by decide) (by decide) kf_X11_142 dX11_rootFor_32 ?_
          refine lv_iload_n hx hb dX11_rootFor_35 rfl (lv_at hl 2 rfl) ?_
          replace h := b1_some h
          obtain ⟨x10, gx10, h⟩ := h
          refine z_aldI X hW gx10 dX11_rootFor_36 ?_
          refine lv_iconst (v := (-1)) hx hb dX11_rootFor_37 (by decide) ?_
          refine lv_icmp_eq (tgt := 63) hx hb dX11_rootFor_38 (by decide) (fun c11 => ?_) (fun c11 => ?_)
          · replace h := it_t h c11
            refine lv_iinc (v := (v2 + 1)) (lv' := [(2, .int (v2 + 1)), (0, .ref o), (1, .int v1)]) hx hb dX11_rootFor_63 hl (k := 2) rfl rfl (by decide) rfl (fun ls hl => ?_)
            refine lv_goto (tgt := 4) hx hb dX11_rootFor_66 (by decide) ?_
            exact ih o v1 (v2 + 1) _ _ _ _ (lv_sub hl [1, 2, 0] rfl) hW hS h
          · replace h := it_f h c11
            refine lv_iload_n hx hb dX11_rootFor_41 rfl (lv_at hl 1 rfl) ?_
            refine lv_iconst (v := (-1)) hx hb dX11_rootFor_42 (by decide) ?_
            refine lv_icmp_eq (tgt := 61) hx hb dX11_rootFor_43 (by decide) (fun c12 => ?_) (fun c12 => ?_)
            · replace h := it_t h c12
              refine lv_iload_n hx hb dX11_rootFor_61 rfl (lv_at hl 2 rfl) ?_
              refine lv_istore_n (lv' := [(1, .int v2), (0, .ref o), (2, .int v2)]) hx hb dX11_rootFor_62 rfl hl (by decide) rfl (fun ls hl => ?_)
              refine lv_iinc (v := (v2 + 1)) (lv' := [(2, .int (v2 + 1)), (1, .int v2), (0, .ref o)]) hx hb dX11_rootFor_63 hl (k := 2) rfl rfl (by decide) rfl (fun ls hl => ?_)
              refine lv_goto (tgt := 4) hx hb dX11_rootFor_66 (by decide) ?_
              exact ih o v2 (v2 + 1) _ _ _ _ (lv_sub hl [2, 1, 0] rfl) hW hS h
            · replace h := it_f h c12
              refine lv_aload_n hx hb dX11_rootFor_46 rfl (lv_at hl 0 rfl) ?_
              replace h := b1_some h
              obtain ⟨a13, ga13, h⟩ := h
              refine z_getA X hW ga13 kX11 (by decide) (by decide) kf_X11_142 dX11_rootFor_47 ?_
              refine lv_iload_n hx hb dX11_rootFor_50 rfl (lv_at hl 2 rfl) ?_
              replace h := b1_some h
              obtain ⟨x14, gx14, h⟩ := h
              refine z_aldI X hW gx14 dX11_rootFor_51 ?_
              refine lv_aload_n hx hb dX11_rootFor_52 rfl (lv_at hl 0 rfl) ?_
              replace h := b1_some h
              obtain ⟨a15, ga15, h⟩ := h
              refine z_getA X hW ga15 kX11 (by decide) (by decide) kf_X11_142 dX11_rootFor_53 ?_
              refine lv_iload_n hx hb dX11_rootFor_56 rfl (lv_at hl 1 rfl) ?_
              replace h := b1_some h
              obtain ⟨x16, gx16, h⟩ := h
              refine z_aldI X hW gx16 dX11_rootFor_57 ?_
              refine lv_icmp_ge (tgt := 63) hx hb dX11_rootFor_58 (by decide) (fun c17 => ?_) (fun c17 => ?_)
              · replace h := it_t h c17
                refine lv_iinc (v := (v2 + 1)) (lv' := [(2, .int (v2 + 1)), (0, .ref o), (1, .int v1)]) hx hb dX11_rootFor_63 hl (k := 2) rfl rfl (by decide) rfl (fun ls hl => ?_)
                refine lv_goto (tgt := 4) hx hb dX11_rootFor_66 (by decide) ?_
                exact ih o v1 (v2 + 1) _ _ _ _ (lv_sub hl [1, 2, 0] rfl) hW hS h
              · replace h := it_f h c17
                refine lv_iload_n hx hb dX11_rootFor_61 rfl (lv_at hl 2 rfl) ?_
                refine lv_istore_n (lv' := [(1, .int v2), (0, .ref o), (2, .int v2)]) hx hb dX11_rootFor_62 rfl hl (by decide) rfl (fun ls hl => ?_)
                refine lv_iinc (v := (v2 + 1)) (lv' := [(2, .int (v2 + 1)), (1, .int v2), (0, .ref o)]) hx hb dX11_rootFor_63 hl (k := 2) rfl rfl (by decide) rfl (fun ls hl => ?_)
                refine lv_goto (tgt := 4) hx hb dX11_rootFor_66 (by decide) ?_
                exact ih o v2 (v2 + 1) _ _ _ _ (lv_sub hl [2, 1, 0] rfl) hW hS h

def fX11_rootFor (o : Nat) (h : Hz) : Option (Int32 × Hz) := fX11_rootFor_4 100000 o (-1) 0 h
set_option maxHeartbeats 4000000 in
set_option maxRecDepth 100000 in
theorem wX11_rootFor_0 {r0 : Int32} {h0 : Hz} (X : zX A D cy p s m args c cX11_rootFor RX11 3) (hlk : meth.locks = false) (hr : meth.sig.returnType = (some .int)) (o : Nat) (h : Hz) (H : Heap) (locs : List Loc) (ls : Array Slot) (hl : lv_has ls 3 [(0, .ref o)]) (hW : zW A cy D h H) (hS : va_S A s.heap H locs) (h : fX11_rootFor o h = some (r0, h0)) : W p l e ({ frames := 0, cells := 0, slots := 0, locals := 0 } : Room) s m args below meth c H locs 0 0 (MQ below (va_Qi (fun r1 u => r1 = r0 ∧ u = h0) (zB A D cy) A) args s 0 0 A) (F0 m 0 ls []) := by
  obtain ⟨hx, hb, hts, hown, hK9, hml, hN9, hA9⟩ := id X
  unfold fX11_rootFor at h
  refine lv_iconst (v := (-1)) hx hb dX11_rootFor_0 (by decide) ?_
  refine lv_istore_n (lv' := [(1, .int (-1)), (0, .ref o)]) hx hb dX11_rootFor_1 rfl hl (by decide) rfl (fun ls hl => ?_)
  refine lv_iconst (v := 0) hx hb dX11_rootFor_2 (by decide) ?_
  refine lv_istore_n (lv' := [(2, .int 0), (1, .int (-1)), (0, .ref o)]) hx hb dX11_rootFor_3 rfl hl (by decide) rfl (fun ls hl => ?_)
  exact wX11_rootFor_4 X hlk hr _ o (-1) 0 _ _ _ _ (lv_sub hl [2, 1, 0] rfl) hW hS h

set_option maxHeartbeats 4000000 in
set_option maxRecDepth 100000 in
theorem cX11_rootFor_met {l : Launch} {A : Nat → Prop} {D : va_G} {cy : Nat → ClassId} {r0 : Int32} {h0 : Hz} {o : Nat} {h : Hz} (g : fX11_rootFor o h = some (r0, h0)) : Met l yX11_rootFor (Cond.code yX11_rootFor cX11_rootFor 3 (some .int) :: wT) ({ frames := 0, cells := 0, slots := 0, locals := 0 } : Room) (va_Pc [.ref o] (zS A D cy h)) (va_Qi (fun r1 u => r1 = r0 ∧ u = h0) (zB A D cy) A) 0 0 A := by
  refine Met.ofW (cc := cX11_rootFor) (maxL := 3) (ret := (some .int)) (by decide) rfl ?_
  intro p e s m args below meth c s₁ B hml hv
  obtain ⟨rfl, hW, hK, hN, hA⟩ := hv
  have X : zX A D cy p s m _ c cX11_rootFor RX11 3 := ⟨B.exec, B.bytes, fun w hw => atoms_spec (ws := Cond.code yX11_rootFor cX11_rootFor 3 (some .int) :: wT) B.pre w (List.mem_cons_of_mem _ hw), findClass_of_methodNamed B.named, hK, hml, hN, hA⟩
  have hl := lv_entry [.ref o] (n := 3) (Nat.le_of_ble_eq_true rfl)
  rw [lg_entry_eq]
  generalize (lg_sl [.ref o] ++ List.replicate (3 - (lg_sl [.ref o]).length) Slot.unset).toArray = ls at hl ⊢
  have hl : lv_has ls 3 [(0, .ref o)] := hl
  exact wX11_rootFor_0 X B.notSynchronized B.returns o _ _ _ _ (lv_sub hl [0] rfl) hW va_S.rf g

theorem dX11_meant_0 : decode cX11_meant 0 = .ok (.aload_n 0, 1) := by decide +kernel
theorem dX11_meant_1 : decode cX11_meant 1 = .ok (.iload_n 1, 1) := by decide +kernel
theorem dX11_meant_2 : decode cX11_meant 2 = .ok (.invokevirtual 178, 3) := by decide +kernel
theorem dX11_meant_5 : decode cX11_meant 5 = .ok (.ifCond .ne 5, 3) := by decide +kernel
theorem dX11_meant_8 : decode cX11_meant 8 = .ok (.iconst 0, 1) := by decide +kernel
theorem dX11_meant_9 : decode cX11_meant 9 = .ok (.ireturn, 1) := by decide +kernel
theorem dX11_meant_10 : decode cX11_meant 10 = .ok (.aload_n 0, 1) := by decide +kernel
theorem dX11_meant_11 : decode cX11_meant 11 = .ok (.iload_n 1, 1) := by decide +kernel
theorem dX11_meant_12 : decode cX11_meant 12 = .ok (.invokevirtual 264, 3) := by decide +kernel
theorem dX11_meant_15 : decode cX11_meant 15 = .ok (.aload_n 0, 1) := by decide +kernel
theorem dX11_meant_16 : decode cX11_meant 16 = .ok (.invokevirtual 267, 3) := by decide +kernel
theorem dX11_meant_19 : decode cX11_meant 19 = .ok (.iconst (-1), 1) := by decide +kernel
theorem dX11_meant_20 : decode cX11_meant 20 = .ok (.if_icmp .eq 7, 3) := by decide +kernel
theorem dX11_meant_23 : decode cX11_meant 23 = .ok (.iconst 1, 1) := by decide +kernel
theorem dX11_meant_24 : decode cX11_meant 24 = .ok (.goto 4, 3) := by decide +kernel
theorem dX11_meant_27 : decode cX11_meant 27 = .ok (.iconst 0, 1) := by decide +kernel
theorem dX11_meant_28 : decode cX11_meant 28 = .ok (.ireturn, 1) := by decide +kernel
def fX11_meant (o : Nat) (v1 : Int32) (h : Hz) : Option (Int32 × Hz) := (b1 (tg 11 o h) fun _ => (b2 (fX11_isThere o v1 h) fun x2 s3 => (if x2 = 0 then rz 0 s3 else (b1 (tg 11 o s3) fun _ => (b2 (fX11_measure o v1 s3) fun _ s7 => (b1 (tg 11 o s7) fun _ => (b2 (fX11_rootFor o s7) fun x9 s10 => (if x9 = (-1) then rz 0 s10 else rz 1 s10))))))))
set_option maxHeartbeats 4000000 in
set_option maxRecDepth 100000 in
theorem wX11_meant_0 {r0 : Int32} {h0 : Hz} (X : zX A D cy p s m args c cX11_meant RX11 2) (hlk : meth.locks = false) (hr : meth.sig.returnType = (some .boolean)) (o : Nat) (v1 : Int32) (h : Hz) (H : Heap) (locs : List Loc) (ls : Array Slot) (hl : lv_has ls 2 [(0, .ref o), (1, .int v1)]) (hW : zW A cy D h H) (hS : va_S A s.heap H locs) (h : fX11_meant o v1 h = some (r0, h0)) : W p l e ({ frames := 2, cells := 0, slots := 0, locals := 48 } : Room) s m args below meth c H locs 0 0 (MQ below (va_Qi (fun r1 u => r1 = r0 ∧ u = h0) (zB A D cy) A) args s 0 0 A) (F0 m 0 ls []) := by
  obtain ⟨hx, hb, hts, hown, hK9, hml, hN9, hA9⟩ := id X
  unfold fX11_meant at h
  refine lv_aload_n hx hb dX11_meant_0 rfl (lv_at hl 0 rfl) ?_
  refine lv_iload_n hx hb dX11_meant_1 rfl (lv_at hl 1 rfl) ?_
  replace h := b1_some h
  obtain ⟨q1, gq1, h⟩ := h
  replace h := b2_some h
  obtain ⟨x2, s3, gs3, h⟩ := h
  refine z_callVi (rest := []) X hW hS (cX11_isThere_met gs3) kb_X11_isThere kv_X11_isThere kl_X11_178 (it_v gq1).1 kX11 rfl rfl ⟨Nat.le_of_ble_eq_true rfl, Nat.le_of_ble_eq_true rfl⟩ rfl rfl (by decide) hl.1 dX11_meant_2 ⟨(by decide), (by decide)⟩ (fun H locs hW hS => ?_)
  refine lv_if_ne (tgt := 10) hx hb dX11_meant_5 (by decide) (fun c4 => ?_) (fun c4 => ?_)
  · replace h := it_f h c4
    refine lv_aload_n hx hb dX11_meant_10 rfl (lv_at hl 0 rfl) ?_
    refine lv_iload_n hx hb dX11_meant_11 rfl (lv_at hl 1 rfl) ?_
    replace h := b1_some h
    obtain ⟨q5, gq5, h⟩ := h
    replace h := b2_some h
    obtain ⟨_ur6, s7, gs7, h⟩ := h
    refine z_callVv (rest := []) X hW hS (cX11_measure_met gs7) kb_X11_measure kv_X11_measure kl_X11_264 (it_v gq5).1 kX11 rfl rfl ⟨Nat.le_of_ble_eq_true rfl, Nat.le_of_ble_eq_true rfl⟩ rfl rfl (by decide) hl.1 dX11_meant_12 ⟨(by decide), (by decide)⟩ (fun H locs hW hS => ?_)
    refine lv_aload_n hx hb dX11_meant_15 rfl (lv_at hl 0 rfl) ?_
    replace h := b1_some h
    obtain ⟨q8, gq8, h⟩ := h
    replace h := b2_some h
    obtain ⟨x9, s10, gs10, h⟩ := h
    refine z_callVi (rest := []) X hW hS (cX11_rootFor_met gs10) kb_X11_rootFor kv_X11_rootFor kl_X11_267 (it_v gq8).1 kX11 rfl rfl ⟨Nat.le_of_ble_eq_true rfl, Nat.le_of_ble_eq_true rfl⟩ rfl rfl (by decide) hl.1 dX11_meant_16 ⟨(by decide), (by decide)⟩ (fun H locs hW hS => ?_)
    refine lv_iconst (v := (-1)) hx hb dX11_meant_19 (by decide) ?_
    refine lv_icmp_eq (tgt := 27) hx hb dX11_meant_20 (by decide) (fun c11 => ?_) (fun c11 => ?_)
    · replace h := it_t h c11
      refine lv_iconst (v := 0) hx hb dX11_meant_27 (by decide) ?_
      exact z_etz X hlk hr hW hS h (by decide) (by decide) dX11_meant_28
    · replace h := it_f h c11
      refine lv_iconst (v := 1) hx hb dX11_meant_23 (by decide) ?_
      refine lv_goto (tgt := 28) hx hb dX11_meant_24 (by decide) ?_
      exact z_etz X hlk hr hW hS h (by decide) (by decide) dX11_meant_28
  · replace h := it_t h c4
    refine lv_iconst (v := 0) hx hb dX11_meant_8 (by decide) ?_
    exact z_etz X hlk hr hW hS h (by decide) (by decide) dX11_meant_9

set_option maxHeartbeats 4000000 in
set_option maxRecDepth 100000 in
theorem cX11_meant_met {l : Launch} {A : Nat → Prop} {D : va_G} {cy : Nat → ClassId} {r0 : Int32} {h0 : Hz} {o : Nat} {v1 : Int32} {h : Hz} (g : fX11_meant o v1 h = some (r0, h0)) : Met l yX11_meant (Cond.code yX11_meant cX11_meant 2 (some .boolean) :: wT) ({ frames := 2, cells := 0, slots := 0, locals := 48 } : Room) (va_Pc [.ref o, .int v1] (zS A D cy h)) (va_Qi (fun r1 u => r1 = r0 ∧ u = h0) (zB A D cy) A) 0 0 A := by
  refine Met.ofW (cc := cX11_meant) (maxL := 2) (ret := (some .boolean)) (by decide) rfl ?_
  intro p e s m args below meth c s₁ B hml hv
  obtain ⟨rfl, hW, hK, hN, hA⟩ := hv
  have X : zX A D cy p s m _ c cX11_meant RX11 2 := ⟨B.exec, B.bytes, fun w hw => atoms_spec (ws := Cond.code yX11_meant cX11_meant 2 (some .boolean) :: wT) B.pre w (List.mem_cons_of_mem _ hw), findClass_of_methodNamed B.named, hK, hml, hN, hA⟩
  have hl := lv_entry [.ref o, .int v1] (n := 2) (Nat.le_of_ble_eq_true rfl)
  rw [lg_entry_eq]
  generalize (lg_sl [.ref o, .int v1] ++ List.replicate (2 - (lg_sl [.ref o, .int v1]).length) Slot.unset).toArray = ls at hl ⊢
  have hl : lv_has ls 2 [(0, .ref o), (1, .int v1)] := hl
  exact wX11_meant_0 X B.notSynchronized B.returns o v1 _ _ _ _ (lv_sub hl [0, 1] rfl) hW va_S.rf g

theorem dX11_why_0 : decode cX11_why 0 = .ok (.aload_n 0, 1) := by decide +kernel
theorem dX11_why_1 : decode cX11_why 1 = .ok (.iload_n 1, 1) := by decide +kernel
theorem dX11_why_2 : decode cX11_why 2 = .ok (.invokevirtual 178, 3) := by decide +kernel
theorem dX11_why_5 : decode cX11_why 5 = .ok (.ifCond .eq 7, 3) := by decide +kernel
theorem dX11_why_8 : decode cX11_why 8 = .ok (.iload_n 2, 1) := by decide +kernel
theorem dX11_why_9 : decode cX11_why 9 = .ok (.ifCond .ge 5, 3) := by decide +kernel
theorem dX11_why_12 : decode cX11_why 12 = .ok (.iconst (-1), 1) := by decide +kernel
theorem dX11_why_13 : decode cX11_why 13 = .ok (.ireturn, 1) := by decide +kernel
theorem dX11_why_14 : decode cX11_why 14 = .ok (.aload_n 0, 1) := by decide +kernel
theorem dX11_why_15 : decode cX11_why 15 = .ok (.iload_n 1, 1) := by decide +kernel
theorem dX11_why_16 : decode cX11_why 16 = .ok (.invokevirtual 264, 3) := by decide +kernel
theorem dX11_why_19 : decode cX11_why 19 = .ok (.aload_n 0, 1) := by decide +kernel
theorem dX11_why_20 : decode cX11_why 20 = .ok (.invokevirtual 267, 3) := by decide +kernel
theorem dX11_why_23 : decode cX11_why 23 = .ok (.istore_n 3, 1) := by decide +kernel
theorem dX11_why_24 : decode cX11_why 24 = .ok (.iload_n 3, 1) := by decide +kernel
theorem dX11_why_25 : decode cX11_why 25 = .ok (.iconst (-1), 1) := by decide +kernel
theorem dX11_why_26 : decode cX11_why 26 = .ok (.if_icmp .eq 13, 3) := by decide +kernel
theorem dX11_why_29 : decode cX11_why 29 = .ok (.iload_n 2, 1) := by decide +kernel
theorem dX11_why_30 : decode cX11_why 30 = .ok (.aload_n 0, 1) := by decide +kernel
theorem dX11_why_31 : decode cX11_why 31 = .ok (.getfield 142, 3) := by decide +kernel
theorem dX11_why_34 : decode cX11_why 34 = .ok (.iload_n 3, 1) := by decide +kernel
theorem dX11_why_35 : decode cX11_why 35 = .ok (.iaload, 1) := by decide +kernel
theorem dX11_why_36 : decode cX11_why 36 = .ok (.if_icmp .le 5, 3) := by decide +kernel
theorem dX11_why_39 : decode cX11_why 39 = .ok (.iconst (-1), 1) := by decide +kernel
theorem dX11_why_40 : decode cX11_why 40 = .ok (.ireturn, 1) := by decide +kernel
theorem dX11_why_41 : decode cX11_why 41 = .ok (.iconst 0, 1) := by decide +kernel
theorem dX11_why_42 : decode cX11_why 42 = .ok (.istore 4, 2) := by decide +kernel
theorem dX11_why_44 : decode cX11_why 44 = .ok (.iload 4, 2) := by decide +kernel
theorem dX11_why_46 : decode cX11_why 46 = .ok (.iload_n 2, 1) := by decide +kernel
theorem dX11_why_47 : decode cX11_why 47 = .ok (.if_icmp .ge 59, 3) := by decide +kernel
theorem dX11_why_50 : decode cX11_why 50 = .ok (.iconst 0, 1) := by decide +kernel
theorem dX11_why_51 : decode cX11_why 51 = .ok (.istore 5, 2) := by decide +kernel
theorem dX11_why_53 : decode cX11_why 53 = .ok (.aload_n 0, 1) := by decide +kernel
theorem dX11_why_54 : decode cX11_why 54 = .ok (.getfield 31, 3) := by decide +kernel
theorem dX11_why_57 : decode cX11_why 57 = .ok (.iload 5, 2) := by decide +kernel
theorem dX11_why_59 : decode cX11_why 59 = .ok (.baload, 1) := by decide +kernel
theorem dX11_why_60 : decode cX11_why 60 = .ok (.ifCond .ne 31, 3) := by decide +kernel
theorem dX11_why_63 : decode cX11_why 63 = .ok (.aload_n 0, 1) := by decide +kernel
theorem dX11_why_64 : decode cX11_why 64 = .ok (.getfield 142, 3) := by decide +kernel
theorem dX11_why_67 : decode cX11_why 67 = .ok (.iload 5, 2) := by decide +kernel
theorem dX11_why_69 : decode cX11_why 69 = .ok (.iaload, 1) := by decide +kernel
theorem dX11_why_70 : decode cX11_why 70 = .ok (.aload_n 0, 1) := by decide +kernel
theorem dX11_why_71 : decode cX11_why 71 = .ok (.getfield 142, 3) := by decide +kernel
theorem dX11_why_74 : decode cX11_why 74 = .ok (.iload_n 3, 1) := by decide +kernel
theorem dX11_why_75 : decode cX11_why 75 = .ok (.iaload, 1) := by decide +kernel
theorem dX11_why_76 : decode cX11_why 76 = .ok (.iconst 1, 1) := by decide +kernel
theorem dX11_why_77 : decode cX11_why 77 = .ok (.isub, 1) := by decide +kernel
theorem dX11_why_78 : decode cX11_why 78 = .ok (.if_icmp .ne 13, 3) := by decide +kernel
theorem dX11_why_81 : decode cX11_why 81 = .ok (.aload_n 0, 1) := by decide +kernel
theorem dX11_why_82 : decode cX11_why 82 = .ok (.iload_n 3, 1) := by decide +kernel
theorem dX11_why_83 : decode cX11_why 83 = .ok (.iload 5, 2) := by decide +kernel
theorem dX11_why_85 : decode cX11_why 85 = .ok (.invokevirtual 261, 3) := by decide +kernel
theorem dX11_why_88 : decode cX11_why 88 = .ok (.ifCond .ne 9, 3) := by decide +kernel
theorem dX11_why_91 : decode cX11_why 91 = .ok (.iinc 5 1, 3) := by decide +kernel
theorem dX11_why_94 : decode cX11_why 94 = .ok (.goto (-41), 3) := by decide +kernel
theorem dX11_why_97 : decode cX11_why 97 = .ok (.iload 5, 2) := by decide +kernel
theorem dX11_why_99 : decode cX11_why 99 = .ok (.istore_n 3, 1) := by decide +kernel
theorem dX11_why_100 : decode cX11_why 100 = .ok (.iinc 4 1, 3) := by decide +kernel
theorem dX11_why_103 : decode cX11_why 103 = .ok (.goto (-59), 3) := by decide +kernel
theorem dX11_why_106 : decode cX11_why 106 = .ok (.iload_n 3, 1) := by decide +kernel
theorem dX11_why_107 : decode cX11_why 107 = .ok (.ireturn, 1) := by decide +kernel
def fX11_why_53 (K44 : Nat → Int32 → Int32 → Int32 → Hz → Option (Int32 × Hz)) : Nat → Nat → Int32 → Int32 → Int32 → Int32 → Hz → Option (Int32 × Hz)
  | 0, _, _, _, _, _, _ => none
  | n + 1, o, v2, v3, v4, v5, h => (b1 (gA 11 7 o h) fun a1 => (b1 (xI 14 a1 v5 h) fun x2 => (if x2 = 0 then (b1 (gA 11 49 o h) fun a4 => (b1 (xI 12 a4 v5 h) fun x5 => (b1 (gA 11 49 o h) fun a6 => (b1 (xI 12 a6 v3 h) fun x7 => (if x5 = (x7 - 1) then (b1 (tg 11 o h) fun _ => (b2 (fX11_goes o v3 v5 h) fun x10 s11 => (if x10 = 0 then fX11_why_53 K44 n o v2 v3 v4 (v5 + 1) s11 else K44 o v2 v5 (v4 + 1) s11))) else fX11_why_53 K44 n o v2 v3 v4 (v5 + 1) h))))) else fX11_why_53 K44 n o v2 v3 v4 (v5 + 1) h)))
set_option maxHeartbeats 4000000 in
set_option maxRecDepth 100000 in
theorem wX11_why_53 {r0 : Int32} {h0 : Hz} (X : zX A D cy p s m args c cX11_why RX11 6) (hlk : meth.locks = false) (hr : meth.sig.returnType = (some .int)) {K44 : Nat → Int32 → Int32 → Int32 → Hz → Option (Int32 × Hz)} (hK44 : ∀ (o : Nat) (u2 : Int32) (u3 : Int32) (u4 : Int32) (h : Hz) (H : Heap) (locs : List Loc) (ls : Array Slot), lv_has ls 6 [(0, .ref o), (2, .int u2), (3, .int u3), (4, .int u4)] → zW A cy D h H → va_S A s.heap H locs → K44 o u2 u3 u4 h = some (r0, h0) → W p l e ({ frames := 2, cells := 0, slots := 0, locals := 48 } : Room) s m args below meth c H locs 0 0 (MQ below (va_Qi (fun r1 u => r1 = r0 ∧ u = h0) (zB A D cy) A) args s 0 0 A) (F0 m 44 ls [])) : ∀ (n : Nat) (o : Nat) (v2 : Int32) (v3 : Int32) (v4 : Int32) (v5 : Int32) (h : Hz) (H : Heap) (locs : List Loc) (ls : Array Slot) (hl : lv_has ls 6 [(0, .ref o), (2, .int v2), (3, .int v3), (4, .int v4), (5, .int v5)]) (hW : zW A cy D h H) (hS : va_S A s.heap H locs) (h : fX11_why_53 K44 n o v2 v3 v4 v5 h = some (r0, h0)), W p l e ({ frames := 2, cells := 0, slots := 0, locals := 48 } : Room) s m args below meth c H locs 0 0 (MQ below (va_Qi (fun r1 u => r1 = r0 ∧ u = h0) (zB A D cy) A) args s 0 0 A) (F0 m 53 ls []) := by
  obtain ⟨hx, hb, hts, hown, hK9, hml, hN9, hA9⟩ := id X
  intro n
  induction n with
  | zero =>
    intro o v2 v3 v4 v5 h H locs ls hl hW hS h
    rw [fX11_why_53] at h
    cases h
  | succ n ih =>
    intro o v2 v3 v4 v5 h H locs ls hl hW hS h
    rw [fX11_why_53] at h
    refine lv_aload_n hx hb dX11_why_53 rfl (lv_at hl 0 rfl) ?_
    replace h := b1_some h
    obtain ⟨a1, ga1, h⟩ := h
    refine z_getA X hW ga1 kX11 (by decide) (by decide) kf_X11_31 dX11_why_54 ?_
    refine lv_iload hx hb dX11_why_57 (lv_at hl 4 rfl) ?_
    replace h := b1_some h
    obtain ⟨x2, gx2, h⟩ := h
    refine z_aldZ X hW gx2 dX11_why_59 ?_
    refine lv_if_ne (tgt := 91) hx hb dX11_why_60 (by decide) (fun c3 => ?_) (fun c3 => ?_)
    · replace h := it_f h c3
      refine lv_iinc (v := (v5 + 1)) (lv' := [(5, .int (v5 + 1)), (0, .ref o), (2, .int v2), (3, .int v3), (4, .int v4)]) hx hb dX11_why_91 hl (k := 4) rfl rfl (by decide) rfl (fun ls hl => ?_)
      refine lv_goto (tgt := 53) hx hb dX11_why_94 (by decide) ?_
      exact ih o v2 v3 v4 (v5 + 1) _ _ _ _ (lv_sub hl [1, 2, 3, 4, 0] rfl) hW hS h
    · replace h := it_t h c3
      refine lv_aload_n hx hb dX11_why_63 rfl (lv_at hl 0 rfl) ?_
      replace h := b1_some h
      obtain ⟨a4, ga4, h⟩ := h
      refine z_getA X hW ga4 kX11 (by decide) (by decide) kf_X11_142 dX11_why_64 ?_
      refine lv_iload hx hb dX11_why_67 (lv_at hl 4 rfl) ?_
      replace h := b1_some h
      obtain ⟨x5, gx5, h⟩ := h
      refine z_aldI X hW gx5 dX11_why_69 ?_
      refine lv_aload_n hx hb dX11_why_70 rfl (lv_at hl 0 rfl) ?_
      replace h := b1_some h
      obtain ⟨a6, ga6, h⟩ := h
      refine z_getA X hW ga6 kX11 (by decide) (by decide) kf_X11_142 dX11_why_71 ?_
      refine lv_iload_n hx hb dX11_why_74 rfl (lv_at hl 2 rfl) ?_
      replace h := b1_some h
      obtain ⟨x7, gx7, h⟩ := h
      refine z_aldI X hW gx7 dX11_why_75 ?_
      refine lv_iconst (v := 1) hx hb dX11_why_76 (by decide) ?_
      refine lv_isub hx hb dX11_why_77 ?_
      refine lv_icmp_ne (tgt := 91) hx hb dX11_why_78 (by decide) (fun c8 => ?_) (fun c8 => ?_)
      · replace h := it_f h c8
        refine lv_iinc (v := (v5 + 1)) (lv' := [(5, .int (v5 + 1)), (0, .ref o), (2, .int v2), (3, .int v3), (4, .int v4)]) hx hb dX11_why_91 hl (k := 4) rfl rfl (by decide) rfl (fun ls hl => ?_)
        refine lv_goto (tgt := 53) hx hb dX11_why_94 (by decide) ?_
        exact ih o v2 v3 v4 (v5 + 1) _ _ _ _ (lv_sub hl [1, 2, 3, 4, 0] rfl) hW hS h
      · replace h := it_t h c8
        refine lv_aload_n hx hb dX11_why_81 rfl (lv_at hl 0 rfl) ?_
        refine lv_iload_n hx hb dX11_why_82 rfl (lv_at hl 2 rfl) ?_
        refine lv_iload hx hb dX11_why_83 (lv_at hl 4 rfl) ?_
        replace h := b1_some h
        obtain ⟨q9, gq9, h⟩ := h
        replace h := b2_some h
        obtain ⟨x10, s11, gs11, h⟩ := h
        refine z_callVi (rest := []) X hW hS (cX11_goes_met gs11) kb_X11_goes kv_X11_goes kl_X11_261 (it_v gq9).1 kX11 rfl rfl ⟨Nat.le_of_ble_eq_true rfl, Nat.le_of_ble_eq_true rfl⟩ rfl rfl (by decide) hl.1 dX11_why_85 ⟨(by decide), (by decide)⟩ (fun H locs hW hS => ?_)
        refine lv_if_ne (tgt := 97) hx hb dX11_why_88 (by decide) (fun c12 => ?_) (fun c12 => ?_)
        · replace h := it_f h c12
          refine lv_iload hx hb dX11_why_97 (lv_at hl 4 rfl) ?_
          refine lv_istore_n (lv' := [(3, .int v5), (0, .ref o), (2, .int v2), (4, .int v4), (5, .int v5)]) hx hb dX11_why_99 rfl hl (by decide) rfl (fun ls hl => ?_)
          refine lv_iinc (v := (v4 + 1)) (lv' := [(4, .int (v4 + 1)), (3, .int v5), (0, .ref o), (2, .int v2), (5, .int v5)]) hx hb dX11_why_100 hl (k := 3) rfl rfl (by decide) rfl (fun ls hl => ?_)
          refine lv_goto (tgt := 44) hx hb dX11_why_103 (by decide) ?_
          exact hK44 o v2 v5 (v4 + 1) _ _ _ _ (lv_sub hl [2, 3, 1, 0] rfl) hW hS h
        · replace h := it_t h c12
          refine lv_iinc (v := (v5 + 1)) (lv' := [(5, .int (v5 + 1)), (0, .ref o), (2, .int v2), (3, .int v3), (4, .int v4)]) hx hb dX11_why_91 hl (k := 4) rfl rfl (by decide) rfl (fun ls hl => ?_)
          refine lv_goto (tgt := 53) hx hb dX11_why_94 (by decide) ?_
          exact ih o v2 v3 v4 (v5 + 1) _ _ _ _ (lv_sub hl [1, 2, 3, 4, 0] rfl) hW hS h

def fX11_why_44 : Nat → Nat → Int32 → Int32 → Int32 → Hz → Option (Int32 × Hz)
  | 0, _, _, _, _, _ => none
  | n + 1, o, v2, v3, v4, h => (if v2 ≤ v4 then some (v3, h) else fX11_why_53 (fX11_why_44 n) 100000 o v2 v3 v4 0 h)
set_option maxHeartbeats 4000000 in
set_option maxRecDepth 100000 in
theorem wX11_why_44 {r0 : Int32} {h0 : Hz} (X : zX A D cy p s m args c cX11_why RX11 6) (hlk : meth.locks = false) (hr : meth.sig.returnType = (some .int)) : ∀ (n : Nat) (o : Nat) (v2 : Int32) (v3 : Int32) (v4 : Int32) (h : Hz) (H : Heap) (locs : List Loc) (ls : Array Slot) (hl : lv_has ls 6 [(0, .ref o), (2, .int v2), (3, .int v3), (4, .int v4)]) (hW : zW A cy D h H) (hS : va_S A s.heap H locs) (h : fX11_why_44 n o v2 v3 v4 h = some (r0, h0)), W p l e ({ frames := 2, cells := 0, slots := 0, locals := 48 } : Room) s m args below meth c H locs 0 0 (MQ below (va_Qi (fun r1 u => r1 = r0 ∧ u = h0) (zB A D cy) A) args s 0 0 A) (F0 m 44 ls []) := by
  obtain ⟨hx, hb, hts, hown, hK9, hml, hN9, hA9⟩ := id X
  intro n
  induction n with
  | zero =>
    intro o v2 v3 v4 h H locs ls hl hW hS h
    rw [fX11_why_44] at h
    cases h
  | succ n ih =>
    intro o v2 v3 v4 h H locs ls hl hW hS h
    rw [fX11_why_44] at h
    refine lv_iload hx hb dX11_why_44 (lv_at hl 3 rfl) ?_
    refine lv_iload_n hx hb dX11_why_46 rfl (lv_at hl 1 rfl) ?_
    refine lv_icmp_ge (tgt := 106) hx hb dX11_why_47 (by decide) (fun c1 => ?_) (fun c1 => ?_)
    · replace h := it_t h c1
      refine lv_iload_n hx hb dX11_why_106 rfl (lv_at hl 2 rfl) ?_
      exact z_eti X hlk hr hW hS h (by decide) (by decide) dX11_why_107
    · replace h := it_f h c1
      refine lv_iconst (v := 0) hx hb dX11_why_50 (by decide) ?_
      refine lv_istore (lv' := [(5, .int 0), (0, .ref o), (2, .int v2), (3, .int v3), (4, .int v4)]) hx hb dX11_why_51 hl (by decide) rfl (fun ls hl => ?_)
      exact wX11_why_53 X hlk hr ih _ o v2 v3 v4 0 _ _ _ _ (lv_sub hl [1, 2, 3, 4, 0] rfl) hW hS h

def fX11_why (o : Nat) (v1 : Int32) (v2 : Int32) (h : Hz) : Option (Int32 × Hz) := (b1 (tg 11 o h) fun _ => (b2 (fX11_isThere o v1 h) fun x2 s3 => (if x2 = 0 then some ((-1), s3) else (if 0 ≤ v2 then (b1 (tg 11 o s3) fun _ => (b2 (fX11_measure o v1 s3) fun _ s8 => (b1 (tg 11 o s8) fun _ => (b2 (fX11_rootFor o s8) fun x10 s11 => (if x10 = (-1) then some ((-1), s11) else (b1 (gA 11 49 o s11) fun a13 => (b1 (xI 12 a13 x10 s11) fun x14 => (if v2 ≤ x14 then fX11_why_44 100000 o v2 x10 0 s11 else some ((-1), s11))))))))) else some ((-1), s3)))))
set_option maxHeartbeats 4000000 in
set_option maxRecDepth 100000 in
theorem wX11_why_0 {r0 : Int32} {h0 : Hz} (X : zX A D cy p s m args c cX11_why RX11 6) (hlk : meth.locks = false) (hr : meth.sig.returnType = (some .int)) (o : Nat) (v1 : Int32) (v2 : Int32) (h : Hz) (H : Heap) (locs : List Loc) (ls : Array Slot) (hl : lv_has ls 6 [(0, .ref o), (1, .int v1), (2, .int v2)]) (hW : zW A cy D h H) (hS : va_S A s.heap H locs) (h : fX11_why o v1 v2 h = some (r0, h0)) : W p l e ({ frames := 2, cells := 0, slots := 0, locals := 48 } : Room) s m args below meth c H locs 0 0 (MQ below (va_Qi (fun r1 u => r1 = r0 ∧ u = h0) (zB A D cy) A) args s 0 0 A) (F0 m 0 ls []) := by
  obtain ⟨hx, hb, hts, hown, hK9, hml, hN9, hA9⟩ := id X
  unfold fX11_why at h
  refine lv_aload_n hx hb dX11_why_0 rfl (lv_at hl 0 rfl) ?_
  refine lv_iload_n hx hb dX11_why_1 rfl (lv_at hl 1 rfl) ?_
  replace h := b1_some h
  obtain ⟨q1, gq1, h⟩ := h
  replace h := b2_some h
  obtain ⟨x2, s3, gs3, h⟩ := h
  refine z_callVi (rest := []) X hW hS (cX11_isThere_met gs3) kb_X11_isThere kv_X11_isThere kl_X11_178 (it_v gq1).1 kX11 rfl rfl ⟨Nat.le_of_ble_eq_true rfl, Nat.le_of_ble_eq_true rfl⟩ rfl rfl (by decide) hl.1 dX11_why_2 ⟨(by decide), (by decide)⟩ (fun H locs hW hS => ?_)
  refine lv_if_eq (tgt := 12) hx hb dX11_why_5 (by decide) (fun c4 => ?_) (fun c4 => ?_)
  · replace h := it_t h c4
    refine lv_iconst (v := (-1)) hx hb dX11_why_12 (by decide) ?_
    exact z_eti X hlk hr hW hS h (by decide) (by decide) dX11_why_13
  · replace h := it_f h c4
    refine lv_iload_n hx hb dX11_why_8 rfl (lv_at hl 2 rfl) ?_
    refine lv_if_ge (tgt := 14) hx hb dX11_why_9 (by decide) (fun c5 => ?_) (fun c5 => ?_)
    · replace h := it_t h c5
      refine lv_aload_n hx hb dX11_why_14 rfl (lv_at hl 0 rfl) ?_
      refine lv_iload_n hx hb dX11_why_15 rfl (lv_at hl 1 rfl) ?_
      replace h := b1_some h
      obtain ⟨q6, gq6, h⟩ := h
      replace h := b2_some h
      obtain ⟨_ur7, s8, gs8, h⟩ := h
      refine z_callVv (rest := []) X hW hS (cX11_measure_met gs8) kb_X11_measure kv_X11_measure kl_X11_264 (it_v gq6).1 kX11 rfl rfl ⟨Nat.le_of_ble_eq_true rfl, Nat.le_of_ble_eq_true rfl⟩ rfl rfl (by decide) hl.1 dX11_why_16 ⟨(by decide), (by decide)⟩ (fun H locs hW hS => ?_)
      refine lv_aload_n hx hb dX11_why_19 rfl (lv_at hl 0 rfl) ?_
      replace h := b1_some h
      obtain ⟨q9, gq9, h⟩ := h
      replace h := b2_some h
      obtain ⟨x10, s11, gs11, h⟩ := h
      refine z_callVi (rest := []) X hW hS (cX11_rootFor_met gs11) kb_X11_rootFor kv_X11_rootFor kl_X11_267 (it_v gq9).1 kX11 rfl rfl ⟨Nat.le_of_ble_eq_true rfl, Nat.le_of_ble_eq_true rfl⟩ rfl rfl (by decide) hl.1 dX11_why_20 ⟨(by decide), (by decide)⟩ (fun H locs hW hS => ?_)
      refine lv_istore_n (lv' := [(3, .int x10), (0, .ref o), (1, .int v1), (2, .int v2)]) hx hb dX11_why_23 rfl hl (by decide) rfl (fun ls hl => ?_)
      refine lv_iload_n hx hb dX11_why_24 rfl (lv_at hl 0 rfl) ?_
      refine lv_iconst (v := (-1)) hx hb dX11_why_25 (by decide) ?_
      refine lv_icmp_eq (tgt := 39) hx hb dX11_why_26 (by decide) (fun c12 => ?_) (fun c12 => ?_)
      · replace h := it_t h c12
        refine lv_iconst (v := (-1)) hx hb dX11_why_39 (by decide) ?_
        exact z_eti X hlk hr hW hS h (by decide) (by decide) dX11_why_40
      · replace h := it_f h c12
        refine lv_iload_n hx hb dX11_why_29 rfl (lv_at hl 3 rfl) ?_
        refine lv_aload_n hx hb dX11_why_30 rfl (lv_at hl 1 rfl) ?_
        replace h := b1_some h
        obtain ⟨a13, ga13, h⟩ := h
        refine z_getA X hW ga13 kX11 (by decide) (by decide) kf_X11_142 dX11_why_31 ?_
        refine lv_iload_n hx hb dX11_why_34 rfl (lv_at hl 0 rfl) ?_
        replace h := b1_some h
        obtain ⟨x14, gx14, h⟩ := h
        refine z_aldI X hW gx14 dX11_why_35 ?_
        refine lv_icmp_le (tgt := 41) hx hb dX11_why_36 (by decide) (fun c15 => ?_) (fun c15 => ?_)
        · replace h := it_t h c15
          refine lv_iconst (v := 0) hx hb dX11_why_41 (by decide) ?_
          refine lv_istore (lv' := [(4, .int 0), (3, .int x10), (0, .ref o), (1, .int v1), (2, .int v2)]) hx hb dX11_why_42 hl (by decide) rfl (fun ls hl => ?_)
          exact wX11_why_44 X hlk hr _ o v2 x10 0 _ _ _ _ (lv_sub hl [2, 4, 1, 0] rfl) hW hS h
        · replace h := it_f h c15
          refine lv_iconst (v := (-1)) hx hb dX11_why_39 (by decide) ?_
          exact z_eti X hlk hr hW hS h (by decide) (by decide) dX11_why_40
    · replace h := it_f h c5
      refine lv_iconst (v := (-1)) hx hb dX11_why_12 (by decide) ?_
      exact z_eti X hlk hr hW hS h (by decide) (by decide) dX11_why_13

set_option maxHeartbeats 4000000 in
set_option maxRecDepth 100000 in
theorem cX11_why_met {l : Launch} {A : Nat → Prop} {D : va_G} {cy : Nat → ClassId} {r0 : Int32} {h0 : Hz} {o : Nat} {v1 : Int32} {v2 : Int32} {h : Hz} (g : fX11_why o v1 v2 h = some (r0, h0)) : Met l yX11_why (Cond.code yX11_why cX11_why 6 (some .int) :: wT) ({ frames := 2, cells := 0, slots := 0, locals := 48 } : Room) (va_Pc [.ref o, .int v1, .int v2] (zS A D cy h)) (va_Qi (fun r1 u => r1 = r0 ∧ u = h0) (zB A D cy) A) 0 0 A := by
  refine Met.ofW (cc := cX11_why) (maxL := 6) (ret := (some .int)) (by decide) rfl ?_
  intro p e s m args below meth c s₁ B hml hv
  obtain ⟨rfl, hW, hK, hN, hA⟩ := hv
  have X : zX A D cy p s m _ c cX11_why RX11 6 := ⟨B.exec, B.bytes, fun w hw => atoms_spec (ws := Cond.code yX11_why cX11_why 6 (some .int) :: wT) B.pre w (List.mem_cons_of_mem _ hw), findClass_of_methodNamed B.named, hK, hml, hN, hA⟩
  have hl := lv_entry [.ref o, .int v1, .int v2] (n := 6) (Nat.le_of_ble_eq_true rfl)
  rw [lg_entry_eq]
  generalize (lg_sl [.ref o, .int v1, .int v2] ++ List.replicate (6 - (lg_sl [.ref o, .int v1, .int v2]).length) Slot.unset).toArray = ls at hl ⊢
  have hl : lv_has ls 6 [(0, .ref o), (1, .int v1), (2, .int v2)] := hl
  exact wX11_why_0 X B.notSynchronized B.returns o v1 v2 _ _ _ _ (lv_sub hl [0, 1, 2] rfl) hW va_S.rf g

theorem dX11_marksMeant_0 : decode cX11_marksMeant 0 = .ok (.iconst 0, 1) := by decide +kernel
theorem dX11_marksMeant_1 : decode cX11_marksMeant 1 = .ok (.istore_n 1, 1) := by decide +kernel
theorem dX11_marksMeant_2 : decode cX11_marksMeant 2 = .ok (.iconst 0, 1) := by decide +kernel
theorem dX11_marksMeant_3 : decode cX11_marksMeant 3 = .ok (.istore_n 2, 1) := by decide +kernel
theorem dX11_marksMeant_4 : decode cX11_marksMeant 4 = .ok (.iload_n 2, 1) := by decide +kernel
theorem dX11_marksMeant_5 : decode cX11_marksMeant 5 = .ok (.sipush 300, 3) := by decide +kernel
theorem dX11_marksMeant_8 : decode cX11_marksMeant 8 = .ok (.if_icmp .ge 16, 3) := by decide +kernel
theorem dX11_marksMeant_11 : decode cX11_marksMeant 11 = .ok (.aload_n 0, 1) := by decide +kernel
theorem dX11_marksMeant_12 : decode cX11_marksMeant 12 = .ok (.getfield 136, 3) := by decide +kernel
theorem dX11_marksMeant_15 : decode cX11_marksMeant 15 = .ok (.iload_n 2, 1) := by decide +kernel
theorem dX11_marksMeant_16 : decode cX11_marksMeant 16 = .ok (.iconst 0, 1) := by decide +kernel
theorem dX11_marksMeant_17 : decode cX11_marksMeant 17 = .ok (.bastore, 1) := by decide +kernel
theorem dX11_marksMeant_18 : decode cX11_marksMeant 18 = .ok (.iinc 2 1, 3) := by decide +kernel
theorem dX11_marksMeant_21 : decode cX11_marksMeant 21 = .ok (.goto (-17), 3) := by decide +kernel
theorem dX11_marksMeant_24 : decode cX11_marksMeant 24 = .ok (.iconst 0, 1) := by decide +kernel
theorem dX11_marksMeant_25 : decode cX11_marksMeant 25 = .ok (.istore_n 2, 1) := by decide +kernel
theorem dX11_marksMeant_26 : decode cX11_marksMeant 26 = .ok (.iload_n 2, 1) := by decide +kernel
theorem dX11_marksMeant_27 : decode cX11_marksMeant 27 = .ok (.aload_n 0, 1) := by decide +kernel
theorem dX11_marksMeant_28 : decode cX11_marksMeant 28 = .ok (.getfield 145, 3) := by decide +kernel
theorem dX11_marksMeant_31 : decode cX11_marksMeant 31 = .ok (.if_icmp .ge 48, 3) := by decide +kernel
theorem dX11_marksMeant_34 : decode cX11_marksMeant 34 = .ok (.aload_n 0, 1) := by decide +kernel
theorem dX11_marksMeant_35 : decode cX11_marksMeant 35 = .ok (.getfield 31, 3) := by decide +kernel
theorem dX11_marksMeant_38 : decode cX11_marksMeant 38 = .ok (.iload_n 2, 1) := by decide +kernel
theorem dX11_marksMeant_39 : decode cX11_marksMeant 39 = .ok (.baload, 1) := by decide +kernel
theorem dX11_marksMeant_40 : decode cX11_marksMeant 40 = .ok (.ifCond .ne 33, 3) := by decide +kernel
theorem dX11_marksMeant_43 : decode cX11_marksMeant 43 = .ok (.aload_n 0, 1) := by decide +kernel
theorem dX11_marksMeant_44 : decode cX11_marksMeant 44 = .ok (.getfield 9, 3) := by decide +kernel
theorem dX11_marksMeant_47 : decode cX11_marksMeant 47 = .ok (.iload_n 2, 1) := by decide +kernel
theorem dX11_marksMeant_48 : decode cX11_marksMeant 48 = .ok (.iaload, 1) := by decide +kernel
theorem dX11_marksMeant_49 : decode cX11_marksMeant 49 = .ok (.iconst 2, 1) := by decide +kernel
theorem dX11_marksMeant_50 : decode cX11_marksMeant 50 = .ok (.if_icmp .eq 6, 3) := by decide +kernel
theorem dX11_marksMeant_53 : decode cX11_marksMeant 53 = .ok (.goto 20, 3) := by decide +kernel
theorem dX11_marksMeant_56 : decode cX11_marksMeant 56 = .ok (.aload_n 0, 1) := by decide +kernel
theorem dX11_marksMeant_57 : decode cX11_marksMeant 57 = .ok (.getfield 136, 3) := by decide +kernel
theorem dX11_marksMeant_60 : decode cX11_marksMeant 60 = .ok (.iload_n 2, 1) := by decide +kernel
theorem dX11_marksMeant_61 : decode cX11_marksMeant 61 = .ok (.iconst 1, 1) := by decide +kernel
theorem dX11_marksMeant_62 : decode cX11_marksMeant 62 = .ok (.bastore, 1) := by decide +kernel
theorem dX11_marksMeant_63 : decode cX11_marksMeant 63 = .ok (.aload_n 0, 1) := by decide +kernel
theorem dX11_marksMeant_64 : decode cX11_marksMeant 64 = .ok (.getfield 106, 3) := by decide +kernel
theorem dX11_marksMeant_67 : decode cX11_marksMeant 67 = .ok (.iload_n 1, 1) := by decide +kernel
theorem dX11_marksMeant_68 : decode cX11_marksMeant 68 = .ok (.iload_n 2, 1) := by decide +kernel
theorem dX11_marksMeant_69 : decode cX11_marksMeant 69 = .ok (.iastore, 1) := by decide +kernel
theorem dX11_marksMeant_70 : decode cX11_marksMeant 70 = .ok (.iinc 1 1, 3) := by decide +kernel
theorem dX11_marksMeant_73 : decode cX11_marksMeant 73 = .ok (.iinc 2 1, 3) := by decide +kernel
theorem dX11_marksMeant_76 : decode cX11_marksMeant 76 = .ok (.goto (-50), 3) := by decide +kernel
theorem dX11_marksMeant_79 : decode cX11_marksMeant 79 = .ok (.iconst 0, 1) := by decide +kernel
theorem dX11_marksMeant_80 : decode cX11_marksMeant 80 = .ok (.istore_n 2, 1) := by decide +kernel
theorem dX11_marksMeant_81 : decode cX11_marksMeant 81 = .ok (.iload_n 2, 1) := by decide +kernel
theorem dX11_marksMeant_82 : decode cX11_marksMeant 82 = .ok (.iload_n 1, 1) := by decide +kernel
theorem dX11_marksMeant_83 : decode cX11_marksMeant 83 = .ok (.if_icmp .ge 77, 3) := by decide +kernel
theorem dX11_marksMeant_86 : decode cX11_marksMeant 86 = .ok (.iconst 0, 1) := by decide +kernel
theorem dX11_marksMeant_87 : decode cX11_marksMeant 87 = .ok (.istore_n 3, 1) := by decide +kernel
theorem dX11_marksMeant_88 : decode cX11_marksMeant 88 = .ok (.iload_n 3, 1) := by decide +kernel
theorem dX11_marksMeant_89 : decode cX11_marksMeant 89 = .ok (.aload_n 0, 1) := by decide +kernel
theorem dX11_marksMeant_90 : decode cX11_marksMeant 90 = .ok (.getfield 145, 3) := by decide +kernel
theorem dX11_marksMeant_93 : decode cX11_marksMeant 93 = .ok (.if_icmp .ge 61, 3) := by decide +kernel
theorem dX11_marksMeant_96 : decode cX11_marksMeant 96 = .ok (.aload_n 0, 1) := by decide +kernel
theorem dX11_marksMeant_97 : decode cX11_marksMeant 97 = .ok (.getfield 31, 3) := by decide +kernel
theorem dX11_marksMeant_100 : decode cX11_marksMeant 100 = .ok (.iload_n 3, 1) := by decide +kernel
theorem dX11_marksMeant_101 : decode cX11_marksMeant 101 = .ok (.baload, 1) := by decide +kernel
theorem dX11_marksMeant_102 : decode cX11_marksMeant 102 = .ok (.ifCond .ne 46, 3) := by decide +kernel
theorem dX11_marksMeant_105 : decode cX11_marksMeant 105 = .ok (.aload_n 0, 1) := by decide +kernel
theorem dX11_marksMeant_106 : decode cX11_marksMeant 106 = .ok (.getfield 136, 3) := by decide +kernel
theorem dX11_marksMeant_109 : decode cX11_marksMeant 109 = .ok (.iload_n 3, 1) := by decide +kernel
theorem dX11_marksMeant_110 : decode cX11_marksMeant 110 = .ok (.baload, 1) := by decide +kernel
theorem dX11_marksMeant_111 : decode cX11_marksMeant 111 = .ok (.ifCond .ne 37, 3) := by decide +kernel
theorem dX11_marksMeant_114 : decode cX11_marksMeant 114 = .ok (.aload_n 0, 1) := by decide +kernel
theorem dX11_marksMeant_115 : decode cX11_marksMeant 115 = .ok (.aload_n 0, 1) := by decide +kernel
theorem dX11_marksMeant_116 : decode cX11_marksMeant 116 = .ok (.getfield 106, 3) := by decide +kernel
theorem dX11_marksMeant_119 : decode cX11_marksMeant 119 = .ok (.iload_n 2, 1) := by decide +kernel
theorem dX11_marksMeant_120 : decode cX11_marksMeant 120 = .ok (.iaload, 1) := by decide +kernel
theorem dX11_marksMeant_121 : decode cX11_marksMeant 121 = .ok (.iload_n 3, 1) := by decide +kernel
theorem dX11_marksMeant_122 : decode cX11_marksMeant 122 = .ok (.invokevirtual 261, 3) := by decide +kernel
theorem dX11_marksMeant_125 : decode cX11_marksMeant 125 = .ok (.ifCond .ne 6, 3) := by decide +kernel
theorem dX11_marksMeant_128 : decode cX11_marksMeant 128 = .ok (.goto 20, 3) := by decide +kernel
theorem dX11_marksMeant_131 : decode cX11_marksMeant 131 = .ok (.aload_n 0, 1) := by decide +kernel
theorem dX11_marksMeant_132 : decode cX11_marksMeant 132 = .ok (.getfield 136, 3) := by decide +kernel
theorem dX11_marksMeant_135 : decode cX11_marksMeant 135 = .ok (.iload_n 3, 1) := by decide +kernel
theorem dX11_marksMeant_136 : decode cX11_marksMeant 136 = .ok (.iconst 1, 1) := by decide +kernel
theorem dX11_marksMeant_137 : decode cX11_marksMeant 137 = .ok (.bastore, 1) := by decide +kernel
theorem dX11_marksMeant_138 : decode cX11_marksMeant 138 = .ok (.aload_n 0, 1) := by decide +kernel
theorem dX11_marksMeant_139 : decode cX11_marksMeant 139 = .ok (.getfield 106, 3) := by decide +kernel
theorem dX11_marksMeant_142 : decode cX11_marksMeant 142 = .ok (.iload_n 1, 1) := by decide +kernel
theorem dX11_marksMeant_143 : decode cX11_marksMeant 143 = .ok (.iload_n 3, 1) := by decide +kernel
theorem dX11_marksMeant_144 : decode cX11_marksMeant 144 = .ok (.iastore, 1) := by decide +kernel
theorem dX11_marksMeant_145 : decode cX11_marksMeant 145 = .ok (.iinc 1 1, 3) := by decide +kernel
theorem dX11_marksMeant_148 : decode cX11_marksMeant 148 = .ok (.iinc 3 1, 3) := by decide +kernel
theorem dX11_marksMeant_151 : decode cX11_marksMeant 151 = .ok (.goto (-63), 3) := by decide +kernel
theorem dX11_marksMeant_154 : decode cX11_marksMeant 154 = .ok (.iinc 2 1, 3) := by decide +kernel
theorem dX11_marksMeant_157 : decode cX11_marksMeant 157 = .ok (.goto (-76), 3) := by decide +kernel
theorem dX11_marksMeant_160 : decode cX11_marksMeant 160 = .ok (.return_, 1) := by decide +kernel
def fX11_marksMeant_88 (K81 : Nat → Int32 → Int32 → Hz → Option (Unit × Hz)) : Nat → Nat → Int32 → Int32 → Int32 → Hz → Option (Unit × Hz)
  | 0, _, _, _, _, _ => none
  | n + 1, o, v1, v2, v3, h => (b1 (gI 11 9 o h) fun x1 => (if x1 ≤ v3 then K81 o v1 (v2 + 1) h else (b1 (gA 11 7 o h) fun a3 => (b1 (xI 14 a3 v3 h) fun x4 => (if x4 = 0 then (b1 (gA 11 47 o h) fun a6 => (b1 (xI 14 a6 v3 h) fun x7 => (if x7 = 0 then (b1 (gA 11 36 o h) fun a9 => (b1 (xI 12 a9 v2 h) fun x10 => (b1 (tg 11 o h) fun _ => (b2 (fX11_goes o x10 v3 h) fun x12 s13 => (if x12 = 0 then fX11_marksMeant_88 K81 n o v1 v2 (v3 + 1) s13 else (b1 (gA 11 47 o s13) fun a15 => (b1 (yZ a15 v3 1 s13) fun s16 => (b1 (gA 11 36 o s16) fun a17 => (b1 (yI a17 v1 v3 s16) fun s18 => fX11_marksMeant_88 K81 n o (v1 + 1) v2 (v3 + 1) s18))))))))) else fX11_marksMeant_88 K81 n o v1 v2 (v3 + 1) h))) else fX11_marksMeant_88 K81 n o v1 v2 (v3 + 1) h)))))
set_option maxHeartbeats 4000000 in
set_option maxRecDepth 100000 in
theorem wX11_marksMeant_88 {r0 : Unit} {h0 : Hz} (X : zX A D cy p s m args c cX11_marksMeant RX11 4) (hlk : meth.locks = false) (hr : meth.sig.returnType = none) {K81 : Nat → Int32 → Int32 → Hz → Option (Unit × Hz)} (hK81 : ∀ (o : Nat) (u1 : Int32) (u2 : Int32) (h : Hz) (H : Heap) (locs : List Loc) (ls : Array Slot), lv_has ls 4 [(0, .ref o), (1, .int u1), (2, .int u2)] → zW A cy D h H → va_S A s.heap H locs → K81 o u1 u2 h = some (r0, h0) → W p l e ({ frames := 1, cells := 0, slots := 0, locals := 24 } : Room) s m args below meth c H locs 0 0 (MQ below (va_Qv (fun u => u = h0) (zB A D cy) A) args s 0 0 A) (F0 m 81 ls [])) : ∀ (n : Nat) (o : Nat) (v1 : Int32) (v2 : Int32) (v3 : Int32) (h : Hz) (H : Heap) (locs : List Loc) (ls : Array Slot) (hl : lv_has ls 4 [(0, .ref o), (1, .int v1), (2, .int v2), (3, .int v3)]) (hW : zW A cy D h H) (hS : va_S A s.heap H locs) (h : fX11_marksMeant_88 K81 n o v1 v2 v3 h = some (r0, h0)), W p l e ({ frames := 1, cells := 0, slots := 0, locals := 24 } : Room) s m args below meth c H locs 0 0 (MQ below (va_Qv (fun u => u = h0) (zB A D cy) A) args s 0 0 A) (F0 m 88 ls []) := by
  obtain ⟨hx, hb, hts, hown, hK9, hml, hN9, hA9⟩ := id X
  intro n
  induction n with
  | zero =>
    intro o v1 v2 v3 h H locs ls hl hW hS h
    rw [fX11_marksMeant_88] at h
    cases h
  | succ n ih =>
    intro o v1 v2 v3 h H locs ls hl hW hS h
    rw [fX11_marksMeant_88] at h
    refine lv_iload_n hx hb dX11_marksMeant_88 rfl (lv_at hl 3 rfl) ?_
    refine lv_aload_n hx hb dX11_marksMeant_89 rfl (lv_at hl 0 rfl) ?_
    replace h := b1_some h
    obtain ⟨x1, gx1, h⟩ := h
    refine z_getI X hW gx1 kX11 (by decide) (by decide) kf_X11_145 dX11_marksMeant_90 ?_
    refine lv_icmp_ge (tgt := 154) hx hb dX11_marksMeant_93 (by decide) (fun c2 => ?_) (fun c2 => ?_)
    · replace h := it_t h c2
      refine lv_iinc (v := (v2 + 1)) (lv' := [(2, .int (v2 + 1)), (0, .ref o), (1, .int v1), (3, .int v3)]) hx hb dX11_marksMeant_154 hl (k := 2) rfl rfl (by decide) rfl (fun ls hl => ?_)
      refine lv_goto (tgt := 81) hx hb dX11_marksMeant_157 (by decide) ?_
      exact hK81 o v1 (v2 + 1) _ _ _ _ (lv_sub hl [1, 2, 0] rfl) hW hS h
    · replace h := it_f h c2
      refine lv_aload_n hx hb dX11_marksMeant_96 rfl (lv_at hl 0 rfl) ?_
      replace h := b1_some h
      obtain ⟨a3, ga3, h⟩ := h
      refine z_getA X hW ga3 kX11 (by decide) (by decide) kf_X11_31 dX11_marksMeant_97 ?_
      refine lv_iload_n hx hb dX11_marksMeant_100 rfl (lv_at hl 3 rfl) ?_
      replace h := b1_some h
      obtain ⟨x4, gx4, h⟩ := h
      refine z_aldZ X hW gx4 dX11_marksMeant_101 ?_
      refine lv_if_ne (tgt := 148) hx hb dX11_marksMeant_102 (by decide) (fun c5 => ?_) (fun c5 => ?_)
      · replace h := it_f h c5
        refine lv_iinc (v := (v3 + 1)) (lv' := [(3, .int (v3 + 1)), (0, .ref o), (1, .int v1), (2, .int v2)]) hx hb dX11_marksMeant_148 hl (k := 3) rfl rfl (by decide) rfl (fun ls hl => ?_)
        refine lv_goto (tgt := 88) hx hb dX11_marksMeant_151 (by decide) ?_
        exact ih o v1 v2 (v3 + 1) _ _ _ _ (lv_sub hl [1, 2, 3, 0] rfl) hW hS h
      · replace h := it_t h c5
        refine lv_aload_n hx hb dX11_marksMeant_105 rfl (lv_at hl 0 rfl) ?_
        replace h := b1_some h
        obtain ⟨a6, ga6, h⟩ := h
        refine z_getA X hW ga6 kX11 (by decide) (by decide) kf_X11_136 dX11_marksMeant_106 ?_
        refine lv_iload_n hx hb dX11_marksMeant_109 rfl (lv_at hl 3 rfl) ?_
        replace h := b1_some h
        obtain ⟨x7, gx7, h⟩ := h
        refine z_aldZ X hW gx7 dX11_marksMeant_110 ?_
        refine lv_if_ne (tgt := 148) hx hb dX11_marksMeant_111 (by decide) (fun c8 => ?_) (fun c8 => ?_)
        · replace h := it_f h c8
          refine lv_iinc (v := (v3 + 1)) (lv' := [(3, .int (v3 + 1)), (0, .ref o), (1, .int v1), (2, .int v2)]) hx hb dX11_marksMeant_148 hl (k := 3) rfl rfl (by decide) rfl (fun ls hl => ?_)
          refine lv_goto (tgt := 88) hx hb dX11_marksMeant_151 (by decide) ?_
          exact ih o v1 v2 (v3 + 1) _ _ _ _ (lv_sub hl [1, 2, 3, 0] rfl) hW hS h
        · replace h := it_t h c8
          refine lv_aload_n hx hb dX11_marksMeant_114 rfl (lv_at hl 0 rfl) ?_
          refine lv_aload_n hx hb dX11_marksMeant_115 rfl (lv_at hl 0 rfl) ?_
          replace h := b1_some h
          obtain ⟨a9, ga9, h⟩ := h
          refine z_getA X hW ga9 kX11 (by decide) (by decide) kf_X11_106 dX11_marksMeant_116 ?_
          refine lv_iload_n hx hb dX11_marksMeant_119 rfl (lv_at hl 2 rfl) ?_
          replace h := b1_some h
          obtain ⟨x10, gx10, h⟩ := h
          refine z_aldI X hW gx10 dX11_marksMeant_120 ?_
          refine lv_iload_n hx hb dX11_marksMeant_121 rfl (lv_at hl 3 rfl) ?_
          replace h := b1_some h
          obtain ⟨q11, gq11, h⟩ := h
          replace h := b2_some h
          obtain ⟨x12, s13, gs13, h⟩ := h
          refine z_callVi (rest := []) X hW hS (cX11_goes_met gs13) kb_X11_goes kv_X11_goes kl_X11_261 (it_v gq11).1 kX11 rfl rfl ⟨Nat.le_of_ble_eq_true rfl, Nat.le_of_ble_eq_true rfl⟩ rfl rfl (by decide) hl.1 dX11_marksMeant_122 ⟨(by decide), (by decide)⟩ (fun H locs hW hS => ?_)
          refine lv_if_ne (tgt := 131) hx hb dX11_marksMeant_125 (by decide) (fun c14 => ?_) (fun c14 => ?_)
          · replace h := it_f h c14
            refine lv_aload_n hx hb dX11_marksMeant_131 rfl (lv_at hl 0 rfl) ?_
            replace h := b1_some h
            obtain ⟨a15, ga15, h⟩ := h
            refine z_getA X hW ga15 kX11 (by decide) (by decide) kf_X11_136 dX11_marksMeant_132 ?_
            refine lv_iload_n hx hb dX11_marksMeant_135 rfl (lv_at hl 3 rfl) ?_
            refine lv_iconst (v := 1) hx hb dX11_marksMeant_136 (by decide) ?_
            replace h := b1_some h
            obtain ⟨s16, gs16, h⟩ := h
            refine z_astZ X hW hS gs16 dX11_marksMeant_137 (fun H locs hW hS => ?_)
            refine lv_aload_n hx hb dX11_marksMeant_138 rfl (lv_at hl 0 rfl) ?_
            replace h := b1_some h
            obtain ⟨a17, ga17, h⟩ := h
            refine z_getA X hW ga17 kX11 (by decide) (by decide) kf_X11_106 dX11_marksMeant_139 ?_
            refine lv_iload_n hx hb dX11_marksMeant_142 rfl (lv_at hl 1 rfl) ?_
            refine lv_iload_n hx hb dX11_marksMeant_143 rfl (lv_at hl 3 rfl) ?_
            replace h := b1_some h
            obtain ⟨s18, gs18, h⟩ := h
            refine z_astI X hW hS gs18 dX11_marksMeant_144 (fun H locs hW hS => ?_)
            refine lv_iinc (v := (v1 + 1)) (lv' := [(1, .int (v1 + 1)), (0, .ref o), (2, .int v2), (3, .int v3)]) hx hb dX11_marksMeant_145 hl (k := 1) rfl rfl (by decide) rfl (fun ls hl => ?_)
            refine lv_iinc (v := (v3 + 1)) (lv' := [(3, .int (v3 + 1)), (1, .int (v1 + 1)), (0, .ref o), (2, .int v2)]) hx hb dX11_marksMeant_148 hl (k := 3) rfl rfl (by decide) rfl (fun ls hl => ?_)
            refine lv_goto (tgt := 88) hx hb dX11_marksMeant_151 (by decide) ?_
            exact ih o (v1 + 1) v2 (v3 + 1) _ _ _ _ (lv_sub hl [2, 1, 3, 0] rfl) hW hS h
          · replace h := it_t h c14
            refine lv_goto (tgt := 148) hx hb dX11_marksMeant_128 (by decide) ?_
            refine lv_iinc (v := (v3 + 1)) (lv' := [(3, .int (v3 + 1)), (0, .ref o), (1, .int v1), (2, .int v2)]) hx hb dX11_marksMeant_148 hl (k := 3) rfl rfl (by decide) rfl (fun ls hl => ?_)
            refine lv_goto (tgt := 88) hx hb dX11_marksMeant_151 (by decide) ?_
            exact ih o v1 v2 (v3 + 1) _ _ _ _ (lv_sub hl [1, 2, 3, 0] rfl) hW hS h

def fX11_marksMeant_81 : Nat → Nat → Int32 → Int32 → Hz → Option (Unit × Hz)
  | 0, _, _, _, _ => none
  | n + 1, o, v1, v2, h => (if v1 ≤ v2 then some ((), h) else fX11_marksMeant_88 (fX11_marksMeant_81 n) 100000 o v1 v2 0 h)
set_option maxHeartbeats 4000000 in
set_option maxRecDepth 100000 in
theorem wX11_marksMeant_81 {r0 : Unit} {h0 : Hz} (X : zX A D cy p s m args c cX11_marksMeant RX11 4) (hlk : meth.locks = false) (hr : meth.sig.returnType = none) : ∀ (n : Nat) (o : Nat) (v1 : Int32) (v2 : Int32) (h : Hz) (H : Heap) (locs : List Loc) (ls : Array Slot) (hl : lv_has ls 4 [(0, .ref o), (1, .int v1), (2, .int v2)]) (hW : zW A cy D h H) (hS : va_S A s.heap H locs) (h : fX11_marksMeant_81 n o v1 v2 h = some (r0, h0)), W p l e ({ frames := 1, cells := 0, slots := 0, locals := 24 } : Room) s m args below meth c H locs 0 0 (MQ below (va_Qv (fun u => u = h0) (zB A D cy) A) args s 0 0 A) (F0 m 81 ls []) := by
  obtain ⟨hx, hb, hts, hown, hK9, hml, hN9, hA9⟩ := id X
  intro n
  induction n with
  | zero =>
    intro o v1 v2 h H locs ls hl hW hS h
    rw [fX11_marksMeant_81] at h
    cases h
  | succ n ih =>
    intro o v1 v2 h H locs ls hl hW hS h
    rw [fX11_marksMeant_81] at h
    refine lv_iload_n hx hb dX11_marksMeant_81 rfl (lv_at hl 2 rfl) ?_
    refine lv_iload_n hx hb dX11_marksMeant_82 rfl (lv_at hl 1 rfl) ?_
    refine lv_icmp_ge (tgt := 160) hx hb dX11_marksMeant_83 (by decide) (fun c1 => ?_) (fun c1 => ?_)
    · replace h := it_t h c1
      exact z_etv X hlk hr hW hS h (by decide) (by decide) dX11_marksMeant_160
    · replace h := it_f h c1
      refine lv_iconst (v := 0) hx hb dX11_marksMeant_86 (by decide) ?_
      refine lv_istore_n (lv' := [(3, .int 0), (0, .ref o), (1, .int v1), (2, .int v2)]) hx hb dX11_marksMeant_87 rfl hl (by decide) rfl (fun ls hl => ?_)
      exact wX11_marksMeant_88 X hlk hr ih _ o v1 v2 0 _ _ _ _ (lv_sub hl [1, 2, 3, 0] rfl) hW hS h

def fX11_marksMeant_26 : Nat → Nat → Int32 → Int32 → Hz → Option (Unit × Hz)
  | 0, _, _, _, _ => none
  | n + 1, o, v1, v2, h => (b1 (gI 11 9 o h) fun x1 => (if x1 ≤ v2 then fX11_marksMeant_81 100000 o v1 0 h else (b1 (gA 11 7 o h) fun a3 => (b1 (xI 14 a3 v2 h) fun x4 => (if x4 = 0 then (b1 (gA 11 0 o h) fun a6 => (b1 (xI 12 a6 v2 h) fun x7 => (if x7 = 2 then (b1 (gA 11 47 o h) fun a9 => (b1 (yZ a9 v2 1 h) fun s10 => (b1 (gA 11 36 o s10) fun a11 => (b1 (yI a11 v1 v2 s10) fun s12 => fX11_marksMeant_26 n o (v1 + 1) (v2 + 1) s12)))) else fX11_marksMeant_26 n o v1 (v2 + 1) h))) else fX11_marksMeant_26 n o v1 (v2 + 1) h)))))
set_option maxHeartbeats 4000000 in
set_option maxRecDepth 100000 in
theorem wX11_marksMeant_26 {r0 : Unit} {h0 : Hz} (X : zX A D cy p s m args c cX11_marksMeant RX11 4) (hlk : meth.locks = false) (hr : meth.sig.returnType = none) : ∀ (n : Nat) (o : Nat) (v1 : Int32) (v2 : Int32) (h : Hz) (H : Heap) (locs : List Loc) (ls : Array Slot) (hl : lv_has ls 4 [(0, .ref o), (1, .int v1), (2, .int v2)]) (hW : zW A cy D h H) (hS : va_S A s.heap H locs) (h : fX11_marksMeant_26 n o v1 v2 h = some (r0, h0)), W p l e ({ frames := 1, cells := 0, slots := 0, locals := 24 } : Room) s m args below meth c H locs 0 0 (MQ below (va_Qv (fun u => u = h0) (zB A D cy) A) args s 0 0 A) (F0 m 26 ls []) := by
  obtain ⟨hx, hb, hts, hown, hK9, hml, hN9, hA9⟩ := id X
  intro n
  induction n with
  | zero =>
    intro o v1 v2 h H locs ls hl hW hS h
    rw [fX11_marksMeant_26] at h
    cases h
  | succ n ih =>
    intro o v1 v2 h H locs ls hl hW hS h
    rw [fX11_marksMeant_26] at h
    refine lv_iload_n hx hb dX11_marksMeant_26 rfl (lv_at hl 2 rfl) ?_
    refine lv_aload_n hx hb dX11_marksMeant_27 rfl (lv_at hl 0 rfl) ?_
    replace h := b1_some h
    obtain ⟨x1, gx1, h⟩ := h
    refine z_getI X hW gx1 kX11 (by decide) (by decide) kf_X11_145 dX11_marksMeant_28 ?_
    refine lv_icmp_ge (tgt := 79) hx hb dX11_marksMeant_31 (by decide) (fun c2 => ?_) (fun c2 => ?_)
    · replace h := it_t h c2
      refine lv_iconst (v := 0) hx hb dX11_marksMeant_79 (by decide) ?_
      refine lv_istore_n (lv' := [(2, .int 0), (0, .ref o), (1, .int v1)]) hx hb dX11_marksMeant_80 rfl hl (by decide) rfl (fun ls hl => ?_)
      exact wX11_marksMeant_81 X hlk hr _ o v1 0 _ _ _ _ (lv_sub hl [1, 2, 0] rfl) hW hS h
    · replace h := it_f h c2
      refine lv_aload_n hx hb dX11_marksMeant_34 rfl (lv_at hl 0 rfl) ?_
      replace h := b1_some h
      obtain ⟨a3, ga3, h⟩ := h
      refine z_getA X hW ga3 kX11 (by decide) (by decide) kf_X11_31 dX11_marksMeant_35 ?_
      refine lv_iload_n hx hb dX11_marksMeant_38 rfl (lv_at hl 2 rfl) ?_
      replace h := b1_some h
      obtain ⟨x4, gx4, h⟩ := h
      refine z_aldZ X hW gx4 dX11_marksMeant_39 ?_
      refine lv_if_ne (tgt := 73) hx hb dX11_marksMeant_40 (by decide) (fun c5 => ?_) (fun c5 => ?_)
      · replace h := it_f h c5
        refine lv_iinc (v := (v2 + 1)) (lv' := [(2, .int (v2 + 1)), (0, .ref o), (1, .int v1)]) hx hb dX11_marksMeant_73 hl (k := 2) rfl rfl (by decide) rfl (fun ls hl => ?_)
        refine lv_goto (tgt := 26) hx hb dX11_marksMeant_76 (by decide) ?_
        exact ih o v1 (v2 + 1) _ _ _ _ (lv_sub hl [1, 2, 0] rfl) hW hS h
      · replace h := it_t h c5
        refine lv_aload_n hx hb dX11_marksMeant_43 rfl (lv_at hl 0 rfl) ?_
        replace h := b1_some h
        obtain ⟨a6, ga6, h⟩ := h
        refine z_getA X hW ga6 kX11 (by decide) (by decide) kf_X11_9 dX11_marksMeant_44 ?_
        refine lv_iload_n hx hb dX11_marksMeant_47 rfl (lv_at hl 2 rfl) ?_
        replace h := b1_some h
        obtain ⟨x7, gx7, h⟩ := h
        refine z_aldI X hW gx7 dX11_marksMeant_48 ?_
        refine lv_iconst (v := 2) hx hb dX11_marksMeant_49 (by decide) ?_
        refine lv_icmp_eq (tgt := 56) hx hb dX11_marksMeant_50 (by decide) (fun c8 => ?_) (fun c8 => ?_)
        · replace h := it_t h c8
          refine lv_aload_n hx hb dX11_marksMeant_56 rfl (lv_at hl 0 rfl) ?_
          replace h := b1_some h
          obtain ⟨a9, ga9, h⟩ := h
          refine z_getA X hW ga9 kX11 (by decide) (by decide) kf_X11_136 dX11_marksMeant_57 ?_
          refine lv_iload_n hx hb dX11_marksMeant_60 rfl (lv_at hl 2 rfl) ?_
          refine lv_iconst (v := 1) hx hb dX11_marksMeant_61 (by decide) ?_
          replace h := b1_some h
          obtain ⟨s10, gs10, h⟩ := h
          refine z_astZ X hW hS gs10 dX11_marksMeant_62 (fun H locs hW hS => ?_)
          refine lv_aload_n hx hb dX11_marksMeant_63 rfl (lv_at hl 0 rfl) ?_
          replace h := b1_some h
          obtain ⟨a11, ga11, h⟩ := h
          refine z_getA X hW ga11 kX11 (by decide) (by decide) kf_X11_106 dX11_marksMeant_64 ?_
          refine lv_iload_n hx hb dX11_marksMeant_67 rfl (lv_at hl 1 rfl) ?_
          refine lv_iload_n hx hb dX11_marksMeant_68 rfl (lv_at hl 2 rfl) ?_
          replace h := b1_some h
          obtain ⟨s12, gs12, h⟩ := h
          refine z_astI X hW hS gs12 dX11_marksMeant_69 (fun H locs hW hS => ?_)
          refine lv_iinc (v := (v1 + 1)) (lv' := [(1, .int (v1 + 1)), (0, .ref o), (2, .int v2)]) hx hb dX11_marksMeant_70 hl (k := 1) rfl rfl (by decide) rfl (fun ls hl => ?_)
          refine lv_iinc (v := (v2 + 1)) (lv' := [(2, .int (v2 + 1)), (1, .int (v1 + 1)), (0, .ref o)]) hx hb dX11_marksMeant_73 hl (k := 2) rfl rfl (by decide) rfl (fun ls hl => ?_)
          refine lv_goto (tgt := 26) hx hb dX11_marksMeant_76 (by decide) ?_
          exact ih o (v1 + 1) (v2 + 1) _ _ _ _ (lv_sub hl [2, 1, 0] rfl) hW hS h
        · replace h := it_f h c8
          refine lv_goto (tgt := 73) hx hb dX11_marksMeant_53 (by decide) ?_
          refine lv_iinc (v := (v2 + 1)) (lv' := [(2, .int (v2 + 1)), (0, .ref o), (1, .int v1)]) hx hb dX11_marksMeant_73 hl (k := 2) rfl rfl (by decide) rfl (fun ls hl => ?_)
          refine lv_goto (tgt := 26) hx hb dX11_marksMeant_76 (by decide) ?_
          exact ih o v1 (v2 + 1) _ _ _ _ (lv_sub hl [1, 2, 0] rfl) hW hS h

def fX11_marksMeant_4 : Nat → Nat → Int32 → Int32 → Hz → Option (Unit × Hz)
  | 0, _, _, _, _ => none
  | n + 1, o, v1, v2, h => (if 300 ≤ v2 then fX11_marksMeant_26 100000 o v1 0 h else (b1 (gA 11 47 o h) fun a2 => (b1 (yZ a2 v2 0 h) fun s3 => fX11_marksMeant_4 n o v1 (v2 + 1) s3)))
set_option maxHeartbeats 4000000 in
set_option maxRecDepth 100000 in
theorem wX11_marksMeant_4 {r0 : Unit} {h0 : Hz} (X : zX A D cy p s m args c cX11_marksMeant RX11 4) (hlk : meth.locks = false) (hr : meth.sig.returnType = none) : ∀ (n : Nat) (o : Nat) (v1 : Int32) (v2 : Int32) (h : Hz) (H : Heap) (locs : List Loc) (ls : Array Slot) (hl : lv_has ls 4 [(0, .ref o), (1, .int v1), (2, .int v2)]) (hW : zW A cy D h H) (hS : va_S A s.heap H locs) (h : fX11_marksMeant_4 n o v1 v2 h = some (r0, h0)), W p l e ({ frames := 1, cells := 0, slots := 0, locals := 24 } : Room) s m args below meth c H locs 0 0 (MQ below (va_Qv (fun u => u = h0) (zB A D cy) A) args s 0 0 A) (F0 m 4 ls []) := by
  obtain ⟨hx, hb, hts, hown, hK9, hml, hN9, hA9⟩ := id X
  intro n
  induction n with
  | zero =>
    intro o v1 v2 h H locs ls hl hW hS h
    rw [fX11_marksMeant_4] at h
    cases h
  | succ n ih =>
    intro o v1 v2 h H locs ls hl hW hS h
    rw [fX11_marksMeant_4] at h
    refine lv_iload_n hx hb dX11_marksMeant_4 rfl (lv_at hl 2 rfl) ?_
    refine lv_sipush (v := 300) hx hb dX11_marksMeant_5 (by decide) ?_
    refine lv_icmp_ge (tgt := 24) hx hb dX11_marksMeant_8 (by decide) (fun c1 => ?_) (fun c1 => ?_)
    · replace h := it_t h c1
      refine lv_iconst (v := 0) hx hb dX11_marksMeant_24 (by decide) ?_
      refine lv_istore_n (lv' := [(2, .int 0), (0, .ref o), (1, .int v1)]) hx hb dX11_marksMeant_25 rfl hl (by decide) rfl (fun ls hl => ?_)
      exact wX11_marksMeant_26 X hlk hr _ o v1 0 _ _ _ _ (lv_sub hl [1, 2, 0] rfl) hW hS h
    · replace h := it_f h c1
      refine lv_aload_n hx hb dX11_marksMeant_11 rfl (lv_at hl 0 rfl) ?_
      replace h := b1_some h
      obtain ⟨a2, ga2, h⟩ := h
      refine z_getA X hW ga2 kX11 (by decide) (by decide) kf_X11_136 dX11_marksMeant_12 ?_
      refine lv_iload_n hx hb dX11_marksMeant_15 rfl (lv_at hl 2 rfl) ?_
      refine lv_iconst (v := 0) hx hb dX11_marksMeant_16 (by decide) ?_
      replace h := b1_some h
      obtain ⟨s3, gs3, h⟩ := h
      refine z_astZ X hW hS gs3 dX11_marksMeant_17 (fun H locs hW hS => ?_)
      refine lv_iinc (v := (v2 + 1)) (lv' := [(2, .int (v2 + 1)), (0, .ref o), (1, .int v1)]) hx hb dX11_marksMeant_18 hl (k := 2) rfl rfl (by decide) rfl (fun ls hl => ?_)
      refine lv_goto (tgt := 4) hx hb dX11_marksMeant_21 (by decide) ?_
      exact ih o v1 (v2 + 1) _ _ _ _ (lv_sub hl [1, 2, 0] rfl) hW hS h

def fX11_marksMeant (o : Nat) (h : Hz) : Option (Unit × Hz) := fX11_marksMeant_4 100000 o 0 0 h
set_option maxHeartbeats 4000000 in
set_option maxRecDepth 100000 in
theorem wX11_marksMeant_0 {r0 : Unit} {h0 : Hz} (X : zX A D cy p s m args c cX11_marksMeant RX11 4) (hlk : meth.locks = false) (hr : meth.sig.returnType = none) (o : Nat) (h : Hz) (H : Heap) (locs : List Loc) (ls : Array Slot) (hl : lv_has ls 4 [(0, .ref o)]) (hW : zW A cy D h H) (hS : va_S A s.heap H locs) (h : fX11_marksMeant o h = some (r0, h0)) : W p l e ({ frames := 1, cells := 0, slots := 0, locals := 24 } : Room) s m args below meth c H locs 0 0 (MQ below (va_Qv (fun u => u = h0) (zB A D cy) A) args s 0 0 A) (F0 m 0 ls []) := by
  obtain ⟨hx, hb, hts, hown, hK9, hml, hN9, hA9⟩ := id X
  unfold fX11_marksMeant at h
  refine lv_iconst (v := 0) hx hb dX11_marksMeant_0 (by decide) ?_
  refine lv_istore_n (lv' := [(1, .int 0), (0, .ref o)]) hx hb dX11_marksMeant_1 rfl hl (by decide) rfl (fun ls hl => ?_)
  refine lv_iconst (v := 0) hx hb dX11_marksMeant_2 (by decide) ?_
  refine lv_istore_n (lv' := [(2, .int 0), (1, .int 0), (0, .ref o)]) hx hb dX11_marksMeant_3 rfl hl (by decide) rfl (fun ls hl => ?_)
  exact wX11_marksMeant_4 X hlk hr _ o 0 0 _ _ _ _ (lv_sub hl [2, 1, 0] rfl) hW hS h

set_option maxHeartbeats 4000000 in
set_option maxRecDepth 100000 in
theorem cX11_marksMeant_met {l : Launch} {A : Nat → Prop} {D : va_G} {cy : Nat → ClassId} {r0 : Unit} {h0 : Hz} {o : Nat} {h : Hz} (g : fX11_marksMeant o h = some (r0, h0)) : Met l yX11_marksMeant (Cond.code yX11_marksMeant cX11_marksMeant 4 none :: wT) ({ frames := 1, cells := 0, slots := 0, locals := 24 } : Room) (va_Pc [.ref o] (zS A D cy h)) (va_Qv (fun u => u = h0) (zB A D cy) A) 0 0 A := by
  refine Met.ofW (cc := cX11_marksMeant) (maxL := 4) (ret := none) (by decide) rfl ?_
  intro p e s m args below meth c s₁ B hml hv
  obtain ⟨rfl, hW, hK, hN, hA⟩ := hv
  have X : zX A D cy p s m _ c cX11_marksMeant RX11 4 := ⟨B.exec, B.bytes, fun w hw => atoms_spec (ws := Cond.code yX11_marksMeant cX11_marksMeant 4 none :: wT) B.pre w (List.mem_cons_of_mem _ hw), findClass_of_methodNamed B.named, hK, hml, hN, hA⟩
  have hl := lv_entry [.ref o] (n := 4) (Nat.le_of_ble_eq_true rfl)
  rw [lg_entry_eq]
  generalize (lg_sl [.ref o] ++ List.replicate (4 - (lg_sl [.ref o]).length) Slot.unset).toArray = ls at hl ⊢
  have hl : lv_has ls 4 [(0, .ref o)] := hl
  exact wX11_marksMeant_0 X B.notSynchronized B.returns o _ _ _ _ (lv_sub hl [0] rfl) hW va_S.rf g

theorem dX11_dead_0 : decode cX11_dead 0 = .ok (.iload_n 1, 1) := by decide +kernel
theorem dX11_dead_1 : decode cX11_dead 1 = .ok (.ifCond .ge 5, 3) := by decide +kernel
theorem dX11_dead_4 : decode cX11_dead 4 = .ok (.iconst (-1), 1) := by decide +kernel
theorem dX11_dead_5 : decode cX11_dead 5 = .ok (.ireturn, 1) := by decide +kernel
theorem dX11_dead_6 : decode cX11_dead 6 = .ok (.aload_n 0, 1) := by decide +kernel
theorem dX11_dead_7 : decode cX11_dead 7 = .ok (.invokevirtual 271, 3) := by decide +kernel
theorem dX11_dead_10 : decode cX11_dead 10 = .ok (.iconst 0, 1) := by decide +kernel
theorem dX11_dead_11 : decode cX11_dead 11 = .ok (.istore_n 2, 1) := by decide +kernel
theorem dX11_dead_12 : decode cX11_dead 12 = .ok (.iconst 0, 1) := by decide +kernel
theorem dX11_dead_13 : decode cX11_dead 13 = .ok (.istore_n 3, 1) := by decide +kernel
theorem dX11_dead_14 : decode cX11_dead 14 = .ok (.iload_n 3, 1) := by decide +kernel
theorem dX11_dead_15 : decode cX11_dead 15 = .ok (.aload_n 0, 1) := by decide +kernel
theorem dX11_dead_16 : decode cX11_dead 16 = .ok (.getfield 145, 3) := by decide +kernel
theorem dX11_dead_19 : decode cX11_dead 19 = .ok (.if_icmp .ge 40, 3) := by decide +kernel
theorem dX11_dead_22 : decode cX11_dead 22 = .ok (.aload_n 0, 1) := by decide +kernel
theorem dX11_dead_23 : decode cX11_dead 23 = .ok (.getfield 31, 3) := by decide +kernel
theorem dX11_dead_26 : decode cX11_dead 26 = .ok (.iload_n 3, 1) := by decide +kernel
theorem dX11_dead_27 : decode cX11_dead 27 = .ok (.baload, 1) := by decide +kernel
theorem dX11_dead_28 : decode cX11_dead 28 = .ok (.ifCond .ne 25, 3) := by decide +kernel
theorem dX11_dead_31 : decode cX11_dead 31 = .ok (.aload_n 0, 1) := by decide +kernel
theorem dX11_dead_32 : decode cX11_dead 32 = .ok (.getfield 136, 3) := by decide +kernel
theorem dX11_dead_35 : decode cX11_dead 35 = .ok (.iload_n 3, 1) := by decide +kernel
theorem dX11_dead_36 : decode cX11_dead 36 = .ok (.baload, 1) := by decide +kernel
theorem dX11_dead_37 : decode cX11_dead 37 = .ok (.ifCond .eq 6, 3) := by decide +kernel
theorem dX11_dead_40 : decode cX11_dead 40 = .ok (.goto 13, 3) := by decide +kernel
theorem dX11_dead_43 : decode cX11_dead 43 = .ok (.iload_n 2, 1) := by decide +kernel
theorem dX11_dead_44 : decode cX11_dead 44 = .ok (.iload_n 1, 1) := by decide +kernel
theorem dX11_dead_45 : decode cX11_dead 45 = .ok (.if_icmp .ne 5, 3) := by decide +kernel
theorem dX11_dead_48 : decode cX11_dead 48 = .ok (.iload_n 3, 1) := by decide +kernel
theorem dX11_dead_49 : decode cX11_dead 49 = .ok (.ireturn, 1) := by decide +kernel
theorem dX11_dead_50 : decode cX11_dead 50 = .ok (.iinc 2 1, 3) := by decide +kernel
theorem dX11_dead_53 : decode cX11_dead 53 = .ok (.iinc 3 1, 3) := by decide +kernel
theorem dX11_dead_56 : decode cX11_dead 56 = .ok (.goto (-42), 3) := by decide +kernel
theorem dX11_dead_59 : decode cX11_dead 59 = .ok (.iconst (-1), 1) := by decide +kernel
theorem dX11_dead_60 : decode cX11_dead 60 = .ok (.ireturn, 1) := by decide +kernel
def fX11_dead_14 : Nat → Nat → Int32 → Int32 → Int32 → Hz → Option (Int32 × Hz)
  | 0, _, _, _, _, _ => none
  | n + 1, o, v1, v2, v3, h => (b1 (gI 11 9 o h) fun x1 => (if x1 ≤ v3 then some ((-1), h) else (b1 (gA 11 7 o h) fun a3 => (b1 (xI 14 a3 v3 h) fun x4 => (if x4 = 0 then (b1 (gA 11 47 o h) fun a6 => (b1 (xI 14 a6 v3 h) fun x7 => (if x7 = 0 then (if v2 = v1 then some (v3, h) else fX11_dead_14 n o v1 (v2 + 1) (v3 + 1) h) else fX11_dead_14 n o v1 v2 (v3 + 1) h))) else fX11_dead_14 n o v1 v2 (v3 + 1) h)))))
set_option maxHeartbeats 4000000 in
set_option maxRecDepth 100000 in
theorem wX11_dead_14 {r0 : Int32} {h0 : Hz} (X : zX A D cy p s m args c cX11_dead RX11 4) (hlk : meth.locks = false) (hr : meth.sig.returnType = (some .int)) : ∀ (n : Nat) (o : Nat) (v1 : Int32) (v2 : Int32) (v3 : Int32) (h : Hz) (H : Heap) (locs : List Loc) (ls : Array Slot) (hl : lv_has ls 4 [(0, .ref o), (1, .int v1), (2, .int v2), (3, .int v3)]) (hW : zW A cy D h H) (hS : va_S A s.heap H locs) (h : fX11_dead_14 n o v1 v2 v3 h = some (r0, h0)), W p l e ({ frames := 2, cells := 0, slots := 0, locals := 47 } : Room) s m args below meth c H locs 0 0 (MQ below (va_Qi (fun r1 u => r1 = r0 ∧ u = h0) (zB A D cy) A) args s 0 0 A) (F0 m 14 ls []) := by
  obtain ⟨hx, hb, hts, hown, hK9, hml, hN9, hA9⟩ := id X
  intro n
  induction n with
  | zero =>
    intro o v1 v2 v3 h H locs ls hl hW hS h
    rw [fX11_dead_14] at h
    cases h
  | succ n ih =>
    intro o v1 v2 v3 h H locs ls hl hW hS h
    rw [fX11_dead_14] at h
    refine lv_iload_n hx hb dX11_dead_14 rfl (lv_at hl 3 rfl) ?_
    refine lv_aload_n hx hb dX11_dead_15 rfl (lv_at hl 0 rfl) ?_
    replace h := b1_some h
    obtain ⟨x1, gx1, h⟩ := h
    refine z_getI X hW gx1 kX11 (by decide) (by decide) kf_X11_145 dX11_dead_16 ?_
    refine lv_icmp_ge (tgt := 59) hx hb dX11_dead_19 (by decide) (fun c2 => ?_) (fun c2 => ?_)
    · replace h := it_t h c2
      refine lv_iconst (v := (-1)) hx hb dX11_dead_59 (by decide) ?_
      exact z_eti X hlk hr hW hS h (by decide) (by decide) dX11_dead_60
    · replace h := it_f h c2
      refine lv_aload_n hx hb dX11_dead_22 rfl (lv_at hl 0 rfl) ?_
      replace h := b1_some h
      obtain ⟨a3, ga3, h⟩ := h
      refine z_getA X hW ga3 kX11 (by decide) (by decide) kf_X11_31 dX11_dead_23 ?_
      refine lv_iload_n hx hb dX11_dead_26 rfl (lv_at hl 3 rfl) ?_
      replace h := b1_some h
      obtain ⟨x4, gx4, h⟩ := h
      refine z_aldZ X hW gx4 dX11_dead_27 ?_
      refine lv_if_ne (tgt := 53) hx hb dX11_dead_28 (by decide) (fun c5 => ?_) (fun c5 => ?_)
      · replace h := it_f h c5
        refine lv_iinc (v := (v3 + 1)) (lv' := [(3, .int (v3 + 1)), (0, .ref o), (1, .int v1), (2, .int v2)]) hx hb dX11_dead_53 hl (k := 3) rfl rfl (by decide) rfl (fun ls hl => ?_)
        refine lv_goto (tgt := 14) hx hb dX11_dead_56 (by decide) ?_
        exact ih o v1 v2 (v3 + 1) _ _ _ _ (lv_sub hl [1, 2, 3, 0] rfl) hW hS h
      · replace h := it_t h c5
        refine lv_aload_n hx hb dX11_dead_31 rfl (lv_at hl 0 rfl) ?_
        replace h := b1_some h
        obtain ⟨a6, ga6, h⟩ := h
        refine z_getA X hW ga6 kX11 (by decide) (by decide) kf_X11_136 dX11_dead_32 ?_
        refine lv_iload_n hx hb dX11_dead_35 rfl (lv_at hl 3 rfl) ?_
        replace h := b1_some h
        obtain ⟨x7, gx7, h⟩ := h
        refine z_aldZ X hW gx7 dX11_dead_36 ?_
        refine lv_if_eq (tgt := 43) hx hb dX11_dead_37 (by decide) (fun c8 => ?_) (fun c8 => ?_)
        · replace h := it_t h c8
          refine lv_iload_n hx hb dX11_dead_43 rfl (lv_at hl 2 rfl) ?_
          refine lv_iload_n hx hb dX11_dead_44 rfl (lv_at hl 1 rfl) ?_
          refine lv_icmp_ne (tgt := 50) hx hb dX11_dead_45 (by decide) (fun c9 => ?_) (fun c9 => ?_)
          · replace h := it_f h c9
            refine lv_iinc (v := (v2 + 1)) (lv' := [(2, .int (v2 + 1)), (0, .ref o), (1, .int v1), (3, .int v3)]) hx hb dX11_dead_50 hl (k := 2) rfl rfl (by decide) rfl (fun ls hl => ?_)
            refine lv_iinc (v := (v3 + 1)) (lv' := [(3, .int (v3 + 1)), (2, .int (v2 + 1)), (0, .ref o), (1, .int v1)]) hx hb dX11_dead_53 hl (k := 3) rfl rfl (by decide) rfl (fun ls hl => ?_)
            refine lv_goto (tgt := 14) hx hb dX11_dead_56 (by decide) ?_
            exact ih o v1 (v2 + 1) (v3 + 1) _ _ _ _ (lv_sub hl [2, 3, 1, 0] rfl) hW hS h
          · replace h := it_t h c9
            refine lv_iload_n hx hb dX11_dead_48 rfl (lv_at hl 3 rfl) ?_
            exact z_eti X hlk hr hW hS h (by decide) (by decide) dX11_dead_49
        · replace h := it_f h c8
          refine lv_goto (tgt := 53) hx hb dX11_dead_40 (by decide) ?_
          refine lv_iinc (v := (v3 + 1)) (lv' := [(3, .int (v3 + 1)), (0, .ref o), (1, .int v1), (2, .int v2)]) hx hb dX11_dead_53 hl (k := 3) rfl rfl (by decide) rfl (fun ls hl => ?_)
          refine lv_goto (tgt := 14) hx hb dX11_dead_56 (by decide) ?_
          exact ih o v1 v2 (v3 + 1) _ _ _ _ (lv_sub hl [1, 2, 3, 0] rfl) hW hS h

def fX11_dead (o : Nat) (v1 : Int32) (h : Hz) : Option (Int32 × Hz) := (if 0 ≤ v1 then (b1 (tg 11 o h) fun _ => (b2 (fX11_marksMeant o h) fun _ s4 => fX11_dead_14 100000 o v1 0 0 s4)) else some ((-1), h))
set_option maxHeartbeats 4000000 in
set_option maxRecDepth 100000 in
theorem wX11_dead_0 {r0 : Int32} {h0 : Hz} (X : zX A D cy p s m args c cX11_dead RX11 4) (hlk : meth.locks = false) (hr : meth.sig.returnType = (some .int)) (o : Nat) (v1 : Int32) (h : Hz) (H : Heap) (locs : List Loc) (ls : Array Slot) (hl : lv_has ls 4 [(0, .ref o), (1, .int v1)]) (hW : zW A cy D h H) (hS : va_S A s.heap H locs) (h : fX11_dead o v1 h = some (r0, h0)) : W p l e ({ frames := 2, cells := 0, slots := 0, locals := 47 } : Room) s m args below meth c H locs 0 0 (MQ below (va_Qi (fun r1 u => r1 = r0 ∧ u = h0) (zB A D cy) A) args s 0 0 A) (F0 m 0 ls []) := by
  obtain ⟨hx, hb, hts, hown, hK9, hml, hN9, hA9⟩ := id X
  unfold fX11_dead at h
  refine lv_iload_n hx hb dX11_dead_0 rfl (lv_at hl 1 rfl) ?_
  refine lv_if_ge (tgt := 6) hx hb dX11_dead_1 (by decide) (fun c1 => ?_) (fun c1 => ?_)
  · replace h := it_t h c1
    refine lv_aload_n hx hb dX11_dead_6 rfl (lv_at hl 0 rfl) ?_
    replace h := b1_some h
    obtain ⟨q2, gq2, h⟩ := h
    replace h := b2_some h
    obtain ⟨_ur3, s4, gs4, h⟩ := h
    refine z_callVv (rest := []) X hW hS (cX11_marksMeant_met gs4) kb_X11_marksMeant kv_X11_marksMeant kl_X11_271 (it_v gq2).1 kX11 rfl rfl ⟨Nat.le_of_ble_eq_true rfl, Nat.le_of_ble_eq_true rfl⟩ rfl rfl (by decide) hl.1 dX11_dead_7 ⟨(by decide), (by decide)⟩ (fun H locs hW hS => ?_)
    refine lv_iconst (v := 0) hx hb dX11_dead_10 (by decide) ?_
    refine lv_istore_n (lv' := [(2, .int 0), (0, .ref o), (1, .int v1)]) hx hb dX11_dead_11 rfl hl (by decide) rfl (fun ls hl => ?_)
    refine lv_iconst (v := 0) hx hb dX11_dead_12 (by decide) ?_
    refine lv_istore_n (lv' := [(3, .int 0), (2, .int 0), (0, .ref o), (1, .int v1)]) hx hb dX11_dead_13 rfl hl (by decide) rfl (fun ls hl => ?_)
    exact wX11_dead_14 X hlk hr _ o v1 0 0 _ _ _ _ (lv_sub hl [2, 3, 1, 0] rfl) hW hS h
  · replace h := it_f h c1
    refine lv_iconst (v := (-1)) hx hb dX11_dead_4 (by decide) ?_
    exact z_eti X hlk hr hW hS h (by decide) (by decide) dX11_dead_5

set_option maxHeartbeats 4000000 in
set_option maxRecDepth 100000 in
theorem cX11_dead_met {l : Launch} {A : Nat → Prop} {D : va_G} {cy : Nat → ClassId} {r0 : Int32} {h0 : Hz} {o : Nat} {v1 : Int32} {h : Hz} (g : fX11_dead o v1 h = some (r0, h0)) : Met l yX11_dead (Cond.code yX11_dead cX11_dead 4 (some .int) :: wT) ({ frames := 2, cells := 0, slots := 0, locals := 47 } : Room) (va_Pc [.ref o, .int v1] (zS A D cy h)) (va_Qi (fun r1 u => r1 = r0 ∧ u = h0) (zB A D cy) A) 0 0 A := by
  refine Met.ofW (cc := cX11_dead) (maxL := 4) (ret := (some .int)) (by decide) rfl ?_
  intro p e s m args below meth c s₁ B hml hv
  obtain ⟨rfl, hW, hK, hN, hA⟩ := hv
  have X : zX A D cy p s m _ c cX11_dead RX11 4 := ⟨B.exec, B.bytes, fun w hw => atoms_spec (ws := Cond.code yX11_dead cX11_dead 4 (some .int) :: wT) B.pre w (List.mem_cons_of_mem _ hw), findClass_of_methodNamed B.named, hK, hml, hN, hA⟩
  have hl := lv_entry [.ref o, .int v1] (n := 4) (Nat.le_of_ble_eq_true rfl)
  rw [lg_entry_eq]
  generalize (lg_sl [.ref o, .int v1] ++ List.replicate (4 - (lg_sl [.ref o, .int v1]).length) Slot.unset).toArray = ls at hl ⊢
  have hl : lv_has ls 4 [(0, .ref o), (1, .int v1)] := hl
  exact wX11_dead_0 X B.notSynchronized B.returns o v1 _ _ _ _ (lv_sub hl [0, 1] rfl) hW va_S.rf g

theorem dX11_audit_0 : decode cX11_audit 0 = .ok (.iload_n 1, 1) := by decide +kernel
theorem dX11_audit_1 : decode cX11_audit 1 = .ok (.aload_n 0, 1) := by decide +kernel
theorem dX11_audit_2 : decode cX11_audit 2 = .ok (.getfield 145, 3) := by decide +kernel
theorem dX11_audit_5 : decode cX11_audit 5 = .ok (.invokestatic 149, 3) := by decide +kernel
theorem dX11_audit_8 : decode cX11_audit 8 = .ok (.ifCond .eq 22, 3) := by decide +kernel
theorem dX11_audit_11 : decode cX11_audit 11 = .ok (.aload_n 0, 1) := by decide +kernel
theorem dX11_audit_12 : decode cX11_audit 12 = .ok (.getfield 9, 3) := by decide +kernel
theorem dX11_audit_15 : decode cX11_audit 15 = .ok (.iload_n 1, 1) := by decide +kernel
theorem dX11_audit_16 : decode cX11_audit 16 = .ok (.iaload, 1) := by decide +kernel
theorem dX11_audit_17 : decode cX11_audit 17 = .ok (.iconst 3, 1) := by decide +kernel
theorem dX11_audit_18 : decode cX11_audit 18 = .ok (.if_icmp .eq 12, 3) := by decide +kernel
theorem dX11_audit_21 : decode cX11_audit 21 = .ok (.iload_n 2, 1) := by decide +kernel
theorem dX11_audit_22 : decode cX11_audit 22 = .ok (.ifCond .lt 8, 3) := by decide +kernel
theorem dX11_audit_25 : decode cX11_audit 25 = .ok (.iload_n 2, 1) := by decide +kernel
theorem dX11_audit_26 : decode cX11_audit 26 = .ok (.iconst 1, 1) := by decide +kernel
theorem dX11_audit_27 : decode cX11_audit 27 = .ok (.if_icmp .le 5, 3) := by decide +kernel
theorem dX11_audit_30 : decode cX11_audit 30 = .ok (.iconst (-1), 1) := by decide +kernel
theorem dX11_audit_31 : decode cX11_audit 31 = .ok (.ireturn, 1) := by decide +kernel
theorem dX11_audit_32 : decode cX11_audit 32 = .ok (.iload_n 2, 1) := by decide +kernel
theorem dX11_audit_33 : decode cX11_audit 33 = .ok (.ifCond .ne 10, 3) := by decide +kernel
theorem dX11_audit_36 : decode cX11_audit 36 = .ok (.aload_n 0, 1) := by decide +kernel
theorem dX11_audit_37 : decode cX11_audit 37 = .ok (.getfield 22, 3) := by decide +kernel
theorem dX11_audit_40 : decode cX11_audit 40 = .ok (.iload_n 1, 1) := by decide +kernel
theorem dX11_audit_41 : decode cX11_audit 41 = .ok (.iaload, 1) := by decide +kernel
theorem dX11_audit_42 : decode cX11_audit 42 = .ok (.ireturn, 1) := by decide +kernel
theorem dX11_audit_43 : decode cX11_audit 43 = .ok (.iconst 0, 1) := by decide +kernel
theorem dX11_audit_44 : decode cX11_audit 44 = .ok (.istore_n 3, 1) := by decide +kernel
theorem dX11_audit_45 : decode cX11_audit 45 = .ok (.iconst 0, 1) := by decide +kernel
theorem dX11_audit_46 : decode cX11_audit 46 = .ok (.istore 4, 2) := by decide +kernel
theorem dX11_audit_48 : decode cX11_audit 48 = .ok (.iload 4, 2) := by decide +kernel
theorem dX11_audit_50 : decode cX11_audit 50 = .ok (.aload_n 0, 1) := by decide +kernel
theorem dX11_audit_51 : decode cX11_audit 51 = .ok (.getfield 145, 3) := by decide +kernel
theorem dX11_audit_54 : decode cX11_audit 54 = .ok (.if_icmp .ge 55, 3) := by decide +kernel
theorem dX11_audit_57 : decode cX11_audit 57 = .ok (.iload_n 3, 1) := by decide +kernel
theorem dX11_audit_58 : decode cX11_audit 58 = .ok (.aload_n 0, 1) := by decide +kernel
theorem dX11_audit_59 : decode cX11_audit 59 = .ok (.getfield 31, 3) := by decide +kernel
theorem dX11_audit_62 : decode cX11_audit 62 = .ok (.iload 4, 2) := by decide +kernel
theorem dX11_audit_64 : decode cX11_audit 64 = .ok (.baload, 1) := by decide +kernel
theorem dX11_audit_65 : decode cX11_audit 65 = .ok (.ifCond .ne 35, 3) := by decide +kernel
theorem dX11_audit_68 : decode cX11_audit 68 = .ok (.aload_n 0, 1) := by decide +kernel
theorem dX11_audit_69 : decode cX11_audit 69 = .ok (.getfield 9, 3) := by decide +kernel
theorem dX11_audit_72 : decode cX11_audit 72 = .ok (.iload 4, 2) := by decide +kernel
theorem dX11_audit_74 : decode cX11_audit 74 = .ok (.iaload, 1) := by decide +kernel
theorem dX11_audit_75 : decode cX11_audit 75 = .ok (.iconst 3, 1) := by decide +kernel
theorem dX11_audit_76 : decode cX11_audit 76 = .ok (.if_icmp .ne 24, 3) := by decide +kernel
theorem dX11_audit_79 : decode cX11_audit 79 = .ok (.aload_n 0, 1) := by decide +kernel
theorem dX11_audit_80 : decode cX11_audit 80 = .ok (.getfield 25, 3) := by decide +kernel
theorem dX11_audit_83 : decode cX11_audit 83 = .ok (.iload 4, 2) := by decide +kernel
theorem dX11_audit_85 : decode cX11_audit 85 = .ok (.iaload, 1) := by decide +kernel
theorem dX11_audit_86 : decode cX11_audit 86 = .ok (.iload_n 1, 1) := by decide +kernel
theorem dX11_audit_87 : decode cX11_audit 87 = .ok (.if_icmp .ne 13, 3) := by decide +kernel
theorem dX11_audit_90 : decode cX11_audit 90 = .ok (.aload_n 0, 1) := by decide +kernel
theorem dX11_audit_91 : decode cX11_audit 91 = .ok (.getfield 28, 3) := by decide +kernel
theorem dX11_audit_94 : decode cX11_audit 94 = .ok (.iload 4, 2) := by decide +kernel
theorem dX11_audit_96 : decode cX11_audit 96 = .ok (.iaload, 1) := by decide +kernel
theorem dX11_audit_97 : decode cX11_audit 97 = .ok (.goto 4, 3) := by decide +kernel
theorem dX11_audit_100 : decode cX11_audit 100 = .ok (.iconst 0, 1) := by decide +kernel
theorem dX11_audit_101 : decode cX11_audit 101 = .ok (.iadd, 1) := by decide +kernel
theorem dX11_audit_102 : decode cX11_audit 102 = .ok (.istore_n 3, 1) := by decide +kernel
theorem dX11_audit_103 : decode cX11_audit 103 = .ok (.iinc 4 1, 3) := by decide +kernel
theorem dX11_audit_106 : decode cX11_audit 106 = .ok (.goto (-58), 3) := by decide +kernel
theorem dX11_audit_109 : decode cX11_audit 109 = .ok (.iconst 0, 1) := by decide +kernel
theorem dX11_audit_110 : decode cX11_audit 110 = .ok (.istore 4, 2) := by decide +kernel
theorem dX11_audit_112 : decode cX11_audit 112 = .ok (.iload 4, 2) := by decide +kernel
theorem dX11_audit_114 : decode cX11_audit 114 = .ok (.aload_n 0, 1) := by decide +kernel
theorem dX11_audit_115 : decode cX11_audit 115 = .ok (.getfield 199, 3) := by decide +kernel
theorem dX11_audit_118 : decode cX11_audit 118 = .ok (.if_icmp .ge 44, 3) := by decide +kernel
theorem dX11_audit_121 : decode cX11_audit 121 = .ok (.iload_n 3, 1) := by decide +kernel
theorem dX11_audit_122 : decode cX11_audit 122 = .ok (.aload_n 0, 1) := by decide +kernel
theorem dX11_audit_123 : decode cX11_audit 123 = .ok (.getfield 79, 3) := by decide +kernel
theorem dX11_audit_126 : decode cX11_audit 126 = .ok (.iload 4, 2) := by decide +kernel
theorem dX11_audit_128 : decode cX11_audit 128 = .ok (.baload, 1) := by decide +kernel
theorem dX11_audit_129 : decode cX11_audit 129 = .ok (.ifCond .eq 24, 3) := by decide +kernel
theorem dX11_audit_132 : decode cX11_audit 132 = .ok (.aload_n 0, 1) := by decide +kernel
theorem dX11_audit_133 : decode cX11_audit 133 = .ok (.getfield 61, 3) := by decide +kernel
theorem dX11_audit_136 : decode cX11_audit 136 = .ok (.iload 4, 2) := by decide +kernel
theorem dX11_audit_138 : decode cX11_audit 138 = .ok (.iaload, 1) := by decide +kernel
theorem dX11_audit_139 : decode cX11_audit 139 = .ok (.iload_n 1, 1) := by decide +kernel
theorem dX11_audit_140 : decode cX11_audit 140 = .ok (.if_icmp .ne 13, 3) := by decide +kernel
theorem dX11_audit_143 : decode cX11_audit 143 = .ok (.aload_n 0, 1) := by decide +kernel
theorem dX11_audit_144 : decode cX11_audit 144 = .ok (.getfield 64, 3) := by decide +kernel
theorem dX11_audit_147 : decode cX11_audit 147 = .ok (.iload 4, 2) := by decide +kernel
theorem dX11_audit_149 : decode cX11_audit 149 = .ok (.iaload, 1) := by decide +kernel
theorem dX11_audit_150 : decode cX11_audit 150 = .ok (.goto 4, 3) := by decide +kernel
theorem dX11_audit_153 : decode cX11_audit 153 = .ok (.iconst 0, 1) := by decide +kernel
theorem dX11_audit_154 : decode cX11_audit 154 = .ok (.iadd, 1) := by decide +kernel
theorem dX11_audit_155 : decode cX11_audit 155 = .ok (.istore_n 3, 1) := by decide +kernel
theorem dX11_audit_156 : decode cX11_audit 156 = .ok (.iinc 4 1, 3) := by decide +kernel
theorem dX11_audit_159 : decode cX11_audit 159 = .ok (.goto (-47), 3) := by decide +kernel
theorem dX11_audit_162 : decode cX11_audit 162 = .ok (.iload_n 3, 1) := by decide +kernel
theorem dX11_audit_163 : decode cX11_audit 163 = .ok (.ireturn, 1) := by decide +kernel
def fX11_audit_112 : Nat → Nat → Int32 → Int32 → Int32 → Hz → Option (Int32 × Hz)
  | 0, _, _, _, _, _ => none
  | n + 1, o, v1, v3, v4, h => (b1 (gI 11 24 o h) fun x1 => (if x1 ≤ v4 then some (v3, h) else (b1 (gA 11 23 o h) fun a3 => (b1 (xI 14 a3 v4 h) fun x4 => (if x4 = 0 then fX11_audit_112 n o v1 (v3 + 0) (v4 + 1) h else (b1 (gA 11 17 o h) fun a6 => (b1 (xI 12 a6 v4 h) fun x7 => (if x7 = v1 then (b1 (gA 11 18 o h) fun a9 => (b1 (xI 12 a9 v4 h) fun x10 => fX11_audit_112 n o v1 (v3 + x10) (v4 + 1) h)) else fX11_audit_112 n o v1 (v3 + 0) (v4 + 1) h))))))))
set_option maxHeartbeats 4000000 in
set_option maxRecDepth 100000 in
theorem wX11_audit_112 {r0 : Int32} {h0 : Hz} (X : zX A D cy p s m args c cX11_audit RX11 5) (hlk : meth.locks = false) (hr : meth.sig.returnType = (some .int)) : ∀ (n : Nat) (o : Nat) (v1 : Int32) (v3 : Int32) (v4 : Int32) (h : Hz) (H : Heap) (locs : List Loc) (ls : Array Slot) (hl : lv_has ls 5 [(0, .ref o), (1, .int v1), (3, .int v3), (4, .int v4)]) (hW : zW A cy D h H) (hS : va_S A s.heap H locs) (h : fX11_audit_112 n o v1 v3 v4 h = some (r0, h0)), W p l e ({ frames := 1, cells := 0, slots := 0, locals := 21 } : Room) s m args below meth c H locs 0 0 (MQ below (va_Qi (fun r1 u => r1 = r0 ∧ u = h0) (zB A D cy) A) args s 0 0 A) (F0 m 112 ls []) := by
  obtain ⟨hx, hb, hts, hown, hK9, hml, hN9, hA9⟩ := id X
  intro n
  induction n with
  | zero =>
    intro o v1 v3 v4 h H locs ls hl hW hS h
    rw [fX11_audit_112] at h
    cases h
  | succ n ih =>
    intro o v1 v3 v4 h H locs ls hl hW hS h
    rw [fX11_audit_112] at h
    refine lv_iload hx hb dX11_audit_112 (lv_at hl 3 rfl) ?_
    refine lv_aload_n hx hb dX11_audit_114 rfl (lv_at hl 0 rfl) ?_
    replace h := b1_some h
    obtain ⟨x1, gx1, h⟩ := h
    refine z_getI X hW gx1 kX11 (by decide) (by decide) kf_X11_199 dX11_audit_115 ?_
    refine lv_icmp_ge (tgt := 162) hx hb dX11_audit_118 (by decide) (fun c2 => ?_) (fun c2 => ?_)
    · replace h := it_t h c2
      refine lv_iload_n hx hb dX11_audit_162 rfl (lv_at hl 2 rfl) ?_
      exact z_eti X hlk hr hW hS h (by decide) (by decide) dX11_audit_163
    · replace h := it_f h c2
      refine lv_iload_n hx hb dX11_audit_121 rfl (lv_at hl 2 rfl) ?_
      refine lv_aload_n hx hb dX11_audit_122 rfl (lv_at hl 0 rfl) ?_
      replace h := b1_some h
      obtain ⟨a3, ga3, h⟩ := h
      refine z_getA X hW ga3 kX11 (by decide) (by decide) kf_X11_79 dX11_audit_123 ?_
      refine lv_iload hx hb dX11_audit_126 (lv_at hl 3 rfl) ?_
      replace h := b1_some h
      obtain ⟨x4, gx4, h⟩ := h
      refine z_aldZ X hW gx4 dX11_audit_128 ?_
      refine lv_if_eq (tgt := 153) hx hb dX11_audit_129 (by decide) (fun c5 => ?_) (fun c5 => ?_)
      · replace h := it_t h c5
        refine lv_iconst (v := 0) hx hb dX11_audit_153 (by decide) ?_
        refine lv_iadd hx hb dX11_audit_154 ?_
        refine lv_istore_n (lv' := [(3, .int (v3 + 0)), (0, .ref o), (1, .int v1), (4, .int v4)]) hx hb dX11_audit_155 rfl hl (by decide) rfl (fun ls hl => ?_)
        refine lv_iinc (v := (v4 + 1)) (lv' := [(4, .int (v4 + 1)), (3, .int (v3 + 0)), (0, .ref o), (1, .int v1)]) hx hb dX11_audit_156 hl (k := 3) rfl rfl (by decide) rfl (fun ls hl => ?_)
        refine lv_goto (tgt := 112) hx hb dX11_audit_159 (by decide) ?_
        exact ih o v1 (v3 + 0) (v4 + 1) _ _ _ _ (lv_sub hl [2, 3, 1, 0] rfl) hW hS h
      · replace h := it_f h c5
        refine lv_aload_n hx hb dX11_audit_132 rfl (lv_at hl 0 rfl) ?_
        replace h := b1_some h
        obtain ⟨a6, ga6, h⟩ := h
        refine z_getA X hW ga6 kX11 (by decide) (by decide) kf_X11_61 dX11_audit_133 ?_
        refine lv_iload hx hb dX11_audit_136 (lv_at hl 3 rfl) ?_
        replace h := b1_some h
        obtain ⟨x7, gx7, h⟩ := h
        refine z_aldI X hW gx7 dX11_audit_138 ?_
        refine lv_iload_n hx hb dX11_audit_139 rfl (lv_at hl 1 rfl) ?_
        refine lv_icmp_ne (tgt := 153) hx hb dX11_audit_140 (by decide) (fun c8 => ?_) (fun c8 => ?_)
        · replace h := it_f h c8
          refine lv_iconst (v := 0) hx hb dX11_audit_153 (by decide) ?_
          refine lv_iadd hx hb dX11_audit_154 ?_
          refine lv_istore_n (lv' := [(3, .int (v3 + 0)), (0, .ref o), (1, .int v1), (4, .int v4)]) hx hb dX11_audit_155 rfl hl (by decide) rfl (fun ls hl => ?_)
          refine lv_iinc (v := (v4 + 1)) (lv' := [(4, .int (v4 + 1)), (3, .int (v3 + 0)), (0, .ref o), (1, .int v1)]) hx hb dX11_audit_156 hl (k := 3) rfl rfl (by decide) rfl (fun ls hl => ?_)
          refine lv_goto (tgt := 112) hx hb dX11_audit_159 (by decide) ?_
          exact ih o v1 (v3 + 0) (v4 + 1) _ _ _ _ (lv_sub hl [2, 3, 1, 0] rfl) hW hS h
        · replace h := it_t h c8
          refine lv_aload_n hx hb dX11_audit_143 rfl (lv_at hl 0 rfl) ?_
          replace h := b1_some h
          obtain ⟨a9, ga9, h⟩ := h
          refine z_getA X hW ga9 kX11 (by decide) (by decide) kf_X11_64 dX11_audit_144 ?_
          refine lv_iload hx hb dX11_audit_147 (lv_at hl 3 rfl) ?_
          replace h := b1_some h
          obtain ⟨x10, gx10, h⟩ := h
          refine z_aldI X hW gx10 dX11_audit_149 ?_
          refine lv_goto (tgt := 154) hx hb dX11_audit_150 (by decide) ?_
          refine lv_iadd hx hb dX11_audit_154 ?_
          refine lv_istore_n (lv' := [(3, .int (v3 + x10)), (0, .ref o), (1, .int v1), (4, .int v4)]) hx hb dX11_audit_155 rfl hl (by decide) rfl (fun ls hl => ?_)
          refine lv_iinc (v := (v4 + 1)) (lv' := [(4, .int (v4 + 1)), (3, .int (v3 + x10)), (0, .ref o), (1, .int v1)]) hx hb dX11_audit_156 hl (k := 3) rfl rfl (by decide) rfl (fun ls hl => ?_)
          refine lv_goto (tgt := 112) hx hb dX11_audit_159 (by decide) ?_
          exact ih o v1 (v3 + x10) (v4 + 1) _ _ _ _ (lv_sub hl [2, 3, 1, 0] rfl) hW hS h

def fX11_audit_48 : Nat → Nat → Int32 → Int32 → Int32 → Hz → Option (Int32 × Hz)
  | 0, _, _, _, _, _ => none
  | n + 1, o, v1, v3, v4, h => (b1 (gI 11 9 o h) fun x1 => (if x1 ≤ v4 then fX11_audit_112 100000 o v1 v3 0 h else (b1 (gA 11 7 o h) fun a3 => (b1 (xI 14 a3 v4 h) fun x4 => (if x4 = 0 then (b1 (gA 11 0 o h) fun a6 => (b1 (xI 12 a6 v4 h) fun x7 => (if x7 = 3 then (b1 (gA 11 5 o h) fun a9 => (b1 (xI 12 a9 v4 h) fun x10 => (if x10 = v1 then (b1 (gA 11 6 o h) fun a12 => (b1 (xI 12 a12 v4 h) fun x13 => fX11_audit_48 n o v1 (v3 + x13) (v4 + 1) h)) else fX11_audit_48 n o v1 (v3 + 0) (v4 + 1) h))) else fX11_audit_48 n o v1 (v3 + 0) (v4 + 1) h))) else fX11_audit_48 n o v1 (v3 + 0) (v4 + 1) h)))))
set_option maxHeartbeats 4000000 in
set_option maxRecDepth 100000 in
theorem wX11_audit_48 {r0 : Int32} {h0 : Hz} (X : zX A D cy p s m args c cX11_audit RX11 5) (hlk : meth.locks = false) (hr : meth.sig.returnType = (some .int)) : ∀ (n : Nat) (o : Nat) (v1 : Int32) (v3 : Int32) (v4 : Int32) (h : Hz) (H : Heap) (locs : List Loc) (ls : Array Slot) (hl : lv_has ls 5 [(0, .ref o), (1, .int v1), (3, .int v3), (4, .int v4)]) (hW : zW A cy D h H) (hS : va_S A s.heap H locs) (h : fX11_audit_48 n o v1 v3 v4 h = some (r0, h0)), W p l e ({ frames := 1, cells := 0, slots := 0, locals := 21 } : Room) s m args below meth c H locs 0 0 (MQ below (va_Qi (fun r1 u => r1 = r0 ∧ u = h0) (zB A D cy) A) args s 0 0 A) (F0 m 48 ls []) := by
  obtain ⟨hx, hb, hts, hown, hK9, hml, hN9, hA9⟩ := id X
  intro n
  induction n with
  | zero =>
    intro o v1 v3 v4 h H locs ls hl hW hS h
    rw [fX11_audit_48] at h
    cases h
  | succ n ih =>
    intro o v1 v3 v4 h H locs ls hl hW hS h
    rw [fX11_audit_48] at h
    refine lv_iload hx hb dX11_audit_48 (lv_at hl 3 rfl) ?_
    refine lv_aload_n hx hb dX11_audit_50 rfl (lv_at hl 0 rfl) ?_
    replace h := b1_some h
    obtain ⟨x1, gx1, h⟩ := h
    refine z_getI X hW gx1 kX11 (by decide) (by decide) kf_X11_145 dX11_audit_51 ?_
    refine lv_icmp_ge (tgt := 109) hx hb dX11_audit_54 (by decide) (fun c2 => ?_) (fun c2 => ?_)
    · replace h := it_t h c2
      refine lv_iconst (v := 0) hx hb dX11_audit_109 (by decide) ?_
      refine lv_istore (lv' := [(4, .int 0), (0, .ref o), (1, .int v1), (3, .int v3)]) hx hb dX11_audit_110 hl (by decide) rfl (fun ls hl => ?_)
      exact wX11_audit_112 X hlk hr _ o v1 v3 0 _ _ _ _ (lv_sub hl [1, 2, 3, 0] rfl) hW hS h
    · replace h := it_f h c2
      refine lv_iload_n hx hb dX11_audit_57 rfl (lv_at hl 2 rfl) ?_
      refine lv_aload_n hx hb dX11_audit_58 rfl (lv_at hl 0 rfl) ?_
      replace h := b1_some h
      obtain ⟨a3, ga3, h⟩ := h
      refine z_getA X hW ga3 kX11 (by decide) (by decide) kf_X11_31 dX11_audit_59 ?_
      refine lv_iload hx hb dX11_audit_62 (lv_at hl 3 rfl) ?_
      replace h := b1_some h
      obtain ⟨x4, gx4, h⟩ := h
      refine z_aldZ X hW gx4 dX11_audit_64 ?_
      refine lv_if_ne (tgt := 100) hx hb dX11_audit_65 (by decide) (fun c5 => ?_) (fun c5 => ?_)
      · replace h := it_f h c5
        refine lv_iconst (v := 0) hx hb dX11_audit_100 (by decide) ?_
        refine lv_iadd hx hb dX11_audit_101 ?_
        refine lv_istore_n (lv' := [(3, .int (v3 + 0)), (0, .ref o), (1, .int v1), (4, .int v4)]) hx hb dX11_audit_102 rfl hl (by decide) rfl (fun ls hl => ?_)
        refine lv_iinc (v := (v4 + 1)) (lv' := [(4, .int (v4 + 1)), (3, .int (v3 + 0)), (0, .ref o), (1, .int v1)]) hx hb dX11_audit_103 hl (k := 3) rfl rfl (by decide) rfl (fun ls hl => ?_)
        refine lv_goto (tgt := 48) hx hb dX11_audit_106 (by decide) ?_
        exact ih o v1 (v3 + 0) (v4 + 1) _ _ _ _ (lv_sub hl [2, 3, 1, 0] rfl) hW hS h
      · replace h := it_t h c5
        refine lv_aload_n hx hb dX11_audit_68 rfl (lv_at hl 0 rfl) ?_
        replace h := b1_some h
        obtain ⟨a6, ga6, h⟩ := h
        refine z_getA X hW ga6 kX11 (by decide) (by decide) kf_X11_9 dX11_audit_69 ?_
        refine lv_iload hx hb dX11_audit_72 (lv_at hl 3 rfl) ?_
        replace h := b1_some h
        obtain ⟨x7, gx7, h⟩ := h
        refine z_aldI X hW gx7 dX11_audit_74 ?_
        refine lv_iconst (v := 3) hx hb dX11_audit_75 (by decide) ?_
        refine lv_icmp_ne (tgt := 100) hx hb dX11_audit_76 (by decide) (fun c8 => ?_) (fun c8 => ?_)
        · replace h := it_f h c8
          refine lv_iconst (v := 0) hx hb dX11_audit_100 (by decide) ?_
          refine lv_iadd hx hb dX11_audit_101 ?_
          refine lv_istore_n (lv' := [(3, .int (v3 + 0)), (0, .ref o), (1, .int v1), (4, .int v4)]) hx hb dX11_audit_102 rfl hl (by decide) rfl (fun ls hl => ?_)
          refine lv_iinc (v := (v4 + 1)) (lv' := [(4, .int (v4 + 1)), (3, .int (v3 + 0)), (0, .ref o), (1, .int v1)]) hx hb dX11_audit_103 hl (k := 3) rfl rfl (by decide) rfl (fun ls hl => ?_)
          refine lv_goto (tgt := 48) hx hb dX11_audit_106 (by decide) ?_
          exact ih o v1 (v3 + 0) (v4 + 1) _ _ _ _ (lv_sub hl [2, 3, 1, 0] rfl) hW hS h
        · replace h := it_t h c8
          refine lv_aload_n hx hb dX11_audit_79 rfl (lv_at hl 0 rfl) ?_
          replace h := b1_some h
          obtain ⟨a9, ga9, h⟩ := h
          refine z_getA X hW ga9 kX11 (by decide) (by decide) kf_X11_25 dX11_audit_80 ?_
          refine lv_iload hx hb dX11_audit_83 (lv_at hl 3 rfl) ?_
          replace h := b1_some h
          obtain ⟨x10, gx10, h⟩ := h
          refine z_aldI X hW gx10 dX11_audit_85 ?_
          refine lv_iload_n hx hb dX11_audit_86 rfl (lv_at hl 1 rfl) ?_
          refine lv_icmp_ne (tgt := 100) hx hb dX11_audit_87 (by decide) (fun c11 => ?_) (fun c11 => ?_)
          · replace h := it_f h c11
            refine lv_iconst (v := 0) hx hb dX11_audit_100 (by decide) ?_
            refine lv_iadd hx hb dX11_audit_101 ?_
            refine lv_istore_n (lv' := [(3, .int (v3 + 0)), (0, .ref o), (1, .int v1), (4, .int v4)]) hx hb dX11_audit_102 rfl hl (by decide) rfl (fun ls hl => ?_)
            refine lv_iinc (v := (v4 + 1)) (lv' := [(4, .int (v4 + 1)), (3, .int (v3 + 0)), (0, .ref o), (1, .int v1)]) hx hb dX11_audit_103 hl (k := 3) rfl rfl (by decide) rfl (fun ls hl => ?_)
            refine lv_goto (tgt := 48) hx hb dX11_audit_106 (by decide) ?_
            exact ih o v1 (v3 + 0) (v4 + 1) _ _ _ _ (lv_sub hl [2, 3, 1, 0] rfl) hW hS h
          · replace h := it_t h c11
            refine lv_aload_n hx hb dX11_audit_90 rfl (lv_at hl 0 rfl) ?_
            replace h := b1_some h
            obtain ⟨a12, ga12, h⟩ := h
            refine z_getA X hW ga12 kX11 (by decide) (by decide) kf_X11_28 dX11_audit_91 ?_
            refine lv_iload hx hb dX11_audit_94 (lv_at hl 3 rfl) ?_
            replace h := b1_some h
            obtain ⟨x13, gx13, h⟩ := h
            refine z_aldI X hW gx13 dX11_audit_96 ?_
            refine lv_goto (tgt := 101) hx hb dX11_audit_97 (by decide) ?_
            refine lv_iadd hx hb dX11_audit_101 ?_
            refine lv_istore_n (lv' := [(3, .int (v3 + x13)), (0, .ref o), (1, .int v1), (4, .int v4)]) hx hb dX11_audit_102 rfl hl (by decide) rfl (fun ls hl => ?_)
            refine lv_iinc (v := (v4 + 1)) (lv' := [(4, .int (v4 + 1)), (3, .int (v3 + x13)), (0, .ref o), (1, .int v1)]) hx hb dX11_audit_103 hl (k := 3) rfl rfl (by decide) rfl (fun ls hl => ?_)
            refine lv_goto (tgt := 48) hx hb dX11_audit_106 (by decide) ?_
            exact ih o v1 (v3 + x13) (v4 + 1) _ _ _ _ (lv_sub hl [2, 3, 1, 0] rfl) hW hS h

def fX11_audit (o : Nat) (v1 : Int32) (v2 : Int32) (h : Hz) : Option (Int32 × Hz) := (b1 (gI 11 9 o h) fun x1 => (b2 (fX11_isIn v1 x1 h) fun x2 s3 => (if x2 = 0 then some ((-1), s3) else (b1 (gA 11 0 o s3) fun a5 => (b1 (xI 12 a5 v1 s3) fun x6 => (if x6 = 3 then some ((-1), s3) else (if v2 < 0 then some ((-1), s3) else (if v2 ≤ 1 then (if v2 = 0 then (b1 (gA 11 4 o s3) fun a11 => (b1 (xI 12 a11 v1 s3) fun x12 => some (x12, s3))) else fX11_audit_48 100000 o v1 0 0 s3) else some ((-1), s3)))))))))
set_option maxHeartbeats 4000000 in
set_option maxRecDepth 100000 in
theorem wX11_audit_0 {r0 : Int32} {h0 : Hz} (X : zX A D cy p s m args c cX11_audit RX11 5) (hlk : meth.locks = false) (hr : meth.sig.returnType = (some .int)) (o : Nat) (v1 : Int32) (v2 : Int32) (h : Hz) (H : Heap) (locs : List Loc) (ls : Array Slot) (hl : lv_has ls 5 [(0, .ref o), (1, .int v1), (2, .int v2)]) (hW : zW A cy D h H) (hS : va_S A s.heap H locs) (h : fX11_audit o v1 v2 h = some (r0, h0)) : W p l e ({ frames := 1, cells := 0, slots := 0, locals := 21 } : Room) s m args below meth c H locs 0 0 (MQ below (va_Qi (fun r1 u => r1 = r0 ∧ u = h0) (zB A D cy) A) args s 0 0 A) (F0 m 0 ls []) := by
  obtain ⟨hx, hb, hts, hown, hK9, hml, hN9, hA9⟩ := id X
  unfold fX11_audit at h
  refine lv_iload_n hx hb dX11_audit_0 rfl (lv_at hl 1 rfl) ?_
  refine lv_aload_n hx hb dX11_audit_1 rfl (lv_at hl 0 rfl) ?_
  replace h := b1_some h
  obtain ⟨x1, gx1, h⟩ := h
  refine z_getI X hW gx1 kX11 (by decide) (by decide) kf_X11_145 dX11_audit_2 ?_
  replace h := b2_some h
  obtain ⟨x2, s3, gs3, h⟩ := h
  refine z_callSi (rest := []) X hW hS (cX11_isIn_met gs3) kb_X11_isIn ks_X11_isIn kl_X11_149 rfl rfl ⟨Nat.le_of_ble_eq_true rfl, Nat.le_of_ble_eq_true rfl⟩ rfl rfl (by decide) hl.1 dX11_audit_5 ⟨(by decide), (by decide)⟩ (fun H locs hW hS => ?_)
  refine lv_if_eq (tgt := 30) hx hb dX11_audit_8 (by decide) (fun c4 => ?_) (fun c4 => ?_)
  · replace h := it_t h c4
    refine lv_iconst (v := (-1)) hx hb dX11_audit_30 (by decide) ?_
    exact z_eti X hlk hr hW hS h (by decide) (by decide) dX11_audit_31
  · replace h := it_f h c4
    refine lv_aload_n hx hb dX11_audit_11 rfl (lv_at hl 0 rfl) ?_
    replace h := b1_some h
    obtain ⟨a5, ga5, h⟩ := h
    refine z_getA X hW ga5 kX11 (by decide) (by decide) kf_X11_9 dX11_audit_12 ?_
    refine lv_iload_n hx hb dX11_audit_15 rfl (lv_at hl 1 rfl) ?_
    replace h := b1_some h
    obtain ⟨x6, gx6, h⟩ := h
    refine z_aldI X hW gx6 dX11_audit_16 ?_
    refine lv_iconst (v := 3) hx hb dX11_audit_17 (by decide) ?_
    refine lv_icmp_eq (tgt := 30) hx hb dX11_audit_18 (by decide) (fun c7 => ?_) (fun c7 => ?_)
    · replace h := it_t h c7
      refine lv_iconst (v := (-1)) hx hb dX11_audit_30 (by decide) ?_
      exact z_eti X hlk hr hW hS h (by decide) (by decide) dX11_audit_31
    · replace h := it_f h c7
      refine lv_iload_n hx hb dX11_audit_21 rfl (lv_at hl 2 rfl) ?_
      refine lv_if_lt (tgt := 30) hx hb dX11_audit_22 (by decide) (fun c8 => ?_) (fun c8 => ?_)
      · replace h := it_t h c8
        refine lv_iconst (v := (-1)) hx hb dX11_audit_30 (by decide) ?_
        exact z_eti X hlk hr hW hS h (by decide) (by decide) dX11_audit_31
      · replace h := it_f h c8
        refine lv_iload_n hx hb dX11_audit_25 rfl (lv_at hl 2 rfl) ?_
        refine lv_iconst (v := 1) hx hb dX11_audit_26 (by decide) ?_
        refine lv_icmp_le (tgt := 32) hx hb dX11_audit_27 (by decide) (fun c9 => ?_) (fun c9 => ?_)
        · replace h := it_t h c9
          refine lv_iload_n hx hb dX11_audit_32 rfl (lv_at hl 2 rfl) ?_
          refine lv_if_ne (tgt := 43) hx hb dX11_audit_33 (by decide) (fun c10 => ?_) (fun c10 => ?_)
          · replace h := it_f h c10
            refine lv_iconst (v := 0) hx hb dX11_audit_43 (by decide) ?_
            refine lv_istore_n (lv' := [(3, .int 0), (0, .ref o), (1, .int v1), (2, .int v2)]) hx hb dX11_audit_44 rfl hl (by decide) rfl (fun ls hl => ?_)
            refine lv_iconst (v := 0) hx hb dX11_audit_45 (by decide) ?_
            refine lv_istore (lv' := [(4, .int 0), (3, .int 0), (0, .ref o), (1, .int v1), (2, .int v2)]) hx hb dX11_audit_46 hl (by decide) rfl (fun ls hl => ?_)
            exact wX11_audit_48 X hlk hr _ o v1 0 0 _ _ _ _ (lv_sub hl [2, 3, 1, 0] rfl) hW hS h
          · replace h := it_t h c10
            refine lv_aload_n hx hb dX11_audit_36 rfl (lv_at hl 0 rfl) ?_
            replace h := b1_some h
            obtain ⟨a11, ga11, h⟩ := h
            refine z_getA X hW ga11 kX11 (by decide) (by decide) kf_X11_22 dX11_audit_37 ?_
            refine lv_iload_n hx hb dX11_audit_40 rfl (lv_at hl 1 rfl) ?_
            replace h := b1_some h
            obtain ⟨x12, gx12, h⟩ := h
            refine z_aldI X hW gx12 dX11_audit_41 ?_
            exact z_eti X hlk hr hW hS h (by decide) (by decide) dX11_audit_42
        · replace h := it_f h c9
          refine lv_iconst (v := (-1)) hx hb dX11_audit_30 (by decide) ?_
          exact z_eti X hlk hr hW hS h (by decide) (by decide) dX11_audit_31

set_option maxHeartbeats 4000000 in
set_option maxRecDepth 100000 in
theorem cX11_audit_met {l : Launch} {A : Nat → Prop} {D : va_G} {cy : Nat → ClassId} {r0 : Int32} {h0 : Hz} {o : Nat} {v1 : Int32} {v2 : Int32} {h : Hz} (g : fX11_audit o v1 v2 h = some (r0, h0)) : Met l yX11_audit (Cond.code yX11_audit cX11_audit 5 (some .int) :: wT) ({ frames := 1, cells := 0, slots := 0, locals := 21 } : Room) (va_Pc [.ref o, .int v1, .int v2] (zS A D cy h)) (va_Qi (fun r1 u => r1 = r0 ∧ u = h0) (zB A D cy) A) 0 0 A := by
  refine Met.ofW (cc := cX11_audit) (maxL := 5) (ret := (some .int)) (by decide) rfl ?_
  intro p e s m args below meth c s₁ B hml hv
  obtain ⟨rfl, hW, hK, hN, hA⟩ := hv
  have X : zX A D cy p s m _ c cX11_audit RX11 5 := ⟨B.exec, B.bytes, fun w hw => atoms_spec (ws := Cond.code yX11_audit cX11_audit 5 (some .int) :: wT) B.pre w (List.mem_cons_of_mem _ hw), findClass_of_methodNamed B.named, hK, hml, hN, hA⟩
  have hl := lv_entry [.ref o, .int v1, .int v2] (n := 5) (Nat.le_of_ble_eq_true rfl)
  rw [lg_entry_eq]
  generalize (lg_sl [.ref o, .int v1, .int v2] ++ List.replicate (5 - (lg_sl [.ref o, .int v1, .int v2]).length) Slot.unset).toArray = ls at hl ⊢
  have hl : lv_has ls 5 [(0, .ref o), (1, .int v1), (2, .int v2)] := hl
  exact wX11_audit_0 X B.notSynchronized B.returns o v1 v2 _ _ _ _ (lv_sub hl [0, 1, 2] rfl) hW va_S.rf g

theorem dX11_status_0 : decode cX11_status 0 = .ok (.iload_n 1, 1) := by decide +kernel
theorem dX11_status_1 : decode cX11_status 1 = .ok (.bipush 10, 2) := by decide +kernel
theorem dX11_status_3 : decode cX11_status 3 = .ok (.if_icmp .le 19, 3) := by decide +kernel
theorem dX11_status_6 : decode cX11_status 6 = .ok (.iload_n 1, 1) := by decide +kernel
theorem dX11_status_7 : decode cX11_status 7 = .ok (.bipush 18, 2) := by decide +kernel
theorem dX11_status_9 : decode cX11_status 9 = .ok (.if_icmp .ge 13, 3) := by decide +kernel
theorem dX11_status_12 : decode cX11_status 12 = .ok (.aload_n 0, 1) := by decide +kernel
theorem dX11_status_13 : decode cX11_status 13 = .ok (.getfield 94, 3) := by decide +kernel
theorem dX11_status_16 : decode cX11_status 16 = .ok (.iload_n 1, 1) := by decide +kernel
theorem dX11_status_17 : decode cX11_status 17 = .ok (.bipush 10, 2) := by decide +kernel
theorem dX11_status_19 : decode cX11_status 19 = .ok (.isub, 1) := by decide +kernel
theorem dX11_status_20 : decode cX11_status 20 = .ok (.iaload, 1) := by decide +kernel
theorem dX11_status_21 : decode cX11_status 21 = .ok (.ireturn, 1) := by decide +kernel
theorem dX11_status_22 : decode cX11_status 22 = .ok (.iconst 0, 1) := by decide +kernel
theorem dX11_status_23 : decode cX11_status 23 = .ok (.istore_n 2, 1) := by decide +kernel
theorem dX11_status_24 : decode cX11_status 24 = .ok (.iload_n 1, 1) := by decide +kernel
theorem dX11_status_25 : decode cX11_status 25 = .ok (.tableswitch 167 0 7 #[47, 52, 87, 92, 127, 132, 137, 142], 47) := by decide +kernel
theorem dX11_status_72 : decode cX11_status 72 = .ok (.aload_n 0, 1) := by decide +kernel
theorem dX11_status_73 : decode cX11_status 73 = .ok (.getfield 145, 3) := by decide +kernel
theorem dX11_status_76 : decode cX11_status 76 = .ok (.ireturn, 1) := by decide +kernel
theorem dX11_status_77 : decode cX11_status 77 = .ok (.iconst 0, 1) := by decide +kernel
theorem dX11_status_78 : decode cX11_status 78 = .ok (.istore_n 3, 1) := by decide +kernel
theorem dX11_status_79 : decode cX11_status 79 = .ok (.iload_n 3, 1) := by decide +kernel
theorem dX11_status_80 : decode cX11_status 80 = .ok (.aload_n 0, 1) := by decide +kernel
theorem dX11_status_81 : decode cX11_status 81 = .ok (.getfield 145, 3) := by decide +kernel
theorem dX11_status_84 : decode cX11_status 84 = .ok (.if_icmp .ge 26, 3) := by decide +kernel
theorem dX11_status_87 : decode cX11_status 87 = .ok (.iload_n 2, 1) := by decide +kernel
theorem dX11_status_88 : decode cX11_status 88 = .ok (.aload_n 0, 1) := by decide +kernel
theorem dX11_status_89 : decode cX11_status 89 = .ok (.getfield 31, 3) := by decide +kernel
theorem dX11_status_92 : decode cX11_status 92 = .ok (.iload_n 3, 1) := by decide +kernel
theorem dX11_status_93 : decode cX11_status 93 = .ok (.baload, 1) := by decide +kernel
theorem dX11_status_94 : decode cX11_status 94 = .ok (.ifCond .eq 7, 3) := by decide +kernel
theorem dX11_status_97 : decode cX11_status 97 = .ok (.iconst 0, 1) := by decide +kernel
theorem dX11_status_98 : decode cX11_status 98 = .ok (.goto 4, 3) := by decide +kernel
theorem dX11_status_101 : decode cX11_status 101 = .ok (.iconst 1, 1) := by decide +kernel
theorem dX11_status_102 : decode cX11_status 102 = .ok (.iadd, 1) := by decide +kernel
theorem dX11_status_103 : decode cX11_status 103 = .ok (.istore_n 2, 1) := by decide +kernel
theorem dX11_status_104 : decode cX11_status 104 = .ok (.iinc 3 1, 3) := by decide +kernel
theorem dX11_status_107 : decode cX11_status 107 = .ok (.goto (-28), 3) := by decide +kernel
theorem dX11_status_110 : decode cX11_status 110 = .ok (.iload_n 2, 1) := by decide +kernel
theorem dX11_status_111 : decode cX11_status 111 = .ok (.ireturn, 1) := by decide +kernel
theorem dX11_status_112 : decode cX11_status 112 = .ok (.aload_n 0, 1) := by decide +kernel
theorem dX11_status_113 : decode cX11_status 113 = .ok (.getfield 199, 3) := by decide +kernel
theorem dX11_status_116 : decode cX11_status 116 = .ok (.ireturn, 1) := by decide +kernel
theorem dX11_status_117 : decode cX11_status 117 = .ok (.iconst 0, 1) := by decide +kernel
theorem dX11_status_118 : decode cX11_status 118 = .ok (.istore_n 3, 1) := by decide +kernel
theorem dX11_status_119 : decode cX11_status 119 = .ok (.iload_n 3, 1) := by decide +kernel
theorem dX11_status_120 : decode cX11_status 120 = .ok (.aload_n 0, 1) := by decide +kernel
theorem dX11_status_121 : decode cX11_status 121 = .ok (.getfield 199, 3) := by decide +kernel
theorem dX11_status_124 : decode cX11_status 124 = .ok (.if_icmp .ge 26, 3) := by decide +kernel
theorem dX11_status_127 : decode cX11_status 127 = .ok (.iload_n 2, 1) := by decide +kernel
theorem dX11_status_128 : decode cX11_status 128 = .ok (.aload_n 0, 1) := by decide +kernel
theorem dX11_status_129 : decode cX11_status 129 = .ok (.getfield 79, 3) := by decide +kernel
theorem dX11_status_132 : decode cX11_status 132 = .ok (.iload_n 3, 1) := by decide +kernel
theorem dX11_status_133 : decode cX11_status 133 = .ok (.baload, 1) := by decide +kernel
theorem dX11_status_134 : decode cX11_status 134 = .ok (.ifCond .eq 7, 3) := by decide +kernel
theorem dX11_status_137 : decode cX11_status 137 = .ok (.iconst 1, 1) := by decide +kernel
theorem dX11_status_138 : decode cX11_status 138 = .ok (.goto 4, 3) := by decide +kernel
theorem dX11_status_141 : decode cX11_status 141 = .ok (.iconst 0, 1) := by decide +kernel
theorem dX11_status_142 : decode cX11_status 142 = .ok (.iadd, 1) := by decide +kernel
theorem dX11_status_143 : decode cX11_status 143 = .ok (.istore_n 2, 1) := by decide +kernel
theorem dX11_status_144 : decode cX11_status 144 = .ok (.iinc 3 1, 3) := by decide +kernel
theorem dX11_status_147 : decode cX11_status 147 = .ok (.goto (-28), 3) := by decide +kernel
theorem dX11_status_150 : decode cX11_status 150 = .ok (.iload_n 2, 1) := by decide +kernel
theorem dX11_status_151 : decode cX11_status 151 = .ok (.ireturn, 1) := by decide +kernel
theorem dX11_status_152 : decode cX11_status 152 = .ok (.aload_n 0, 1) := by decide +kernel
theorem dX11_status_153 : decode cX11_status 153 = .ok (.getfield 243, 3) := by decide +kernel
theorem dX11_status_156 : decode cX11_status 156 = .ok (.ireturn, 1) := by decide +kernel
theorem dX11_status_157 : decode cX11_status 157 = .ok (.aload_n 0, 1) := by decide +kernel
theorem dX11_status_158 : decode cX11_status 158 = .ok (.getfield 160, 3) := by decide +kernel
theorem dX11_status_161 : decode cX11_status 161 = .ok (.ireturn, 1) := by decide +kernel
theorem dX11_status_162 : decode cX11_status 162 = .ok (.aload_n 0, 1) := by decide +kernel
theorem dX11_status_163 : decode cX11_status 163 = .ok (.getfield 215, 3) := by decide +kernel
theorem dX11_status_166 : decode cX11_status 166 = .ok (.ireturn, 1) := by decide +kernel
theorem dX11_status_167 : decode cX11_status 167 = .ok (.iconst 0, 1) := by decide +kernel
theorem dX11_status_168 : decode cX11_status 168 = .ok (.istore_n 3, 1) := by decide +kernel
theorem dX11_status_169 : decode cX11_status 169 = .ok (.iload_n 3, 1) := by decide +kernel
theorem dX11_status_170 : decode cX11_status 170 = .ok (.bipush 8, 2) := by decide +kernel
theorem dX11_status_172 : decode cX11_status 172 = .ok (.if_icmp .ge 18, 3) := by decide +kernel
theorem dX11_status_175 : decode cX11_status 175 = .ok (.iload_n 2, 1) := by decide +kernel
theorem dX11_status_176 : decode cX11_status 176 = .ok (.aload_n 0, 1) := by decide +kernel
theorem dX11_status_177 : decode cX11_status 177 = .ok (.getfield 91, 3) := by decide +kernel
theorem dX11_status_180 : decode cX11_status 180 = .ok (.iload_n 3, 1) := by decide +kernel
theorem dX11_status_181 : decode cX11_status 181 = .ok (.iaload, 1) := by decide +kernel
theorem dX11_status_182 : decode cX11_status 182 = .ok (.iadd, 1) := by decide +kernel
theorem dX11_status_183 : decode cX11_status 183 = .ok (.istore_n 2, 1) := by decide +kernel
theorem dX11_status_184 : decode cX11_status 184 = .ok (.iinc 3 1, 3) := by decide +kernel
theorem dX11_status_187 : decode cX11_status 187 = .ok (.goto (-18), 3) := by decide +kernel
theorem dX11_status_190 : decode cX11_status 190 = .ok (.iload_n 2, 1) := by decide +kernel
theorem dX11_status_191 : decode cX11_status 191 = .ok (.ireturn, 1) := by decide +kernel
theorem dX11_status_192 : decode cX11_status 192 = .ok (.iconst (-1), 1) := by decide +kernel
theorem dX11_status_193 : decode cX11_status 193 = .ok (.ireturn, 1) := by decide +kernel
def fX11_status_79 : Nat → Nat → Int32 → Int32 → Hz → Option (Int32 × Hz)
  | 0, _, _, _, _ => none
  | n + 1, o, v2, v3, h => (b1 (gI 11 9 o h) fun x1 => (if x1 ≤ v3 then some (v2, h) else (b1 (gA 11 7 o h) fun a3 => (b1 (xI 14 a3 v3 h) fun x4 => (if x4 = 0 then fX11_status_79 n o (v2 + 1) (v3 + 1) h else fX11_status_79 n o (v2 + 0) (v3 + 1) h)))))
set_option maxHeartbeats 4000000 in
set_option maxRecDepth 100000 in
theorem wX11_status_79 {r0 : Int32} {h0 : Hz} (X : zX A D cy p s m args c cX11_status RX11 4) (hlk : meth.locks = false) (hr : meth.sig.returnType = (some .int)) : ∀ (n : Nat) (o : Nat) (v2 : Int32) (v3 : Int32) (h : Hz) (H : Heap) (locs : List Loc) (ls : Array Slot) (hl : lv_has ls 4 [(0, .ref o), (2, .int v2), (3, .int v3)]) (hW : zW A cy D h H) (hS : va_S A s.heap H locs) (h : fX11_status_79 n o v2 v3 h = some (r0, h0)), W p l e ({ frames := 0, cells := 0, slots := 0, locals := 0 } : Room) s m args below meth c H locs 0 0 (MQ below (va_Qi (fun r1 u => r1 = r0 ∧ u = h0) (zB A D cy) A) args s 0 0 A) (F0 m 79 ls []) := by
  obtain ⟨hx, hb, hts, hown, hK9, hml, hN9, hA9⟩ := id X
  intro n
  induction n with
  | zero =>
    intro o v2 v3 h H locs ls hl hW hS h
    rw [fX11_status_79] at h
    cases h
  | succ n ih =>
    intro o v2 v3 h H locs ls hl hW hS h
    rw [fX11_status_79] at h
    refine lv_iload_n hx hb dX11_status_79 rfl (lv_at hl 2 rfl) ?_
    refine lv_aload_n hx hb dX11_status_80 rfl (lv_at hl 0 rfl) ?_
    replace h := b1_some h
    obtain ⟨x1, gx1, h⟩ := h
    refine z_getI X hW gx1 kX11 (by decide) (by decide) kf_X11_145 dX11_status_81 ?_
    refine lv_icmp_ge (tgt := 110) hx hb dX11_status_84 (by decide) (fun c2 => ?_) (fun c2 => ?_)
    · replace h := it_t h c2
      refine lv_iload_n hx hb dX11_status_110 rfl (lv_at hl 1 rfl) ?_
      exact z_eti X hlk hr hW hS h (by decide) (by decide) dX11_status_111
    · replace h := it_f h c2
      refine lv_iload_n hx hb dX11_status_87 rfl (lv_at hl 1 rfl) ?_
      refine lv_aload_n hx hb dX11_status_88 rfl (lv_at hl 0 rfl) ?_
      replace h := b1_some h
      obtain ⟨a3, ga3, h⟩ := h
      refine z_getA X hW ga3 kX11 (by decide) (by decide) kf_X11_31 dX11_status_89 ?_
      refine lv_iload_n hx hb dX11_status_92 rfl (lv_at hl 2 rfl) ?_
      replace h := b1_some h
      obtain ⟨x4, gx4, h⟩ := h
      refine z_aldZ X hW gx4 dX11_status_93 ?_
      refine lv_if_eq (tgt := 101) hx hb dX11_status_94 (by decide) (fun c5 => ?_) (fun c5 => ?_)
      · replace h := it_t h c5
        refine lv_iconst (v := 1) hx hb dX11_status_101 (by decide) ?_
        refine lv_iadd hx hb dX11_status_102 ?_
        refine lv_istore_n (lv' := [(2, .int (v2 + 1)), (0, .ref o), (3, .int v3)]) hx hb dX11_status_103 rfl hl (by decide) rfl (fun ls hl => ?_)
        refine lv_iinc (v := (v3 + 1)) (lv' := [(3, .int (v3 + 1)), (2, .int (v2 + 1)), (0, .ref o)]) hx hb dX11_status_104 hl (k := 2) rfl rfl (by decide) rfl (fun ls hl => ?_)
        refine lv_goto (tgt := 79) hx hb dX11_status_107 (by decide) ?_
        exact ih o (v2 + 1) (v3 + 1) _ _ _ _ (lv_sub hl [2, 1, 0] rfl) hW hS h
      · replace h := it_f h c5
        refine lv_iconst (v := 0) hx hb dX11_status_97 (by decide) ?_
        refine lv_goto (tgt := 102) hx hb dX11_status_98 (by decide) ?_
        refine lv_iadd hx hb dX11_status_102 ?_
        refine lv_istore_n (lv' := [(2, .int (v2 + 0)), (0, .ref o), (3, .int v3)]) hx hb dX11_status_103 rfl hl (by decide) rfl (fun ls hl => ?_)
        refine lv_iinc (v := (v3 + 1)) (lv' := [(3, .int (v3 + 1)), (2, .int (v2 + 0)), (0, .ref o)]) hx hb dX11_status_104 hl (k := 2) rfl rfl (by decide) rfl (fun ls hl => ?_)
        refine lv_goto (tgt := 79) hx hb dX11_status_107 (by decide) ?_
        exact ih o (v2 + 0) (v3 + 1) _ _ _ _ (lv_sub hl [2, 1, 0] rfl) hW hS h

def fX11_status_119 : Nat → Nat → Int32 → Int32 → Hz → Option (Int32 × Hz)
  | 0, _, _, _, _ => none
  | n + 1, o, v2, v3, h => (b1 (gI 11 24 o h) fun x1 => (if x1 ≤ v3 then some (v2, h) else (b1 (gA 11 23 o h) fun a3 => (b1 (xI 14 a3 v3 h) fun x4 => (if x4 = 0 then fX11_status_119 n o (v2 + 0) (v3 + 1) h else fX11_status_119 n o (v2 + 1) (v3 + 1) h)))))
set_option maxHeartbeats 4000000 in
set_option maxRecDepth 100000 in
theorem wX11_status_119 {r0 : Int32} {h0 : Hz} (X : zX A D cy p s m args c cX11_status RX11 4) (hlk : meth.locks = false) (hr : meth.sig.returnType = (some .int)) : ∀ (n : Nat) (o : Nat) (v2 : Int32) (v3 : Int32) (h : Hz) (H : Heap) (locs : List Loc) (ls : Array Slot) (hl : lv_has ls 4 [(0, .ref o), (2, .int v2), (3, .int v3)]) (hW : zW A cy D h H) (hS : va_S A s.heap H locs) (h : fX11_status_119 n o v2 v3 h = some (r0, h0)), W p l e ({ frames := 0, cells := 0, slots := 0, locals := 0 } : Room) s m args below meth c H locs 0 0 (MQ below (va_Qi (fun r1 u => r1 = r0 ∧ u = h0) (zB A D cy) A) args s 0 0 A) (F0 m 119 ls []) := by
  obtain ⟨hx, hb, hts, hown, hK9, hml, hN9, hA9⟩ := id X
  intro n
  induction n with
  | zero =>
    intro o v2 v3 h H locs ls hl hW hS h
    rw [fX11_status_119] at h
    cases h
  | succ n ih =>
    intro o v2 v3 h H locs ls hl hW hS h
    rw [fX11_status_119] at h
    refine lv_iload_n hx hb dX11_status_119 rfl (lv_at hl 2 rfl) ?_
    refine lv_aload_n hx hb dX11_status_120 rfl (lv_at hl 0 rfl) ?_
    replace h := b1_some h
    obtain ⟨x1, gx1, h⟩ := h
    refine z_getI X hW gx1 kX11 (by decide) (by decide) kf_X11_199 dX11_status_121 ?_
    refine lv_icmp_ge (tgt := 150) hx hb dX11_status_124 (by decide) (fun c2 => ?_) (fun c2 => ?_)
    · replace h := it_t h c2
      refine lv_iload_n hx hb dX11_status_150 rfl (lv_at hl 1 rfl) ?_
      exact z_eti X hlk hr hW hS h (by decide) (by decide) dX11_status_151
    · replace h := it_f h c2
      refine lv_iload_n hx hb dX11_status_127 rfl (lv_at hl 1 rfl) ?_
      refine lv_aload_n hx hb dX11_status_128 rfl (lv_at hl 0 rfl) ?_
      replace h := b1_some h
      obtain ⟨a3, ga3, h⟩ := h
      refine z_getA X hW ga3 kX11 (by decide) (by decide) kf_X11_79 dX11_status_129 ?_
      refine lv_iload_n hx hb dX11_status_132 rfl (lv_at hl 2 rfl) ?_
      replace h := b1_some h
      obtain ⟨x4, gx4, h⟩ := h
      refine z_aldZ X hW gx4 dX11_status_133 ?_
      refine lv_if_eq (tgt := 141) hx hb dX11_status_134 (by decide) (fun c5 => ?_) (fun c5 => ?_)
      · replace h := it_t h c5
        refine lv_iconst (v := 0) hx hb dX11_status_141 (by decide) ?_
        refine lv_iadd hx hb dX11_status_142 ?_
        refine lv_istore_n (lv' := [(2, .int (v2 + 0)), (0, .ref o), (3, .int v3)]) hx hb dX11_status_143 rfl hl (by decide) rfl (fun ls hl => ?_)
        refine lv_iinc (v := (v3 + 1)) (lv' := [(3, .int (v3 + 1)), (2, .int (v2 + 0)), (0, .ref o)]) hx hb dX11_status_144 hl (k := 2) rfl rfl (by decide) rfl (fun ls hl => ?_)
        refine lv_goto (tgt := 119) hx hb dX11_status_147 (by decide) ?_
        exact ih o (v2 + 0) (v3 + 1) _ _ _ _ (lv_sub hl [2, 1, 0] rfl) hW hS h
      · replace h := it_f h c5
        refine lv_iconst (v := 1) hx hb dX11_status_137 (by decide) ?_
        refine lv_goto (tgt := 142) hx hb dX11_status_138 (by decide) ?_
        refine lv_iadd hx hb dX11_status_142 ?_
        refine lv_istore_n (lv' := [(2, .int (v2 + 1)), (0, .ref o), (3, .int v3)]) hx hb dX11_status_143 rfl hl (by decide) rfl (fun ls hl => ?_)
        refine lv_iinc (v := (v3 + 1)) (lv' := [(3, .int (v3 + 1)), (2, .int (v2 + 1)), (0, .ref o)]) hx hb dX11_status_144 hl (k := 2) rfl rfl (by decide) rfl (fun ls hl => ?_)
        refine lv_goto (tgt := 119) hx hb dX11_status_147 (by decide) ?_
        exact ih o (v2 + 1) (v3 + 1) _ _ _ _ (lv_sub hl [2, 1, 0] rfl) hW hS h

def fX11_status_169 : Nat → Nat → Int32 → Int32 → Hz → Option (Int32 × Hz)
  | 0, _, _, _, _ => none
  | n + 1, o, v2, v3, h => (if 8 ≤ v3 then some (v2, h) else (b1 (gA 11 30 o h) fun a2 => (b1 (xI 12 a2 v3 h) fun x3 => fX11_status_169 n o (v2 + x3) (v3 + 1) h)))
set_option maxHeartbeats 4000000 in
set_option maxRecDepth 100000 in
theorem wX11_status_169 {r0 : Int32} {h0 : Hz} (X : zX A D cy p s m args c cX11_status RX11 4) (hlk : meth.locks = false) (hr : meth.sig.returnType = (some .int)) : ∀ (n : Nat) (o : Nat) (v2 : Int32) (v3 : Int32) (h : Hz) (H : Heap) (locs : List Loc) (ls : Array Slot) (hl : lv_has ls 4 [(0, .ref o), (2, .int v2), (3, .int v3)]) (hW : zW A cy D h H) (hS : va_S A s.heap H locs) (h : fX11_status_169 n o v2 v3 h = some (r0, h0)), W p l e ({ frames := 0, cells := 0, slots := 0, locals := 0 } : Room) s m args below meth c H locs 0 0 (MQ below (va_Qi (fun r1 u => r1 = r0 ∧ u = h0) (zB A D cy) A) args s 0 0 A) (F0 m 169 ls []) := by
  obtain ⟨hx, hb, hts, hown, hK9, hml, hN9, hA9⟩ := id X
  intro n
  induction n with
  | zero =>
    intro o v2 v3 h H locs ls hl hW hS h
    rw [fX11_status_169] at h
    cases h
  | succ n ih =>
    intro o v2 v3 h H locs ls hl hW hS h
    rw [fX11_status_169] at h
    refine lv_iload_n hx hb dX11_status_169 rfl (lv_at hl 2 rfl) ?_
    refine lv_bipush (v := 8) hx hb dX11_status_170 (by decide) ?_
    refine lv_icmp_ge (tgt := 190) hx hb dX11_status_172 (by decide) (fun c1 => ?_) (fun c1 => ?_)
    · replace h := it_t h c1
      refine lv_iload_n hx hb dX11_status_190 rfl (lv_at hl 1 rfl) ?_
      exact z_eti X hlk hr hW hS h (by decide) (by decide) dX11_status_191
    · replace h := it_f h c1
      refine lv_iload_n hx hb dX11_status_175 rfl (lv_at hl 1 rfl) ?_
      refine lv_aload_n hx hb dX11_status_176 rfl (lv_at hl 0 rfl) ?_
      replace h := b1_some h
      obtain ⟨a2, ga2, h⟩ := h
      refine z_getA X hW ga2 kX11 (by decide) (by decide) kf_X11_91 dX11_status_177 ?_
      refine lv_iload_n hx hb dX11_status_180 rfl (lv_at hl 2 rfl) ?_
      replace h := b1_some h
      obtain ⟨x3, gx3, h⟩ := h
      refine z_aldI X hW gx3 dX11_status_181 ?_
      refine lv_iadd hx hb dX11_status_182 ?_
      refine lv_istore_n (lv' := [(2, .int (v2 + x3)), (0, .ref o), (3, .int v3)]) hx hb dX11_status_183 rfl hl (by decide) rfl (fun ls hl => ?_)
      refine lv_iinc (v := (v3 + 1)) (lv' := [(3, .int (v3 + 1)), (2, .int (v2 + x3)), (0, .ref o)]) hx hb dX11_status_184 hl (k := 2) rfl rfl (by decide) rfl (fun ls hl => ?_)
      refine lv_goto (tgt := 169) hx hb dX11_status_187 (by decide) ?_
      exact ih o (v2 + x3) (v3 + 1) _ _ _ _ (lv_sub hl [2, 1, 0] rfl) hW hS h

def fX11_status_22 (o : Nat) (v1 : Int32) (h : Hz) : Option (Int32 × Hz) := (if v1 = 0 then (b1 (gI 11 9 o h) fun x2 => some (x2, h)) else (if v1 = 1 then fX11_status_79 100000 o 0 0 h else (if v1 = 2 then (b1 (gI 11 24 o h) fun x5 => some (x5, h)) else (if v1 = 3 then fX11_status_119 100000 o 0 0 h else (if v1 = 4 then (b1 (gI 11 46 o h) fun x8 => some (x8, h)) else (if v1 = 5 then (b1 (gI 11 29 o h) fun x10 => some (x10, h)) else (if v1 = 6 then (b1 (gI 11 25 o h) fun x12 => some (x12, h)) else (if v1 = 7 then fX11_status_169 100000 o 0 0 h else some ((-1), h)))))))))
set_option maxHeartbeats 4000000 in
set_option maxRecDepth 100000 in
theorem wX11_status_22 {r0 : Int32} {h0 : Hz} (X : zX A D cy p s m args c cX11_status RX11 4) (hlk : meth.locks = false) (hr : meth.sig.returnType = (some .int)) (o : Nat) (v1 : Int32) (h : Hz) (H : Heap) (locs : List Loc) (ls : Array Slot) (hl : lv_has ls 4 [(0, .ref o), (1, .int v1)]) (hW : zW A cy D h H) (hS : va_S A s.heap H locs) (h : fX11_status_22 o v1 h = some (r0, h0)) : W p l e ({ frames := 0, cells := 0, slots := 0, locals := 0 } : Room) s m args below meth c H locs 0 0 (MQ below (va_Qi (fun r1 u => r1 = r0 ∧ u = h0) (zB A D cy) A) args s 0 0 A) (F0 m 22 ls []) := by
  obtain ⟨hx, hb, hts, hown, hK9, hml, hN9, hA9⟩ := id X
  unfold fX11_status_22 at h
  refine lv_iconst (v := 0) hx hb dX11_status_22 (by decide) ?_
  refine lv_istore_n (lv' := [(2, .int 0), (0, .ref o), (1, .int v1)]) hx hb dX11_status_23 rfl hl (by decide) rfl (fun ls hl => ?_)
  refine lv_iload_n hx hb dX11_status_24 rfl (lv_at hl 2 rfl) ?_
  by_cases c1 : v1 = 0
  · replace h := it_t h c1
    refine lv_tableIn (off := 47) (tgt := 72) hx hb dX11_status_25 (by rw [c1]; decide) (by rw [c1]; decide) (by rw [c1]; rfl) (by decide) ?_
    refine lv_aload_n hx hb dX11_status_72 rfl (lv_at hl 1 rfl) ?_
    replace h := b1_some h
    obtain ⟨x2, gx2, h⟩ := h
    refine z_getI X hW gx2 kX11 (by decide) (by decide) kf_X11_145 dX11_status_73 ?_
    exact z_eti X hlk hr hW hS h (by decide) (by decide) dX11_status_76
  · replace h := it_f h c1
    by_cases c3 : v1 = 1
    · replace h := it_t h c3
      refine lv_tableIn (off := 52) (tgt := 77) hx hb dX11_status_25 (by rw [c3]; decide) (by rw [c3]; decide) (by rw [c3]; rfl) (by decide) ?_
      refine lv_iconst (v := 0) hx hb dX11_status_77 (by decide) ?_
      refine lv_istore_n (lv' := [(3, .int 0), (2, .int 0), (0, .ref o), (1, .int v1)]) hx hb dX11_status_78 rfl hl (by decide) rfl (fun ls hl => ?_)
      exact wX11_status_79 X hlk hr _ o 0 0 _ _ _ _ (lv_sub hl [2, 1, 0] rfl) hW hS h
    · replace h := it_f h c3
      by_cases c4 : v1 = 2
      · replace h := it_t h c4
        refine lv_tableIn (off := 87) (tgt := 112) hx hb dX11_status_25 (by rw [c4]; decide) (by rw [c4]; decide) (by rw [c4]; rfl) (by decide) ?_
        refine lv_aload_n hx hb dX11_status_112 rfl (lv_at hl 1 rfl) ?_
        replace h := b1_some h
        obtain ⟨x5, gx5, h⟩ := h
        refine z_getI X hW gx5 kX11 (by decide) (by decide) kf_X11_199 dX11_status_113 ?_
        exact z_eti X hlk hr hW hS h (by decide) (by decide) dX11_status_116
      · replace h := it_f h c4
        by_cases c6 : v1 = 3
        · replace h := it_t h c6
          refine lv_tableIn (off := 92) (tgt := 117) hx hb dX11_status_25 (by rw [c6]; decide) (by rw [c6]; decide) (by rw [c6]; rfl) (by decide) ?_
          refine lv_iconst (v := 0) hx hb dX11_status_117 (by decide) ?_
          refine lv_istore_n (lv' := [(3, .int 0), (2, .int 0), (0, .ref o), (1, .int v1)]) hx hb dX11_status_118 rfl hl (by decide) rfl (fun ls hl => ?_)
          exact wX11_status_119 X hlk hr _ o 0 0 _ _ _ _ (lv_sub hl [2, 1, 0] rfl) hW hS h
        · replace h := it_f h c6
          by_cases c7 : v1 = 4
          · replace h := it_t h c7
            refine lv_tableIn (off := 127) (tgt := 152) hx hb dX11_status_25 (by rw [c7]; decide) (by rw [c7]; decide) (by rw [c7]; rfl) (by decide) ?_
            refine lv_aload_n hx hb dX11_status_152 rfl (lv_at hl 1 rfl) ?_
            replace h := b1_some h
            obtain ⟨x8, gx8, h⟩ := h
            refine z_getI X hW gx8 kX11 (by decide) (by decide) kf_X11_243 dX11_status_153 ?_
            exact z_eti X hlk hr hW hS h (by decide) (by decide) dX11_status_156
          · replace h := it_f h c7
            by_cases c9 : v1 = 5
            · replace h := it_t h c9
              refine lv_tableIn (off := 132) (tgt := 157) hx hb dX11_status_25 (by rw [c9]; decide) (by rw [c9]; decide) (by rw [c9]; rfl) (by decide) ?_
              refine lv_aload_n hx hb dX11_status_157 rfl (lv_at hl 1 rfl) ?_
              replace h := b1_some h
              obtain ⟨x10, gx10, h⟩ := h
              refine z_getI X hW gx10 kX11 (by decide) (by decide) kf_X11_160 dX11_status_158 ?_
              exact z_eti X hlk hr hW hS h (by decide) (by decide) dX11_status_161
            · replace h := it_f h c9
              by_cases c11 : v1 = 6
              · replace h := it_t h c11
                refine lv_tableIn (off := 137) (tgt := 162) hx hb dX11_status_25 (by rw [c11]; decide) (by rw [c11]; decide) (by rw [c11]; rfl) (by decide) ?_
                refine lv_aload_n hx hb dX11_status_162 rfl (lv_at hl 1 rfl) ?_
                replace h := b1_some h
                obtain ⟨x12, gx12, h⟩ := h
                refine z_getI X hW gx12 kX11 (by decide) (by decide) kf_X11_215 dX11_status_163 ?_
                exact z_eti X hlk hr hW hS h (by decide) (by decide) dX11_status_166
              · replace h := it_f h c11
                by_cases c13 : v1 = 7
                · replace h := it_t h c13
                  refine lv_tableIn (off := 142) (tgt := 167) hx hb dX11_status_25 (by rw [c13]; decide) (by rw [c13]; decide) (by rw [c13]; rfl) (by decide) ?_
                  refine lv_iconst (v := 0) hx hb dX11_status_167 (by decide) ?_
                  refine lv_istore_n (lv' := [(3, .int 0), (2, .int 0), (0, .ref o), (1, .int v1)]) hx hb dX11_status_168 rfl hl (by decide) rfl (fun ls hl => ?_)
                  exact wX11_status_169 X hlk hr _ o 0 0 _ _ _ _ (lv_sub hl [2, 1, 0] rfl) hW hS h
                · replace h := it_f h c13
                  have nc1 := lv_neT c1 (a := 0) rfl
                  have nc3 := lv_neT c3 (a := 1) rfl
                  have nc4 := lv_neT c4 (a := 2) rfl
                  have nc6 := lv_neT c6 (a := 3) rfl
                  have nc7 := lv_neT c7 (a := 4) rfl
                  have nc9 := lv_neT c9 (a := 5) rfl
                  have nc11 := lv_neT c11 (a := 6) rfl
                  have nc13 := lv_neT c13 (a := 7) rfl
                  refine lv_tableOut (tgt := 192) hx hb dX11_status_25 (by omega) (by decide) ?_
                  refine lv_iconst (v := (-1)) hx hb dX11_status_192 (by decide) ?_
                  exact z_eti X hlk hr hW hS h (by decide) (by decide) dX11_status_193

def fX11_status (o : Nat) (v1 : Int32) (h : Hz) : Option (Int32 × Hz) := (if v1 ≤ 10 then fX11_status_22 o v1 h else (if 18 ≤ v1 then fX11_status_22 o v1 h else (b1 (gA 11 31 o h) fun a3 => (b1 (xI 12 a3 (v1 - 10) h) fun x4 => some (x4, h)))))
set_option maxHeartbeats 4000000 in
set_option maxRecDepth 100000 in
theorem wX11_status_0 {r0 : Int32} {h0 : Hz} (X : zX A D cy p s m args c cX11_status RX11 4) (hlk : meth.locks = false) (hr : meth.sig.returnType = (some .int)) (o : Nat) (v1 : Int32) (h : Hz) (H : Heap) (locs : List Loc) (ls : Array Slot) (hl : lv_has ls 4 [(0, .ref o), (1, .int v1)]) (hW : zW A cy D h H) (hS : va_S A s.heap H locs) (h : fX11_status o v1 h = some (r0, h0)) : W p l e ({ frames := 0, cells := 0, slots := 0, locals := 0 } : Room) s m args below meth c H locs 0 0 (MQ below (va_Qi (fun r1 u => r1 = r0 ∧ u = h0) (zB A D cy) A) args s 0 0 A) (F0 m 0 ls []) := by
  obtain ⟨hx, hb, hts, hown, hK9, hml, hN9, hA9⟩ := id X
  unfold fX11_status at h
  refine lv_iload_n hx hb dX11_status_0 rfl (lv_at hl 1 rfl) ?_
  refine lv_bipush (v := 10) hx hb dX11_status_1 (by decide) ?_
  refine lv_icmp_le (tgt := 22) hx hb dX11_status_3 (by decide) (fun c1 => ?_) (fun c1 => ?_)
  · replace h := it_t h c1
    exact wX11_status_22 X hlk hr o v1 _ _ _ _ (lv_sub hl [0, 1] rfl) hW hS h
  · replace h := it_f h c1
    refine lv_iload_n hx hb dX11_status_6 rfl (lv_at hl 1 rfl) ?_
    refine lv_bipush (v := 18) hx hb dX11_status_7 (by decide) ?_
    refine lv_icmp_ge (tgt := 22) hx hb dX11_status_9 (by decide) (fun c2 => ?_) (fun c2 => ?_)
    · replace h := it_t h c2
      exact wX11_status_22 X hlk hr o v1 _ _ _ _ (lv_sub hl [0, 1] rfl) hW hS h
    · replace h := it_f h c2
      refine lv_aload_n hx hb dX11_status_12 rfl (lv_at hl 0 rfl) ?_
      replace h := b1_some h
      obtain ⟨a3, ga3, h⟩ := h
      refine z_getA X hW ga3 kX11 (by decide) (by decide) kf_X11_94 dX11_status_13 ?_
      refine lv_iload_n hx hb dX11_status_16 rfl (lv_at hl 1 rfl) ?_
      refine lv_bipush (v := 10) hx hb dX11_status_17 (by decide) ?_
      refine lv_isub hx hb dX11_status_19 ?_
      replace h := b1_some h
      obtain ⟨x4, gx4, h⟩ := h
      refine z_aldI X hW gx4 dX11_status_20 ?_
      exact z_eti X hlk hr hW hS h (by decide) (by decide) dX11_status_21

set_option maxHeartbeats 4000000 in
set_option maxRecDepth 100000 in
theorem cX11_status_met {l : Launch} {A : Nat → Prop} {D : va_G} {cy : Nat → ClassId} {r0 : Int32} {h0 : Hz} {o : Nat} {v1 : Int32} {h : Hz} (g : fX11_status o v1 h = some (r0, h0)) : Met l yX11_status (Cond.code yX11_status cX11_status 4 (some .int) :: wT) ({ frames := 0, cells := 0, slots := 0, locals := 0 } : Room) (va_Pc [.ref o, .int v1] (zS A D cy h)) (va_Qi (fun r1 u => r1 = r0 ∧ u = h0) (zB A D cy) A) 0 0 A := by
  refine Met.ofW (cc := cX11_status) (maxL := 4) (ret := (some .int)) (by decide) rfl ?_
  intro p e s m args below meth c s₁ B hml hv
  obtain ⟨rfl, hW, hK, hN, hA⟩ := hv
  have X : zX A D cy p s m _ c cX11_status RX11 4 := ⟨B.exec, B.bytes, fun w hw => atoms_spec (ws := Cond.code yX11_status cX11_status 4 (some .int) :: wT) B.pre w (List.mem_cons_of_mem _ hw), findClass_of_methodNamed B.named, hK, hml, hN, hA⟩
  have hl := lv_entry [.ref o, .int v1] (n := 4) (Nat.le_of_ble_eq_true rfl)
  rw [lg_entry_eq]
  generalize (lg_sl [.ref o, .int v1] ++ List.replicate (4 - (lg_sl [.ref o, .int v1]).length) Slot.unset).toArray = ls at hl ⊢
  have hl : lv_has ls 4 [(0, .ref o), (1, .int v1)] := hl
  exact wX11_status_0 X B.notSynchronized B.returns o v1 _ _ _ _ (lv_sub hl [0, 1] rfl) hW va_S.rf g

end Z12_modele
