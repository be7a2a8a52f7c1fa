section Z14_classd
variable {p : Program} {l : Launch} {e : Env} {s : State} {m : MethodId} {args : Array Value} {below : List Frame} {meth : Method} {c : Code} {A : Nat → Prop} {D : va_G} {cy : Nat → ClassId}
theorem dX10_walk_0 : decode cX10_walk 0 = .ok (.iload_n 1, 1) := by decide +kernel
theorem dX10_walk_1 : decode cX10_walk 1 = .ok (.ifCond .lt 20, 3) := by decide +kernel
theorem dX10_walk_4 : decode cX10_walk 4 = .ok (.iload_n 1, 1) := by decide +kernel
theorem dX10_walk_5 : decode cX10_walk 5 = .ok (.aload_n 0, 1) := by decide +kernel
theorem dX10_walk_6 : decode cX10_walk 6 = .ok (.getfield 63, 3) := by decide +kernel
theorem dX10_walk_9 : decode cX10_walk 9 = .ok (.if_icmp .ge 12, 3) := by decide +kernel
theorem dX10_walk_12 : decode cX10_walk 12 = .ok (.iload_n 1, 1) := by decide +kernel
theorem dX10_walk_13 : decode cX10_walk 13 = .ok (.aload_n 0, 1) := by decide +kernel
theorem dX10_walk_14 : decode cX10_walk 14 = .ok (.getfield 32, 3) := by decide +kernel
theorem dX10_walk_17 : decode cX10_walk 17 = .ok (.arraylength, 1) := by decide +kernel
theorem dX10_walk_18 : decode cX10_walk 18 = .ok (.if_icmp .lt 5, 3) := by decide +kernel
theorem dX10_walk_21 : decode cX10_walk 21 = .ok (.iconst (-1), 1) := by decide +kernel
theorem dX10_walk_22 : decode cX10_walk 22 = .ok (.ireturn, 1) := by decide +kernel
theorem dX10_walk_23 : decode cX10_walk 23 = .ok (.aload_n 0, 1) := by decide +kernel
theorem dX10_walk_24 : decode cX10_walk 24 = .ok (.getfield 32, 3) := by decide +kernel
theorem dX10_walk_27 : decode cX10_walk 27 = .ok (.iload_n 1, 1) := by decide +kernel
theorem dX10_walk_28 : decode cX10_walk 28 = .ok (.aaload, 1) := by decide +kernel
theorem dX10_walk_29 : decode cX10_walk 29 = .ok (.astore_n 3, 1) := by decide +kernel
theorem dX10_walk_30 : decode cX10_walk 30 = .ok (.aload_n 3, 1) := by decide +kernel
theorem dX10_walk_31 : decode cX10_walk 31 = .ok (.ifnonnull 5, 3) := by decide +kernel
theorem dX10_walk_34 : decode cX10_walk 34 = .ok (.iconst (-1), 1) := by decide +kernel
theorem dX10_walk_35 : decode cX10_walk 35 = .ok (.ireturn, 1) := by decide +kernel
theorem dX10_walk_36 : decode cX10_walk 36 = .ok (.iload_n 2, 1) := by decide +kernel
theorem dX10_walk_37 : decode cX10_walk 37 = .ok (.tableswitch 72 0 5 #[39, 44, 52, 57, 62, 67], 39) := by decide +kernel
theorem dX10_walk_76 : decode cX10_walk 76 = .ok (.aload_n 3, 1) := by decide +kernel
theorem dX10_walk_77 : decode cX10_walk 77 = .ok (.getfield 260, 3) := by decide +kernel
theorem dX10_walk_80 : decode cX10_walk 80 = .ok (.ireturn, 1) := by decide +kernel
theorem dX10_walk_81 : decode cX10_walk 81 = .ok (.aload_n 3, 1) := by decide +kernel
theorem dX10_walk_82 : decode cX10_walk 82 = .ok (.getfield 263, 3) := by decide +kernel
theorem dX10_walk_85 : decode cX10_walk 85 = .ok (.getfield 89, 3) := by decide +kernel
theorem dX10_walk_88 : decode cX10_walk 88 = .ok (.ireturn, 1) := by decide +kernel
theorem dX10_walk_89 : decode cX10_walk 89 = .ok (.aload_n 3, 1) := by decide +kernel
theorem dX10_walk_90 : decode cX10_walk 90 = .ok (.getfield 266, 3) := by decide +kernel
theorem dX10_walk_93 : decode cX10_walk 93 = .ok (.ireturn, 1) := by decide +kernel
theorem dX10_walk_94 : decode cX10_walk 94 = .ok (.aload_n 3, 1) := by decide +kernel
theorem dX10_walk_95 : decode cX10_walk 95 = .ok (.getfield 269, 3) := by decide +kernel
theorem dX10_walk_98 : decode cX10_walk 98 = .ok (.ireturn, 1) := by decide +kernel
theorem dX10_walk_99 : decode cX10_walk 99 = .ok (.aload_n 3, 1) := by decide +kernel
theorem dX10_walk_100 : decode cX10_walk 100 = .ok (.getfield 272, 3) := by decide +kernel
theorem dX10_walk_103 : decode cX10_walk 103 = .ok (.ireturn, 1) := by decide +kernel
theorem dX10_walk_104 : decode cX10_walk 104 = .ok (.aload_n 3, 1) := by decide +kernel
theorem dX10_walk_105 : decode cX10_walk 105 = .ok (.getfield 275, 3) := by decide +kernel
theorem dX10_walk_108 : decode cX10_walk 108 = .ok (.ireturn, 1) := by decide +kernel
theorem dX10_walk_109 : decode cX10_walk 109 = .ok (.iconst (-1), 1) := by decide +kernel
theorem dX10_walk_110 : decode cX10_walk 110 = .ok (.ireturn, 1) := by decide +kernel
def fX10_walk (o : Nat) (v1 : Int32) (v2 : Int32) (h : Hz) : Option (Int32 × Hz) := (if v1 < 0 then some ((-1), h) else (b1 (gI 10 10 o h) fun x2 => (if x2 ≤ v1 then some ((-1), h) else (b1 (gA 10 3 o h) fun a4 => (b1 (xN 19 a4 h) fun x5 => (if v1 < x5 then (b1 (gA 10 3 o h) fun a7 => (b1 (xP 19 a7 v1 h) fun r8 => (oe r8 (some ((-1), h)) fun a9 => (if v2 = 0 then (b1 (gI 9 6 a9 h) fun x11 => some (x11, h)) else (if v2 = 1 then (b1 (gA 9 1 a9 h) fun a13 => (b1 (gI 5 0 a13 h) fun x14 => some (x14, h))) else (if v2 = 2 then (b1 (gI 9 7 a9 h) fun x16 => some (x16, h)) else (if v2 = 3 then (b1 (gI 9 8 a9 h) fun x18 => some (x18, h)) else (if v2 = 4 then (b1 (gI 9 9 a9 h) fun x20 => some (x20, h)) else (if v2 = 5 then (b1 (gI 9 10 a9 h) fun x22 => some (x22, h)) else some ((-1), h)))))))))) else some ((-1), h)))))))
set_option maxHeartbeats 4000000 in
set_option maxRecDepth 100000 in
theorem wX10_walk_0 {r0 : Int32} {h0 : Hz} (X : zX A D cy p s m args c cX10_walk RX10 4) (hlk : meth.locks = false) (hr : meth.sig.returnType = (some .int)) (o : Nat) (v1 : Int32) (v2 : Int32) (h : Hz) (H : Heap) (locs : List Loc) (ls : Array Slot) (hl : lv_has ls 4 [(0, .ref o), (1, .int v1), (2, .int v2)]) (hW : zW A cy D h H) (hS : va_S A s.heap H locs) (h : fX10_walk o v1 v2 h = some (r0, h0)) : W p l e ({ frames := 0, cells := 0, slots := 0, locals := 0 } : Room) s m args below meth c H locs 0 0 (MQ below (va_Qi (fun r1 u => r1 = r0 ∧ u = h0) (zB A D cy) A) args s 0 0 A) (F0 m 0 ls []) := by
  obtain ⟨hx, hb, hts, hown, hK9, hml, hN9, hA9⟩ := id X
  unfold fX10_walk at h
  refine lv_iload_n hx hb dX10_walk_0 rfl (lv_at hl 1 rfl) ?_
  refine lv_if_lt (tgt := 21) hx hb dX10_walk_1 (by decide) (fun c1 => ?_) (fun c1 => ?_)
  · replace h := it_t h c1
    refine lv_iconst (v := (-1)) hx hb dX10_walk_21 (by decide) ?_
    exact z_eti X hlk hr hW hS h (by decide) (by decide) dX10_walk_22
  · replace h := it_f h c1
    refine lv_iload_n hx hb dX10_walk_4 rfl (lv_at hl 1 rfl) ?_
    refine lv_aload_n hx hb dX10_walk_5 rfl (lv_at hl 0 rfl) ?_
    replace h := b1_some h
    obtain ⟨x2, gx2, h⟩ := h
    refine z_getI X hW gx2 kX10 (by decide) (by decide) kf_X10_63 dX10_walk_6 ?_
    refine lv_icmp_ge (tgt := 21) hx hb dX10_walk_9 (by decide) (fun c3 => ?_) (fun c3 => ?_)
    · replace h := it_t h c3
      refine lv_iconst (v := (-1)) hx hb dX10_walk_21 (by decide) ?_
      exact z_eti X hlk hr hW hS h (by decide) (by decide) dX10_walk_22
    · replace h := it_f h c3
      refine lv_iload_n hx hb dX10_walk_12 rfl (lv_at hl 1 rfl) ?_
      refine lv_aload_n hx hb dX10_walk_13 rfl (lv_at hl 0 rfl) ?_
      replace h := b1_some h
      obtain ⟨a4, ga4, h⟩ := h
      refine z_getA X hW ga4 kX10 (by decide) (by decide) kf_X10_32 dX10_walk_14 ?_
      replace h := b1_some h
      obtain ⟨x5, gx5, h⟩ := h
      refine z_alenP X hW gx5 (by decide) (by decide) rfl dX10_walk_17 ?_
      refine lv_icmp_lt (tgt := 23) hx hb dX10_walk_18 (by decide) (fun c6 => ?_) (fun c6 => ?_)
      · replace h := it_t h c6
        refine lv_aload_n hx hb dX10_walk_23 rfl (lv_at hl 0 rfl) ?_
        replace h := b1_some h
        obtain ⟨a7, ga7, h⟩ := h
        refine z_getA X hW ga7 kX10 (by decide) (by decide) kf_X10_32 dX10_walk_24 ?_
        refine lv_iload_n hx hb dX10_walk_27 rfl (lv_at hl 1 rfl) ?_
        replace h := b1_some h
        obtain ⟨r8, gr8, h⟩ := h
        refine z_aldP X hW gr8 (by decide) (by decide) rfl dX10_walk_28 ?_
        refine z_astore_n (lv' := [(3, va_rf r8), (0, .ref o), (1, .int v1), (2, .int v2)]) hx hb dX10_walk_29 rfl hl (by decide) rfl (fun ls hl => ?_)
        refine z_aload_n hx hb dX10_walk_30 rfl (lv_at hl 0 rfl) ?_
        cases r8 with
        | none =>
          replace h := oe_n h
          have hl : lv_has ls 4 [(3, .null), (0, .ref o), (1, .int v1), (2, .int v2)] := hl
          refine lv_ifnonnullN hx hb dX10_walk_31 ?_
          refine lv_iconst (v := (-1)) hx hb dX10_walk_34 (by decide) ?_
          exact z_eti X hlk hr hW hS h (by decide) (by decide) dX10_walk_35
        | some a9 =>
          replace h := oe_s h
          have hl : lv_has ls 4 [(3, .ref a9), (0, .ref o), (1, .int v1), (2, .int v2)] := hl
          refine lv_ifnonnull (tgt := 36) hx hb dX10_walk_31 (by decide) ?_
          refine lv_iload_n hx hb dX10_walk_36 rfl (lv_at hl 3 rfl) ?_
          by_cases c10 : v2 = 0
          · replace h := it_t h c10
            refine lv_tableIn (off := 39) (tgt := 76) hx hb dX10_walk_37 (by rw [c10]; decide) (by rw [c10]; decide) (by rw [c10]; rfl) (by decide) ?_
            refine lv_aload_n hx hb dX10_walk_76 rfl (lv_at hl 0 rfl) ?_
            replace h := b1_some h
            obtain ⟨x11, gx11, h⟩ := h
            refine z_getI X hW gx11 kX9 (by decide) (by decide) kf_X10_260 dX10_walk_77 ?_
            exact z_eti X hlk hr hW hS h (by decide) (by decide) dX10_walk_80
          · replace h := it_f h c10
            by_cases c12 : v2 = 1
            · replace h := it_t h c12
              refine lv_tableIn (off := 44) (tgt := 81) hx hb dX10_walk_37 (by rw [c12]; decide) (by rw [c12]; decide) (by rw [c12]; rfl) (by decide) ?_
              refine lv_aload_n hx hb dX10_walk_81 rfl (lv_at hl 0 rfl) ?_
              replace h := b1_some h
              obtain ⟨a13, ga13, h⟩ := h
              refine z_getA X hW ga13 kX9 (by decide) (by decide) kf_X10_263 dX10_walk_82 ?_
              replace h := b1_some h
              obtain ⟨x14, gx14, h⟩ := h
              refine z_getI X hW gx14 kX5 (by decide) (by decide) kf_X10_89 dX10_walk_85 ?_
              exact z_eti X hlk hr hW hS h (by decide) (by decide) dX10_walk_88
            · replace h := it_f h c12
              by_cases c15 : v2 = 2
              · replace h := it_t h c15
                refine lv_tableIn (off := 52) (tgt := 89) hx hb dX10_walk_37 (by rw [c15]; decide) (by rw [c15]; decide) (by rw [c15]; rfl) (by decide) ?_
                refine lv_aload_n hx hb dX10_walk_89 rfl (lv_at hl 0 rfl) ?_
                replace h := b1_some h
                obtain ⟨x16, gx16, h⟩ := h
                refine z_getI X hW gx16 kX9 (by decide) (by decide) kf_X10_266 dX10_walk_90 ?_
                exact z_eti X hlk hr hW hS h (by decide) (by decide) dX10_walk_93
              · replace h := it_f h c15
                by_cases c17 : v2 = 3
                · replace h := it_t h c17
                  refine lv_tableIn (off := 57) (tgt := 94) hx hb dX10_walk_37 (by rw [c17]; decide) (by rw [c17]; decide) (by rw [c17]; rfl) (by decide) ?_
                  refine lv_aload_n hx hb dX10_walk_94 rfl (lv_at hl 0 rfl) ?_
                  replace h := b1_some h
                  obtain ⟨x18, gx18, h⟩ := h
                  refine z_getI X hW gx18 kX9 (by decide) (by decide) kf_X10_269 dX10_walk_95 ?_
                  exact z_eti X hlk hr hW hS h (by decide) (by decide) dX10_walk_98
                · replace h := it_f h c17
                  by_cases c19 : v2 = 4
                  · replace h := it_t h c19
                    refine lv_tableIn (off := 62) (tgt := 99) hx hb dX10_walk_37 (by rw [c19]; decide) (by rw [c19]; decide) (by rw [c19]; rfl) (by decide) ?_
                    refine lv_aload_n hx hb dX10_walk_99 rfl (lv_at hl 0 rfl) ?_
                    replace h := b1_some h
                    obtain ⟨x20, gx20, h⟩ := h
                    refine z_getI X hW gx20 kX9 (by decide) (by decide) kf_X10_272 dX10_walk_100 ?_
                    exact z_eti X hlk hr hW hS h (by decide) (by decide) dX10_walk_103
                  · replace h := it_f h c19
                    by_cases c21 : v2 = 5
                    · replace h := it_t h c21
                      refine lv_tableIn (off := 67) (tgt := 104) hx hb dX10_walk_37 (by rw [c21]; decide) (by rw [c21]; decide) (by rw [c21]; rfl) (by decide) ?_
                      refine lv_aload_n hx hb dX10_walk_104 rfl (lv_at hl 0 rfl) ?_
                      replace h := b1_some h
                      obtain ⟨x22, gx22, h⟩ := h
                      refine z_getI X hW gx22 kX9 (by decide) (by decide) kf_X10_275 dX10_walk_105 ?_
                      exact z_eti X hlk hr hW hS h (by decide) (by decide) dX10_walk_108
                    · replace h := it_f h c21
                      have nc10 := lv_neT c10 (a := 0) rfl
                      have nc12 := lv_neT c12 (a := 1) rfl
                      have nc15 := lv_neT c15 (a := 2) rfl
                      have nc17 := lv_neT c17 (a := 3) rfl
                      have nc19 := lv_neT c19 (a := 4) rfl
                      have nc21 := lv_neT c21 (a := 5) rfl
                      refine lv_tableOut (tgt := 109) hx hb dX10_walk_37 (by omega) (by decide) ?_
                      refine lv_iconst (v := (-1)) hx hb dX10_walk_109 (by decide) ?_
                      exact z_eti X hlk hr hW hS h (by decide) (by decide) dX10_walk_110
      · replace h := it_f h c6
        refine lv_iconst (v := (-1)) hx hb dX10_walk_21 (by decide) ?_
        exact z_eti X hlk hr hW hS h (by decide) (by decide) dX10_walk_22

set_option maxHeartbeats 4000000 in
set_option maxRecDepth 100000 in
theorem cX10_walk_met {l : Launch} {A : Nat → Prop} {D : va_G} {cy : Nat → ClassId} {r0 : Int32} {h0 : Hz} {o : Nat} {v1 : Int32} {v2 : Int32} {h : Hz} (g : fX10_walk o v1 v2 h = some (r0, h0)) : Met l yX10_walk (Cond.code yX10_walk cX10_walk 4 (some .int) :: wT) ({ frames := 0, cells := 0, slots := 0, locals := 0 } : Room) (va_Pc [.ref o, .int v1, .int v2] (zS A D cy h)) (va_Qi (fun r1 u => r1 = r0 ∧ u = h0) (zB A D cy) A) 0 0 A := by
  refine Met.ofW (cc := cX10_walk) (maxL := 4) (ret := (some .int)) (by decide) rfl ?_
  intro p e s m args below meth c s₁ B hml hv
  obtain ⟨rfl, hW, hK, hN, hA⟩ := hv
  have X : zX A D cy p s m _ c cX10_walk RX10 4 := ⟨B.exec, B.bytes, fun w hw => atoms_spec (ws := Cond.code yX10_walk cX10_walk 4 (some .int) :: wT) B.pre w (List.mem_cons_of_mem _ hw), findClass_of_methodNamed B.named, hK, hml, hN, hA⟩
  have hl := lv_entry [.ref o, .int v1, .int v2] (n := 4) (Nat.le_of_ble_eq_true rfl)
  rw [lg_entry_eq]
  generalize (lg_sl [.ref o, .int v1, .int v2] ++ List.replicate (4 - (lg_sl [.ref o, .int v1, .int v2]).length) Slot.unset).toArray = ls at hl ⊢
  have hl : lv_has ls 4 [(0, .ref o), (1, .int v1), (2, .int v2)] := hl
  exact wX10_walk_0 X B.notSynchronized B.returns o v1 v2 _ _ _ _ (lv_sub hl [0, 1, 2] rfl) hW va_S.rf g

theorem dX10_meant_0 : decode cX10_meant 0 = .ok (.aload_n 0, 1) := by decide +kernel
theorem dX10_meant_1 : decode cX10_meant 1 = .ok (.getfield 10, 3) := by decide +kernel
theorem dX10_meant_4 : decode cX10_meant 4 = .ok (.iload_n 1, 1) := by decide +kernel
theorem dX10_meant_5 : decode cX10_meant 5 = .ok (.invokevirtual 94, 3) := by decide +kernel
theorem dX10_meant_8 : decode cX10_meant 8 = .ok (.astore_n 2, 1) := by decide +kernel
theorem dX10_meant_9 : decode cX10_meant 9 = .ok (.aload_n 2, 1) := by decide +kernel
theorem dX10_meant_10 : decode cX10_meant 10 = .ok (.ifnonnull 5, 3) := by decide +kernel
theorem dX10_meant_13 : decode cX10_meant 13 = .ok (.iconst 0, 1) := by decide +kernel
theorem dX10_meant_14 : decode cX10_meant 14 = .ok (.ireturn, 1) := by decide +kernel
theorem dX10_meant_15 : decode cX10_meant 15 = .ok (.aload_n 0, 1) := by decide +kernel
theorem dX10_meant_16 : decode cX10_meant 16 = .ok (.getfield 59, 3) := by decide +kernel
theorem dX10_meant_19 : decode cX10_meant 19 = .ok (.aload_n 0, 1) := by decide +kernel
theorem dX10_meant_20 : decode cX10_meant 20 = .ok (.getfield 10, 3) := by decide +kernel
theorem dX10_meant_23 : decode cX10_meant 23 = .ok (.aload_n 0, 1) := by decide +kernel
theorem dX10_meant_24 : decode cX10_meant 24 = .ok (.getfield 19, 3) := by decide +kernel
theorem dX10_meant_27 : decode cX10_meant 27 = .ok (.aload_n 0, 1) := by decide +kernel
theorem dX10_meant_28 : decode cX10_meant 28 = .ok (.getfield 26, 3) := by decide +kernel
theorem dX10_meant_31 : decode cX10_meant 31 = .ok (.invokevirtual 278, 3) := by decide +kernel
theorem dX10_meant_34 : decode cX10_meant 34 = .ok (.aload_n 0, 1) := by decide +kernel
theorem dX10_meant_35 : decode cX10_meant 35 = .ok (.getfield 59, 3) := by decide +kernel
theorem dX10_meant_38 : decode cX10_meant 38 = .ok (.aload_n 2, 1) := by decide +kernel
theorem dX10_meant_39 : decode cX10_meant 39 = .ok (.invokevirtual 282, 3) := by decide +kernel
theorem dX10_meant_42 : decode cX10_meant 42 = .ok (.ireturn, 1) := by decide +kernel
def fX10_meant (o : Nat) (v1 : Int32) (h : Hz) : Option (Int32 × Hz) := (b1 (gA 10 0 o h) fun a1 => (b1 (tg 6 a1 h) fun _ => (b2 (fX6_find a1 v1 h) fun r3 s4 => (oe r3 (rz 0 s4) fun a5 => (b1 (gA 10 9 o s4) fun a6 => (b1 (gA 10 0 o s4) fun a7 => (b1 (gA 10 1 o s4) fun a8 => (b1 (gA 10 2 o s4) fun a9 => (b1 (tg 1 a6 s4) fun _ => (b2 (fX1_trace a6 (some a7) (some a8) (some a9) s4) fun _ s12 => (b1 (gA 10 9 o s12) fun a13 => (b1 (tg 1 a13 s12) fun _ => (b2 (fX1_has a13 (some a5) s12) fun x15 s16 => rz x15 s16)))))))))))))
set_option maxHeartbeats 4000000 in
set_option maxRecDepth 100000 in
theorem wX10_meant_0 {r0 : Int32} {h0 : Hz} (X : zX A D cy p s m args c cX10_meant RX10 3) (hlk : meth.locks = false) (hr : meth.sig.returnType = (some .boolean)) (o : Nat) (v1 : Int32) (h : Hz) (H : Heap) (locs : List Loc) (ls : Array Slot) (hl : lv_has ls 3 [(0, .ref o), (1, .int v1)]) (hW : zW A cy D h H) (hS : va_S A s.heap H locs) (h : fX10_meant o v1 h = some (r0, h0)) : W p l e ({ frames := 4, cells := 0, slots := 0, locals := 92 } : Room) s m args below meth c H locs 0 0 (MQ below (va_Qi (fun r1 u => r1 = r0 ∧ u = h0) (zB A D cy) A) args s 0 0 A) (F0 m 0 ls []) := by
  obtain ⟨hx, hb, hts, hown, hK9, hml, hN9, hA9⟩ := id X
  unfold fX10_meant at h
  refine lv_aload_n hx hb dX10_meant_0 rfl (lv_at hl 0 rfl) ?_
  replace h := b1_some h
  obtain ⟨a1, ga1, h⟩ := h
  refine z_getA X hW ga1 kX10 (by decide) (by decide) kf_X10_10 dX10_meant_1 ?_
  refine lv_iload_n hx hb dX10_meant_4 rfl (lv_at hl 1 rfl) ?_
  replace h := b1_some h
  obtain ⟨q2, gq2, h⟩ := h
  replace h := b2_some h
  obtain ⟨r3, s4, gs4, h⟩ := h
  refine z_callVq (rest := []) X hW hS (cX6_find_met gs4) kb_X6_find kv_X6_find kl_X10_94 (it_v gq2).1 kX6 rfl rfl ⟨Nat.le_of_ble_eq_true rfl, Nat.le_of_ble_eq_true rfl⟩ rfl rfl (by decide) hl.1 dX10_meant_5 ⟨(by decide), (by decide)⟩ (fun H locs hW hS => ?_)
  refine z_astore_n (lv' := [(2, va_rf r3), (0, .ref o), (1, .int v1)]) hx hb dX10_meant_8 rfl hl (by decide) rfl (fun ls hl => ?_)
  refine z_aload_n hx hb dX10_meant_9 rfl (lv_at hl 0 rfl) ?_
  cases r3 with
  | none =>
    replace h := oe_n h
    have hl : lv_has ls 3 [(2, .null), (0, .ref o), (1, .int v1)] := hl
    refine lv_ifnonnullN hx hb dX10_meant_10 ?_
    refine lv_iconst (v := 0) hx hb dX10_meant_13 (by decide) ?_
    exact z_etz X hlk hr hW hS h (by decide) (by decide) dX10_meant_14
  | some a5 =>
    replace h := oe_s h
    have hl : lv_has ls 3 [(2, .ref a5), (0, .ref o), (1, .int v1)] := hl
    refine lv_ifnonnull (tgt := 15) hx hb dX10_meant_10 (by decide) ?_
    refine lv_aload_n hx hb dX10_meant_15 rfl (lv_at hl 1 rfl) ?_
    replace h := b1_some h
    obtain ⟨a6, ga6, h⟩ := h
    refine z_getA X hW ga6 kX10 (by decide) (by decide) kf_X10_59 dX10_meant_16 ?_
    refine lv_aload_n hx hb dX10_meant_19 rfl (lv_at hl 1 rfl) ?_
    replace h := b1_some h
    obtain ⟨a7, ga7, h⟩ := h
    refine z_getA X hW ga7 kX10 (by decide) (by decide) kf_X10_10 dX10_meant_20 ?_
    refine lv_aload_n hx hb dX10_meant_23 rfl (lv_at hl 1 rfl) ?_
    replace h := b1_some h
    obtain ⟨a8, ga8, h⟩ := h
    refine z_getA X hW ga8 kX10 (by decide) (by decide) kf_X10_19 dX10_meant_24 ?_
    refine lv_aload_n hx hb dX10_meant_27 rfl (lv_at hl 1 rfl) ?_
    replace h := b1_some h
    obtain ⟨a9, ga9, h⟩ := h
    refine z_getA X hW ga9 kX10 (by decide) (by decide) kf_X10_26 dX10_meant_28 ?_
    replace h := b1_some h
    obtain ⟨q10, gq10, h⟩ := h
    replace h := b2_some h
    obtain ⟨_ur11, s12, gs12, h⟩ := h
    refine z_callVv (rest := []) X hW hS (cX1_trace_met gs12) kb_X1_trace kv_X1_trace kl_X10_278 (it_v gq10).1 kX1 rfl rfl ⟨Nat.le_of_ble_eq_true rfl, Nat.le_of_ble_eq_true rfl⟩ rfl rfl (by decide) hl.1 dX10_meant_31 ⟨(by decide), (by decide)⟩ (fun H locs hW hS => ?_)
    refine lv_aload_n hx hb dX10_meant_34 rfl (lv_at hl 1 rfl) ?_
    replace h := b1_some h
    obtain ⟨a13, ga13, h⟩ := h
    refine z_getA X hW ga13 kX10 (by decide) (by decide) kf_X10_59 dX10_meant_35 ?_
    refine lv_aload_n hx hb dX10_meant_38 rfl (lv_at hl 0 rfl) ?_
    replace h := b1_some h
    obtain ⟨q14, gq14, h⟩ := h
    replace h := b2_some h
    obtain ⟨x15, s16, gs16, h⟩ := h
    refine z_callVi (rest := []) X hW hS (cX1_has_met gs16) kb_X1_has kv_X1_has kl_X10_282 (it_v gq14).1 kX1 rfl rfl ⟨Nat.le_of_ble_eq_true rfl, Nat.le_of_ble_eq_true rfl⟩ rfl rfl (by decide) hl.1 dX10_meant_39 ⟨(by decide), (by decide)⟩ (fun H locs hW hS => ?_)
    exact z_etz X hlk hr hW hS h (by decide) (by decide) dX10_meant_42

set_option maxHeartbeats 4000000 in
set_option maxRecDepth 100000 in
theorem cX10_meant_met {l : Launch} {A : Nat → Prop} {D : va_G} {cy : Nat → ClassId} {r0 : Int32} {h0 : Hz} {o : Nat} {v1 : Int32} {h : Hz} (g : fX10_meant o v1 h = some (r0, h0)) : Met l yX10_meant (Cond.code yX10_meant cX10_meant 3 (some .boolean) :: wT) ({ frames := 4, cells := 0, slots := 0, locals := 92 } : Room) (va_Pc [.ref o, .int v1] (zS A D cy h)) (va_Qi (fun r1 u => r1 = r0 ∧ u = h0) (zB A D cy) A) 0 0 A := by
  refine Met.ofW (cc := cX10_meant) (maxL := 3) (ret := (some .boolean)) (by decide) rfl ?_
  intro p e s m args below meth c s₁ B hml hv
  obtain ⟨rfl, hW, hK, hN, hA⟩ := hv
  have X : zX A D cy p s m _ c cX10_meant RX10 3 := ⟨B.exec, B.bytes, fun w hw => atoms_spec (ws := Cond.code yX10_meant cX10_meant 3 (some .boolean) :: wT) B.pre w (List.mem_cons_of_mem _ hw), findClass_of_methodNamed B.named, hK, hml, hN, hA⟩
  have hl := lv_entry [.ref o, .int v1] (n := 3) (Nat.le_of_ble_eq_true rfl)
  rw [lg_entry_eq]
  generalize (lg_sl [.ref o, .int v1] ++ List.replicate (3 - (lg_sl [.ref o, .int v1]).length) Slot.unset).toArray = ls at hl ⊢
  have hl : lv_has ls 3 [(0, .ref o), (1, .int v1)] := hl
  exact wX10_meant_0 X B.notSynchronized B.returns o v1 _ _ _ _ (lv_sub hl [0, 1] rfl) hW va_S.rf g

theorem dX10_why_0 : decode cX10_why 0 = .ok (.aload_n 0, 1) := by decide +kernel
theorem dX10_why_1 : decode cX10_why 1 = .ok (.getfield 10, 3) := by decide +kernel
theorem dX10_why_4 : decode cX10_why 4 = .ok (.iload_n 1, 1) := by decide +kernel
theorem dX10_why_5 : decode cX10_why 5 = .ok (.invokevirtual 94, 3) := by decide +kernel
theorem dX10_why_8 : decode cX10_why 8 = .ok (.astore_n 3, 1) := by decide +kernel
theorem dX10_why_9 : decode cX10_why 9 = .ok (.aload_n 3, 1) := by decide +kernel
theorem dX10_why_10 : decode cX10_why 10 = .ok (.ifnonnull 5, 3) := by decide +kernel
theorem dX10_why_13 : decode cX10_why 13 = .ok (.iconst (-1), 1) := by decide +kernel
theorem dX10_why_14 : decode cX10_why 14 = .ok (.ireturn, 1) := by decide +kernel
theorem dX10_why_15 : decode cX10_why 15 = .ok (.aload_n 0, 1) := by decide +kernel
theorem dX10_why_16 : decode cX10_why 16 = .ok (.getfield 59, 3) := by decide +kernel
theorem dX10_why_19 : decode cX10_why 19 = .ok (.aload_n 0, 1) := by decide +kernel
theorem dX10_why_20 : decode cX10_why 20 = .ok (.getfield 10, 3) := by decide +kernel
theorem dX10_why_23 : decode cX10_why 23 = .ok (.aload_n 0, 1) := by decide +kernel
theorem dX10_why_24 : decode cX10_why 24 = .ok (.getfield 19, 3) := by decide +kernel
theorem dX10_why_27 : decode cX10_why 27 = .ok (.aload_n 0, 1) := by decide +kernel
theorem dX10_why_28 : decode cX10_why 28 = .ok (.getfield 26, 3) := by decide +kernel
theorem dX10_why_31 : decode cX10_why 31 = .ok (.invokevirtual 278, 3) := by decide +kernel
theorem dX10_why_34 : decode cX10_why 34 = .ok (.aload_n 0, 1) := by decide +kernel
theorem dX10_why_35 : decode cX10_why 35 = .ok (.getfield 59, 3) := by decide +kernel
theorem dX10_why_38 : decode cX10_why 38 = .ok (.aload_n 3, 1) := by decide +kernel
theorem dX10_why_39 : decode cX10_why 39 = .ok (.iload_n 2, 1) := by decide +kernel
theorem dX10_why_40 : decode cX10_why 40 = .ok (.invokevirtual 283, 3) := by decide +kernel
theorem dX10_why_43 : decode cX10_why 43 = .ok (.ireturn, 1) := by decide +kernel
def fX10_why (o : Nat) (v1 : Int32) (v2 : Int32) (h : Hz) : Option (Int32 × Hz) := (b1 (gA 10 0 o h) fun a1 => (b1 (tg 6 a1 h) fun _ => (b2 (fX6_find a1 v1 h) fun r3 s4 => (oe r3 (some ((-1), s4)) fun a5 => (b1 (gA 10 9 o s4) fun a6 => (b1 (gA 10 0 o s4) fun a7 => (b1 (gA 10 1 o s4) fun a8 => (b1 (gA 10 2 o s4) fun a9 => (b1 (tg 1 a6 s4) fun _ => (b2 (fX1_trace a6 (some a7) (some a8) (some a9) s4) fun _ s12 => (b1 (gA 10 9 o s12) fun a13 => (b1 (tg 1 a13 s12) fun _ => (b2 (fX1_onTheWay a13 (some a5) v2 s12) fun x15 s16 => some (x15, s16))))))))))))))
set_option maxHeartbeats 4000000 in
set_option maxRecDepth 100000 in
theorem wX10_why_0 {r0 : Int32} {h0 : Hz} (X : zX A D cy p s m args c cX10_why RX10 4) (hlk : meth.locks = false) (hr : meth.sig.returnType = (some .int)) (o : Nat) (v1 : Int32) (v2 : Int32) (h : Hz) (H : Heap) (locs : List Loc) (ls : Array Slot) (hl : lv_has ls 4 [(0, .ref o), (1, .int v1), (2, .int v2)]) (hW : zW A cy D h H) (hS : va_S A s.heap H locs) (h : fX10_why o v1 v2 h = some (r0, h0)) : W p l e ({ frames := 4, cells := 0, slots := 0, locals := 92 } : Room) s m args below meth c H locs 0 0 (MQ below (va_Qi (fun r1 u => r1 = r0 ∧ u = h0) (zB A D cy) A) args s 0 0 A) (F0 m 0 ls []) := by
  obtain ⟨hx, hb, hts, hown, hK9, hml, hN9, hA9⟩ := id X
  unfold fX10_why at h
  refine lv_aload_n hx hb dX10_why_0 rfl (lv_at hl 0 rfl) ?_
  replace h := b1_some h
  obtain ⟨a1, ga1, h⟩ := h
  refine z_getA X hW ga1 kX10 (by decide) (by decide) kf_X10_10 dX10_why_1 ?_
  refine lv_iload_n hx hb dX10_why_4 rfl (lv_at hl 1 rfl) ?_
  replace h := b1_some h
  obtain ⟨q2, gq2, h⟩ := h
  replace h := b2_some h
  obtain ⟨r3, s4, gs4, h⟩ := h
  refine z_callVq (rest := []) X hW hS (cX6_find_met gs4) kb_X6_find kv_X6_find kl_X10_94 (it_v gq2).1 kX6 rfl rfl ⟨Nat.le_of_ble_eq_true rfl, Nat.le_of_ble_eq_true rfl⟩ rfl rfl (by decide) hl.1 dX10_why_5 ⟨(by decide), (by decide)⟩ (fun H locs hW hS => ?_)
  refine z_astore_n (lv' := [(3, va_rf r3), (0, .ref o), (1, .int v1), (2, .int v2)]) hx hb dX10_why_8 rfl hl (by decide) rfl (fun ls hl => ?_)
  refine z_aload_n hx hb dX10_why_9 rfl (lv_at hl 0 rfl) ?_
  cases r3 with
  | none =>
    replace h := oe_n h
    have hl : lv_has ls 4 [(3, .null), (0, .ref o), (1, .int v1), (2, .int v2)] := hl
    refine lv_ifnonnullN hx hb dX10_why_10 ?_
    refine lv_iconst (v := (-1)) hx hb dX10_why_13 (by decide) ?_
    exact z_eti X hlk hr hW hS h (by decide) (by decide) dX10_why_14
  | some a5 =>
    replace h := oe_s h
    have hl : lv_has ls 4 [(3, .ref a5), (0, .ref o), (1, .int v1), (2, .int v2)] := hl
    refine lv_ifnonnull (tgt := 15) hx hb dX10_why_10 (by decide) ?_
    refine lv_aload_n hx hb dX10_why_15 rfl (lv_at hl 1 rfl) ?_
    replace h := b1_some h
    obtain ⟨a6, ga6, h⟩ := h
    refine z_getA X hW ga6 kX10 (by decide) (by decide) kf_X10_59 dX10_why_16 ?_
    refine lv_aload_n hx hb dX10_why_19 rfl (lv_at hl 1 rfl) ?_
    replace h := b1_some h
    obtain ⟨a7, ga7, h⟩ := h
    refine z_getA X hW ga7 kX10 (by decide) (by decide) kf_X10_10 dX10_why_20 ?_
    refine lv_aload_n hx hb dX10_why_23 rfl (lv_at hl 1 rfl) ?_
    replace h := b1_some h
    obtain ⟨a8, ga8, h⟩ := h
    refine z_getA X hW ga8 kX10 (by decide) (by decide) kf_X10_19 dX10_why_24 ?_
    refine lv_aload_n hx hb dX10_why_27 rfl (lv_at hl 1 rfl) ?_
    replace h := b1_some h
    obtain ⟨a9, ga9, h⟩ := h
    refine z_getA X hW ga9 kX10 (by decide) (by decide) kf_X10_26 dX10_why_28 ?_
    replace h := b1_some h
    obtain ⟨q10, gq10, h⟩ := h
    replace h := b2_some h
    obtain ⟨_ur11, s12, gs12, h⟩ := h
    refine z_callVv (rest := []) X hW hS (cX1_trace_met gs12) kb_X1_trace kv_X1_trace kl_X10_278 (it_v gq10).1 kX1 rfl rfl ⟨Nat.le_of_ble_eq_true rfl, Nat.le_of_ble_eq_true rfl⟩ rfl rfl (by decide) hl.1 dX10_why_31 ⟨(by decide), (by decide)⟩ (fun H locs hW hS => ?_)
    refine lv_aload_n hx hb dX10_why_34 rfl (lv_at hl 1 rfl) ?_
    replace h := b1_some h
    obtain ⟨a13, ga13, h⟩ := h
    refine z_getA X hW ga13 kX10 (by decide) (by decide) kf_X10_59 dX10_why_35 ?_
    refine lv_aload_n hx hb dX10_why_38 rfl (lv_at hl 0 rfl) ?_
    refine lv_iload_n hx hb dX10_why_39 rfl (lv_at hl 3 rfl) ?_
    replace h := b1_some h
    obtain ⟨q14, gq14, h⟩ := h
    replace h := b2_some h
    obtain ⟨x15, s16, gs16, h⟩ := h
    refine z_callVi (rest := []) X hW hS (cX1_onTheWay_met gs16) kb_X1_onTheWay kv_X1_onTheWay kl_X10_283 (it_v gq14).1 kX1 rfl rfl ⟨Nat.le_of_ble_eq_true rfl, Nat.le_of_ble_eq_true rfl⟩ rfl rfl (by decide) hl.1 dX10_why_40 ⟨(by decide), (by decide)⟩ (fun H locs hW hS => ?_)
    exact z_eti X hlk hr hW hS h (by decide) (by decide) dX10_why_43

set_option maxHeartbeats 4000000 in
set_option maxRecDepth 100000 in
theorem cX10_why_met {l : Launch} {A : Nat → Prop} {D : va_G} {cy : Nat → ClassId} {r0 : Int32} {h0 : Hz} {o : Nat} {v1 : Int32} {v2 : Int32} {h : Hz} (g : fX10_why o v1 v2 h = some (r0, h0)) : Met l yX10_why (Cond.code yX10_why cX10_why 4 (some .int) :: wT) ({ frames := 4, cells := 0, slots := 0, locals := 92 } : Room) (va_Pc [.ref o, .int v1, .int v2] (zS A D cy h)) (va_Qi (fun r1 u => r1 = r0 ∧ u = h0) (zB A D cy) A) 0 0 A := by
  refine Met.ofW (cc := cX10_why) (maxL := 4) (ret := (some .int)) (by decide) rfl ?_
  intro p e s m args below meth c s₁ B hml hv
  obtain ⟨rfl, hW, hK, hN, hA⟩ := hv
  have X : zX A D cy p s m _ c cX10_why RX10 4 := ⟨B.exec, B.bytes, fun w hw => atoms_spec (ws := Cond.code yX10_why cX10_why 4 (some .int) :: wT) B.pre w (List.mem_cons_of_mem _ hw), findClass_of_methodNamed B.named, hK, hml, hN, hA⟩
  have hl := lv_entry [.ref o, .int v1, .int v2] (n := 4) (Nat.le_of_ble_eq_true rfl)
  rw [lg_entry_eq]
  generalize (lg_sl [.ref o, .int v1, .int v2] ++ List.replicate (4 - (lg_sl [.ref o, .int v1, .int v2]).length) Slot.unset).toArray = ls at hl ⊢
  have hl : lv_has ls 4 [(0, .ref o), (1, .int v1), (2, .int v2)] := hl
  exact wX10_why_0 X B.notSynchronized B.returns o v1 v2 _ _ _ _ (lv_sub hl [0, 1, 2] rfl) hW va_S.rf g

theorem dX10_dead_0 : decode cX10_dead 0 = .ok (.iload_n 1, 1) := by decide +kernel
theorem dX10_dead_1 : decode cX10_dead 1 = .ok (.ifCond .ge 5, 3) := by decide +kernel
theorem dX10_dead_4 : decode cX10_dead 4 = .ok (.iconst (-1), 1) := by decide +kernel
theorem dX10_dead_5 : decode cX10_dead 5 = .ok (.ireturn, 1) := by decide +kernel
theorem dX10_dead_6 : decode cX10_dead 6 = .ok (.aload_n 0, 1) := by decide +kernel
theorem dX10_dead_7 : decode cX10_dead 7 = .ok (.getfield 59, 3) := by decide +kernel
theorem dX10_dead_10 : decode cX10_dead 10 = .ok (.aload_n 0, 1) := by decide +kernel
theorem dX10_dead_11 : decode cX10_dead 11 = .ok (.getfield 10, 3) := by decide +kernel
theorem dX10_dead_14 : decode cX10_dead 14 = .ok (.aload_n 0, 1) := by decide +kernel
theorem dX10_dead_15 : decode cX10_dead 15 = .ok (.getfield 19, 3) := by decide +kernel
theorem dX10_dead_18 : decode cX10_dead 18 = .ok (.aload_n 0, 1) := by decide +kernel
theorem dX10_dead_19 : decode cX10_dead 19 = .ok (.getfield 26, 3) := by decide +kernel
theorem dX10_dead_22 : decode cX10_dead 22 = .ok (.invokevirtual 278, 3) := by decide +kernel
theorem dX10_dead_25 : decode cX10_dead 25 = .ok (.iload_n 1, 1) := by decide +kernel
theorem dX10_dead_26 : decode cX10_dead 26 = .ok (.istore_n 2, 1) := by decide +kernel
theorem dX10_dead_27 : decode cX10_dead 27 = .ok (.iconst 0, 1) := by decide +kernel
theorem dX10_dead_28 : decode cX10_dead 28 = .ok (.istore_n 3, 1) := by decide +kernel
theorem dX10_dead_29 : decode cX10_dead 29 = .ok (.iload_n 3, 1) := by decide +kernel
theorem dX10_dead_30 : decode cX10_dead 30 = .ok (.aload_n 0, 1) := by decide +kernel
theorem dX10_dead_31 : decode cX10_dead 31 = .ok (.getfield 10, 3) := by decide +kernel
theorem dX10_dead_34 : decode cX10_dead 34 = .ok (.invokevirtual 241, 3) := by decide +kernel
theorem dX10_dead_37 : decode cX10_dead 37 = .ok (.if_icmp .ge 48, 3) := by decide +kernel
theorem dX10_dead_40 : decode cX10_dead 40 = .ok (.aload_n 0, 1) := by decide +kernel
theorem dX10_dead_41 : decode cX10_dead 41 = .ok (.getfield 10, 3) := by decide +kernel
theorem dX10_dead_44 : decode cX10_dead 44 = .ok (.iload_n 3, 1) := by decide +kernel
theorem dX10_dead_45 : decode cX10_dead 45 = .ok (.invokevirtual 94, 3) := by decide +kernel
theorem dX10_dead_48 : decode cX10_dead 48 = .ok (.astore 4, 2) := by decide +kernel
theorem dX10_dead_50 : decode cX10_dead 50 = .ok (.aload 4, 2) := by decide +kernel
theorem dX10_dead_52 : decode cX10_dead 52 = .ok (.ifnull 27, 3) := by decide +kernel
theorem dX10_dead_55 : decode cX10_dead 55 = .ok (.aload_n 0, 1) := by decide +kernel
theorem dX10_dead_56 : decode cX10_dead 56 = .ok (.getfield 59, 3) := by decide +kernel
theorem dX10_dead_59 : decode cX10_dead 59 = .ok (.aload 4, 2) := by decide +kernel
theorem dX10_dead_61 : decode cX10_dead 61 = .ok (.invokevirtual 282, 3) := by decide +kernel
theorem dX10_dead_64 : decode cX10_dead 64 = .ok (.ifCond .eq 6, 3) := by decide +kernel
theorem dX10_dead_67 : decode cX10_dead 67 = .ok (.goto 12, 3) := by decide +kernel
theorem dX10_dead_70 : decode cX10_dead 70 = .ok (.iload_n 2, 1) := by decide +kernel
theorem dX10_dead_71 : decode cX10_dead 71 = .ok (.ifCond .ne 5, 3) := by decide +kernel
theorem dX10_dead_74 : decode cX10_dead 74 = .ok (.iload_n 3, 1) := by decide +kernel
theorem dX10_dead_75 : decode cX10_dead 75 = .ok (.ireturn, 1) := by decide +kernel
theorem dX10_dead_76 : decode cX10_dead 76 = .ok (.iinc 2 (-1), 3) := by decide +kernel
theorem dX10_dead_79 : decode cX10_dead 79 = .ok (.iinc 3 1, 3) := by decide +kernel
theorem dX10_dead_82 : decode cX10_dead 82 = .ok (.goto (-53), 3) := by decide +kernel
theorem dX10_dead_85 : decode cX10_dead 85 = .ok (.iconst (-1), 1) := by decide +kernel
theorem dX10_dead_86 : decode cX10_dead 86 = .ok (.ireturn, 1) := by decide +kernel
def fX10_dead_29 : Nat → Nat → Int32 → Int32 → Hz → Option (Int32 × Hz)
  | 0, _, _, _, _ => none
  | n + 1, o, v2, v3, h => (b1 (gA 10 0 o h) fun a1 => (b1 (tg 6 a1 h) fun _ => (b2 (fX6_size a1 h) fun x3 s4 => (if x3 ≤ v3 then some ((-1), s4) else (b1 (gA 10 0 o s4) fun a6 => (b1 (tg 6 a6 s4) fun _ => (b2 (fX6_find a6 v3 s4) fun r8 s9 => (oe r8 (fX10_dead_29 n o v2 (v3 + 1) s9) fun a10 => (b1 (gA 10 9 o s9) fun a11 => (b1 (tg 1 a11 s9) fun _ => (b2 (fX1_has a11 (some a10) s9) fun x13 s14 => (if x13 = 0 then (if v2 = 0 then some (v3, s14) else fX10_dead_29 n o (v2 + (-1)) (v3 + 1) s14) else fX10_dead_29 n o v2 (v3 + 1) s14))))))))))))
set_option maxHeartbeats 4000000 in
set_option maxRecDepth 100000 in
theorem wX10_dead_29 {r0 : Int32} {h0 : Hz} (X : zX A D cy p s m args c cX10_dead RX10 5) (hlk : meth.locks = false) (hr : meth.sig.returnType = (some .int)) : ∀ (n : Nat) (o : Nat) (v2 : Int32) (v3 : Int32) (h : Hz) (H : Heap) (locs : List Loc) (ls : Array Slot) (hl : lv_has ls 5 [(0, .ref o), (2, .int v2), (3, .int v3)]) (hW : zW A cy D h H) (hS : va_S A s.heap H locs) (h : fX10_dead_29 n o v2 v3 h = some (r0, h0)), W p l e ({ frames := 4, cells := 0, slots := 0, locals := 92 } : Room) s m args below meth c H locs 0 0 (MQ below (va_Qi (fun r1 u => r1 = r0 ∧ u = h0) (zB A D cy) A) args s 0 0 A) (F0 m 29 ls []) := by
  obtain ⟨hx, hb, hts, hown, hK9, hml, hN9, hA9⟩ := id X
  intro n
  induction n with
  | zero =>
    intro o v2 v3 h H locs ls hl hW hS h
    rw [fX10_dead_29] at h
    cases h
  | succ n ih =>
    intro o v2 v3 h H locs ls hl hW hS h
    rw [fX10_dead_29] at h
    refine lv_iload_n hx hb dX10_dead_29 rfl (lv_at hl 2 rfl) ?_
    refine lv_aload_n hx hb dX10_dead_30 rfl (lv_at hl 0 rfl) ?_
    replace h := b1_some h
    obtain ⟨a1, ga1, h⟩ := h
    refine z_getA X hW ga1 kX10 (by decide) (by decide) kf_X10_10 dX10_dead_31 ?_
    replace h := b1_some h
    obtain ⟨q2, gq2, h⟩ := h
    replace h := b2_some h
    obtain ⟨x3, s4, gs4, h⟩ := h
    refine z_callVi (rest := [.int v3]) X hW hS (cX6_size_met gs4) kb_X6_size kv_X6_size kl_X10_241 (it_v gq2).1 kX6 rfl rfl ⟨Nat.le_of_ble_eq_true rfl, Nat.le_of_ble_eq_true rfl⟩ rfl rfl (Nat.le_of_ble_eq_true rfl) hl.1 dX10_dead_34 ⟨(by decide), (by decide)⟩ (fun H locs hW hS => ?_)
    refine lv_icmp_ge (tgt := 85) hx hb dX10_dead_37 (by decide) (fun c5 => ?_) (fun c5 => ?_)
    · replace h := it_t h c5
      refine lv_iconst (v := (-1)) hx hb dX10_dead_85 (by decide) ?_
      exact z_eti X hlk hr hW hS h (by decide) (by decide) dX10_dead_86
    · replace h := it_f h c5
      refine lv_aload_n hx hb dX10_dead_40 rfl (lv_at hl 0 rfl) ?_
      replace h := b1_some h
      obtain ⟨a6, ga6, h⟩ := h
      refine z_getA X hW ga6 kX10 (by decide) (by decide) kf_X10_10 dX10_dead_41 ?_
      refine lv_iload_n hx hb dX10_dead_44 rfl (lv_at hl 2 rfl) ?_
      replace h := b1_some h
      obtain ⟨q7, gq7, h⟩ := h
      replace h := b2_some h
      obtain ⟨r8, s9, gs9, h⟩ := h
      refine z_callVq (rest := []) X hW hS (cX6_find_met gs9) kb_X6_find kv_X6_find kl_X10_94 (it_v gq7).1 kX6 rfl rfl ⟨Nat.le_of_ble_eq_true rfl, Nat.le_of_ble_eq_true rfl⟩ rfl rfl (by decide) hl.1 dX10_dead_45 ⟨(by decide), (by decide)⟩ (fun H locs hW hS => ?_)
      refine z_astore (lv' := [(4, va_rf r8), (0, .ref o), (2, .int v2), (3, .int v3)]) hx hb dX10_dead_48 hl (by decide) rfl (fun ls hl => ?_)
      refine z_aload hx hb dX10_dead_50 (lv_at hl 0 rfl) ?_
      cases r8 with
      | none =>
        replace h := oe_n h
        have hl : lv_has ls 5 [(4, .null), (0, .ref o), (2, .int v2), (3, .int v3)] := hl
        refine lv_ifnullN (tgt := 79) hx hb dX10_dead_52 (by decide) ?_
        refine lv_iinc (v := (v3 + 1)) (lv' := [(3, .int (v3 + 1)), (4, .null), (0, .ref o), (2, .int v2)]) hx hb dX10_dead_79 hl (k := 3) rfl rfl (by decide) rfl (fun ls hl => ?_)
        refine lv_goto (tgt := 29) hx hb dX10_dead_82 (by decide) ?_
        exact ih o v2 (v3 + 1) _ _ _ _ (lv_sub hl [2, 3, 0] rfl) hW hS h
      | some a10 =>
        replace h := oe_s h
        have hl : lv_has ls 5 [(4, .ref a10), (0, .ref o), (2, .int v2), (3, .int v3)] := hl
        refine lv_ifnull hx hb dX10_dead_52 ?_
        refine lv_aload_n hx hb dX10_dead_55 rfl (lv_at hl 1 rfl) ?_
        replace h := b1_some h
        obtain ⟨a11, ga11, h⟩ := h
        refine z_getA X hW ga11 kX10 (by decide) (by decide) kf_X10_59 dX10_dead_56 ?_
        refine lv_aload hx hb dX10_dead_59 (lv_at hl 0 rfl) ?_
        replace h := b1_some h
        obtain ⟨q12, gq12, h⟩ := h
        replace h := b2_some h
        obtain ⟨x13, s14, gs14, h⟩ := h
        refine z_callVi (rest := []) X hW hS (cX1_has_met gs14) kb_X1_has kv_X1_has kl_X10_282 (it_v gq12).1 kX1 rfl rfl ⟨Nat.le_of_ble_eq_true rfl, Nat.le_of_ble_eq_true rfl⟩ rfl rfl (by decide) hl.1 dX10_dead_61 ⟨(by decide), (by decide)⟩ (fun H locs hW hS => ?_)
        refine lv_if_eq (tgt := 70) hx hb dX10_dead_64 (by decide) (fun c15 => ?_) (fun c15 => ?_)
        · replace h := it_t h c15
          refine lv_iload_n hx hb dX10_dead_70 rfl (lv_at hl 2 rfl) ?_
          refine lv_if_ne (tgt := 76) hx hb dX10_dead_71 (by decide) (fun c16 => ?_) (fun c16 => ?_)
          · replace h := it_f h c16
            refine lv_iinc (v := (v2 + (-1))) (lv' := [(2, .int (v2 + (-1))), (4, .ref a10), (0, .ref o), (3, .int v3)]) hx hb dX10_dead_76 hl (k := 2) rfl rfl (by decide) rfl (fun ls hl => ?_)
            refine lv_iinc (v := (v3 + 1)) (lv' := [(3, .int (v3 + 1)), (2, .int (v2 + (-1))), (4, .ref a10), (0, .ref o)]) hx hb dX10_dead_79 hl (k := 3) rfl rfl (by decide) rfl (fun ls hl => ?_)
            refine lv_goto (tgt := 29) hx hb dX10_dead_82 (by decide) ?_
            exact ih o (v2 + (-1)) (v3 + 1) _ _ _ _ (lv_sub hl [3, 1, 0] rfl) hW hS h
          · replace h := it_t h c16
            refine lv_iload_n hx hb dX10_dead_74 rfl (lv_at hl 3 rfl) ?_
            exact z_eti X hlk hr hW hS h (by decide) (by decide) dX10_dead_75
        · replace h := it_f h c15
          refine lv_goto (tgt := 79) hx hb dX10_dead_67 (by decide) ?_
          refine lv_iinc (v := (v3 + 1)) (lv' := [(3, .int (v3 + 1)), (4, .ref a10), (0, .ref o), (2, .int v2)]) hx hb dX10_dead_79 hl (k := 3) rfl rfl (by decide) rfl (fun ls hl => ?_)
          refine lv_goto (tgt := 29) hx hb dX10_dead_82 (by decide) ?_
          exact ih o v2 (v3 + 1) _ _ _ _ (lv_sub hl [2, 3, 0] rfl) hW hS h

def fX10_dead (o : Nat) (v1 : Int32) (h : Hz) : Option (Int32 × Hz) := (if 0 ≤ v1 then (b1 (gA 10 9 o h) fun a2 => (b1 (gA 10 0 o h) fun a3 => (b1 (gA 10 1 o h) fun a4 => (b1 (gA 10 2 o h) fun a5 => (b1 (tg 1 a2 h) fun _ => (b2 (fX1_trace a2 (some a3) (some a4) (some a5) h) fun _ s8 => fX10_dead_29 100000 o v1 0 s8)))))) else some ((-1), h))
set_option maxHeartbeats 4000000 in
set_option maxRecDepth 100000 in
theorem wX10_dead_0 {r0 : Int32} {h0 : Hz} (X : zX A D cy p s m args c cX10_dead RX10 5) (hlk : meth.locks = false) (hr : meth.sig.returnType = (some .int)) (o : Nat) (v1 : Int32) (h : Hz) (H : Heap) (locs : List Loc) (ls : Array Slot) (hl : lv_has ls 5 [(0, .ref o), (1, .int v1)]) (hW : zW A cy D h H) (hS : va_S A s.heap H locs) (h : fX10_dead o v1 h = some (r0, h0)) : W p l e ({ frames := 4, cells := 0, slots := 0, locals := 92 } : Room) s m args below meth c H locs 0 0 (MQ below (va_Qi (fun r1 u => r1 = r0 ∧ u = h0) (zB A D cy) A) args s 0 0 A) (F0 m 0 ls []) := by
  obtain ⟨hx, hb, hts, hown, hK9, hml, hN9, hA9⟩ := id X
  unfold fX10_dead at h
  refine lv_iload_n hx hb dX10_dead_0 rfl (lv_at hl 1 rfl) ?_
  refine lv_if_ge (tgt := 6) hx hb dX10_dead_1 (by decide) (fun c1 => ?_) (fun c1 => ?_)
  · replace h := it_t h c1
    refine lv_aload_n hx hb dX10_dead_6 rfl (lv_at hl 0 rfl) ?_
    replace h := b1_some h
    obtain ⟨a2, ga2, h⟩ := h
    refine z_getA X hW ga2 kX10 (by decide) (by decide) kf_X10_59 dX10_dead_7 ?_
    refine lv_aload_n hx hb dX10_dead_10 rfl (lv_at hl 0 rfl) ?_
    replace h := b1_some h
    obtain ⟨a3, ga3, h⟩ := h
    refine z_getA X hW ga3 kX10 (by decide) (by decide) kf_X10_10 dX10_dead_11 ?_
    refine lv_aload_n hx hb dX10_dead_14 rfl (lv_at hl 0 rfl) ?_
    replace h := b1_some h
    obtain ⟨a4, ga4, h⟩ := h
    refine z_getA X hW ga4 kX10 (by decide) (by decide) kf_X10_19 dX10_dead_15 ?_
    refine lv_aload_n hx hb dX10_dead_18 rfl (lv_at hl 0 rfl) ?_
    replace h := b1_some h
    obtain ⟨a5, ga5, h⟩ := h
    refine z_getA X hW ga5 kX10 (by decide) (by decide) kf_X10_26 dX10_dead_19 ?_
    replace h := b1_some h
    obtain ⟨q6, gq6, h⟩ := h
    replace h := b2_some h
    obtain ⟨_ur7, s8, gs8, h⟩ := h
    refine z_callVv (rest := []) X hW hS (cX1_trace_met gs8) kb_X1_trace kv_X1_trace kl_X10_278 (it_v gq6).1 kX1 rfl rfl ⟨Nat.le_of_ble_eq_true rfl, Nat.le_of_ble_eq_true rfl⟩ rfl rfl (by decide) hl.1 dX10_dead_22 ⟨(by decide), (by decide)⟩ (fun H locs hW hS => ?_)
    refine lv_iload_n hx hb dX10_dead_25 rfl (lv_at hl 1 rfl) ?_
    refine lv_istore_n (lv' := [(2, .int v1), (0, .ref o), (1, .int v1)]) hx hb dX10_dead_26 rfl hl (by decide) rfl (fun ls hl => ?_)
    refine lv_iconst (v := 0) hx hb dX10_dead_27 (by decide) ?_
    refine lv_istore_n (lv' := [(3, .int 0), (2, .int v1), (0, .ref o), (1, .int v1)]) hx hb dX10_dead_28 rfl hl (by decide) rfl (fun ls hl => ?_)
    exact wX10_dead_29 X hlk hr _ o v1 0 _ _ _ _ (lv_sub hl [2, 1, 0] rfl) hW hS h
  · replace h := it_f h c1
    refine lv_iconst (v := (-1)) hx hb dX10_dead_4 (by decide) ?_
    exact z_eti X hlk hr hW hS h (by decide) (by decide) dX10_dead_5

set_option maxHeartbeats 4000000 in
set_option maxRecDepth 100000 in
theorem cX10_dead_met {l : Launch} {A : Nat → Prop} {D : va_G} {cy : Nat → ClassId} {r0 : Int32} {h0 : Hz} {o : Nat} {v1 : Int32} {h : Hz} (g : fX10_dead o v1 h = some (r0, h0)) : Met l yX10_dead (Cond.code yX10_dead cX10_dead 5 (some .int) :: wT) ({ frames := 4, cells := 0, slots := 0, locals := 92 } : Room) (va_Pc [.ref o, .int v1] (zS A D cy h)) (va_Qi (fun r1 u => r1 = r0 ∧ u = h0) (zB A D cy) A) 0 0 A := by
  refine Met.ofW (cc := cX10_dead) (maxL := 5) (ret := (some .int)) (by decide) rfl ?_
  intro p e s m args below meth c s₁ B hml hv
  obtain ⟨rfl, hW, hK, hN, hA⟩ := hv
  have X : zX A D cy p s m _ c cX10_dead RX10 5 := ⟨B.exec, B.bytes, fun w hw => atoms_spec (ws := Cond.code yX10_dead cX10_dead 5 (some .int) :: wT) B.pre w (List.mem_cons_of_mem _ hw), findClass_of_methodNamed B.named, hK, hml, hN, hA⟩
  have hl := lv_entry [.ref o, .int v1] (n := 5) (Nat.le_of_ble_eq_true rfl)
  rw [lg_entry_eq]
  generalize (lg_sl [.ref o, .int v1] ++ List.replicate (5 - (lg_sl [.ref o, .int v1]).length) Slot.unset).toArray = ls at hl ⊢
  have hl : lv_has ls 5 [(0, .ref o), (1, .int v1)] := hl
  exact wX10_dead_0 X B.notSynchronized B.returns o v1 _ _ _ _ (lv_sub hl [0, 1] rfl) hW va_S.rf g

theorem dX10_audit_0 : decode cX10_audit 0 = .ok (.aload_n 0, 1) := by decide +kernel
theorem dX10_audit_1 : decode cX10_audit 1 = .ok (.getfield 10, 3) := by decide +kernel
theorem dX10_audit_4 : decode cX10_audit 4 = .ok (.iload_n 1, 1) := by decide +kernel
theorem dX10_audit_5 : decode cX10_audit 5 = .ok (.invokevirtual 160, 3) := by decide +kernel
theorem dX10_audit_8 : decode cX10_audit 8 = .ok (.astore_n 3, 1) := by decide +kernel
theorem dX10_audit_9 : decode cX10_audit 9 = .ok (.aload_n 3, 1) := by decide +kernel
theorem dX10_audit_10 : decode cX10_audit 10 = .ok (.ifnull 11, 3) := by decide +kernel
theorem dX10_audit_13 : decode cX10_audit 13 = .ok (.aload_n 3, 1) := by decide +kernel
theorem dX10_audit_14 : decode cX10_audit 14 = .ok (.getfield 173, 3) := by decide +kernel
theorem dX10_audit_17 : decode cX10_audit 17 = .ok (.iconst 3, 1) := by decide +kernel
theorem dX10_audit_18 : decode cX10_audit 18 = .ok (.if_icmp .ne 5, 3) := by decide +kernel
theorem dX10_audit_21 : decode cX10_audit 21 = .ok (.iconst (-1), 1) := by decide +kernel
theorem dX10_audit_22 : decode cX10_audit 22 = .ok (.ireturn, 1) := by decide +kernel
theorem dX10_audit_23 : decode cX10_audit 23 = .ok (.iload_n 2, 1) := by decide +kernel
theorem dX10_audit_24 : decode cX10_audit 24 = .ok (.ifCond .ne 8, 3) := by decide +kernel
theorem dX10_audit_27 : decode cX10_audit 27 = .ok (.aload_n 3, 1) := by decide +kernel
theorem dX10_audit_28 : decode cX10_audit 28 = .ok (.getfield 163, 3) := by decide +kernel
theorem dX10_audit_31 : decode cX10_audit 31 = .ok (.ireturn, 1) := by decide +kernel
theorem dX10_audit_32 : decode cX10_audit 32 = .ok (.iload_n 2, 1) := by decide +kernel
theorem dX10_audit_33 : decode cX10_audit 33 = .ok (.iconst 1, 1) := by decide +kernel
theorem dX10_audit_34 : decode cX10_audit 34 = .ok (.if_icmp .ne 21, 3) := by decide +kernel
theorem dX10_audit_37 : decode cX10_audit 37 = .ok (.aload_n 0, 1) := by decide +kernel
theorem dX10_audit_38 : decode cX10_audit 38 = .ok (.getfield 10, 3) := by decide +kernel
theorem dX10_audit_41 : decode cX10_audit 41 = .ok (.aload_n 3, 1) := by decide +kernel
theorem dX10_audit_42 : decode cX10_audit 42 = .ok (.invokevirtual 287, 3) := by decide +kernel
theorem dX10_audit_45 : decode cX10_audit 45 = .ok (.aload_n 0, 1) := by decide +kernel
theorem dX10_audit_46 : decode cX10_audit 46 = .ok (.getfield 19, 3) := by decide +kernel
theorem dX10_audit_49 : decode cX10_audit 49 = .ok (.aload_n 3, 1) := by decide +kernel
theorem dX10_audit_50 : decode cX10_audit 50 = .ok (.invokevirtual 291, 3) := by decide +kernel
theorem dX10_audit_53 : decode cX10_audit 53 = .ok (.iadd, 1) := by decide +kernel
theorem dX10_audit_54 : decode cX10_audit 54 = .ok (.ireturn, 1) := by decide +kernel
theorem dX10_audit_55 : decode cX10_audit 55 = .ok (.iconst (-1), 1) := by decide +kernel
theorem dX10_audit_56 : decode cX10_audit 56 = .ok (.ireturn, 1) := by decide +kernel
def fX10_audit (o : Nat) (v1 : Int32) (v2 : Int32) (h : Hz) : Option (Int32 × Hz) := (b1 (gA 10 0 o h) fun a1 => (b1 (tg 6 a1 h) fun _ => (b2 (fX6_ever a1 v1 h) fun r3 s4 => (oe r3 (some ((-1), s4)) fun a5 => (b1 (gI 5 1 a5 s4) fun x6 => (if x6 = 3 then some ((-1), s4) else (if v2 = 0 then (b1 (gI 5 8 a5 s4) fun x18 => some (x18, s4)) else (if v2 = 1 then (b1 (gA 10 0 o s4) fun a10 => (b1 (tg 6 a10 s4) fun _ => (b2 (fX6_weightOfGates a10 (some a5) s4) fun x12 s13 => (b1 (gA 10 1 o s13) fun a14 => (b1 (tg 2 a14 s13) fun _ => (b2 (fX2_weightUnderWay a14 (some a5) s13) fun x16 s17 => some ((x12 + x16), s17))))))) else some ((-1), s4)))))))))
set_option maxHeartbeats 4000000 in
set_option maxRecDepth 100000 in
theorem wX10_audit_0 {r0 : Int32} {h0 : Hz} (X : zX A D cy p s m args c cX10_audit RX10 4) (hlk : meth.locks = false) (hr : meth.sig.returnType = (some .int)) (o : Nat) (v1 : Int32) (v2 : Int32) (h : Hz) (H : Heap) (locs : List Loc) (ls : Array Slot) (hl : lv_has ls 4 [(0, .ref o), (1, .int v1), (2, .int v2)]) (hW : zW A cy D h H) (hS : va_S A s.heap H locs) (h : fX10_audit o v1 v2 h = some (r0, h0)) : W p l e ({ frames := 2, cells := 0, slots := 0, locals := 46 } : Room) s m args below meth c H locs 0 0 (MQ below (va_Qi (fun r1 u => r1 = r0 ∧ u = h0) (zB A D cy) A) args s 0 0 A) (F0 m 0 ls []) := by
  obtain ⟨hx, hb, hts, hown, hK9, hml, hN9, hA9⟩ := id X
  unfold fX10_audit at h
  refine lv_aload_n hx hb dX10_audit_0 rfl (lv_at hl 0 rfl) ?_
  replace h := b1_some h
  obtain ⟨a1, ga1, h⟩ := h
  refine z_getA X hW ga1 kX10 (by decide) (by decide) kf_X10_10 dX10_audit_1 ?_
  refine lv_iload_n hx hb dX10_audit_4 rfl (lv_at hl 1 rfl) ?_
  replace h := b1_some h
  obtain ⟨q2, gq2, h⟩ := h
  replace h := b2_some h
  obtain ⟨r3, s4, gs4, h⟩ := h
  refine z_callVq (rest := []) X hW hS (cX6_ever_met gs4) kb_X6_ever kv_X6_ever kl_X10_160 (it_v gq2).1 kX6 rfl rfl ⟨Nat.le_of_ble_eq_true rfl, Nat.le_of_ble_eq_true rfl⟩ rfl rfl (by decide) hl.1 dX10_audit_5 ⟨(by decide), (by decide)⟩ (fun H locs hW hS => ?_)
  refine z_astore_n (lv' := [(3, va_rf r3), (0, .ref o), (1, .int v1), (2, .int v2)]) hx hb dX10_audit_8 rfl hl (by decide) rfl (fun ls hl => ?_)
  refine z_aload_n hx hb dX10_audit_9 rfl (lv_at hl 0 rfl) ?_
  cases r3 with
  | none =>
    replace h := oe_n h
    have hl : lv_has ls 4 [(3, .null), (0, .ref o), (1, .int v1), (2, .int v2)] := hl
    refine lv_ifnullN (tgt := 21) hx hb dX10_audit_10 (by decide) ?_
    refine lv_iconst (v := (-1)) hx hb dX10_audit_21 (by decide) ?_
    exact z_eti X hlk hr hW hS h (by decide) (by decide) dX10_audit_22
  | some a5 =>
    replace h := oe_s h
    have hl : lv_has ls 4 [(3, .ref a5), (0, .ref o), (1, .int v1), (2, .int v2)] := hl
    refine lv_ifnull hx hb dX10_audit_10 ?_
    refine lv_aload_n hx hb dX10_audit_13 rfl (lv_at hl 0 rfl) ?_
    replace h := b1_some h
    obtain ⟨x6, gx6, h⟩ := h
    refine z_getI X hW gx6 kX5 (by decide) (by decide) kf_X10_173 dX10_audit_14 ?_
    refine lv_iconst (v := 3) hx hb dX10_audit_17 (by decide) ?_
    refine lv_icmp_ne (tgt := 23) hx hb dX10_audit_18 (by decide) (fun c7 => ?_) (fun c7 => ?_)
    · replace h := it_f h c7
      refine lv_iload_n hx hb dX10_audit_23 rfl (lv_at hl 3 rfl) ?_
      refine lv_if_ne (tgt := 32) hx hb dX10_audit_24 (by decide) (fun c8 => ?_) (fun c8 => ?_)
      · replace h := it_f h c8
        refine lv_iload_n hx hb dX10_audit_32 rfl (lv_at hl 3 rfl) ?_
        refine lv_iconst (v := 1) hx hb dX10_audit_33 (by decide) ?_
        refine lv_icmp_ne (tgt := 55) hx hb dX10_audit_34 (by decide) (fun c9 => ?_) (fun c9 => ?_)
        · replace h := it_f h c9
          refine lv_iconst (v := (-1)) hx hb dX10_audit_55 (by decide) ?_
          exact z_eti X hlk hr hW hS h (by decide) (by decide) dX10_audit_56
        · replace h := it_t h c9
          refine lv_aload_n hx hb dX10_audit_37 rfl (lv_at hl 1 rfl) ?_
          replace h := b1_some h
          obtain ⟨a10, ga10, h⟩ := h
          refine z_getA X hW ga10 kX10 (by decide) (by decide) kf_X10_10 dX10_audit_38 ?_
          refine lv_aload_n hx hb dX10_audit_41 rfl (lv_at hl 0 rfl) ?_
          replace h := b1_some h
          obtain ⟨q11, gq11, h⟩ := h
          replace h := b2_some h
          obtain ⟨x12, s13, gs13, h⟩ := h
          refine z_callVi (rest := []) X hW hS (cX6_weightOfGates_met gs13) kb_X6_weightOfGates kv_X6_weightOfGates kl_X10_287 (it_v gq11).1 kX6 rfl rfl ⟨Nat.le_of_ble_eq_true rfl, Nat.le_of_ble_eq_true rfl⟩ rfl rfl (by decide) hl.1 dX10_audit_42 ⟨(by decide), (by decide)⟩ (fun H locs hW hS => ?_)
          refine lv_aload_n hx hb dX10_audit_45 rfl (lv_at hl 1 rfl) ?_
          replace h := b1_some h
          obtain ⟨a14, ga14, h⟩ := h
          refine z_getA X hW ga14 kX10 (by decide) (by decide) kf_X10_19 dX10_audit_46 ?_
          refine lv_aload_n hx hb dX10_audit_49 rfl (lv_at hl 0 rfl) ?_
          replace h := b1_some h
          obtain ⟨q15, gq15, h⟩ := h
          replace h := b2_some h
          obtain ⟨x16, s17, gs17, h⟩ := h
          refine z_callVi (rest := [.int x12]) X hW hS (cX2_weightUnderWay_met gs17) kb_X2_weightUnderWay kv_X2_weightUnderWay kl_X10_291 (it_v gq15).1 kX2 rfl rfl ⟨Nat.le_of_ble_eq_true rfl, Nat.le_of_ble_eq_true rfl⟩ rfl rfl (Nat.le_of_ble_eq_true rfl) hl.1 dX10_audit_50 ⟨(by decide), (by decide)⟩ (fun H locs hW hS => ?_)
          refine lv_iadd hx hb dX10_audit_53 ?_
          exact z_eti X hlk hr hW hS h (by decide) (by decide) dX10_audit_54
      · replace h := it_t h c8
        refine lv_aload_n hx hb dX10_audit_27 rfl (lv_at hl 0 rfl) ?_
        replace h := b1_some h
        obtain ⟨x18, gx18, h⟩ := h
        refine z_getI X hW gx18 kX5 (by decide) (by decide) kf_X10_163 dX10_audit_28 ?_
        exact z_eti X hlk hr hW hS h (by decide) (by decide) dX10_audit_31
    · replace h := it_t h c7
      refine lv_iconst (v := (-1)) hx hb dX10_audit_21 (by decide) ?_
      exact z_eti X hlk hr hW hS h (by decide) (by decide) dX10_audit_22

set_option maxHeartbeats 4000000 in
set_option maxRecDepth 100000 in
theorem cX10_audit_met {l : Launch} {A : Nat → Prop} {D : va_G} {cy : Nat → ClassId} {r0 : Int32} {h0 : Hz} {o : Nat} {v1 : Int32} {v2 : Int32} {h : Hz} (g : fX10_audit o v1 v2 h = some (r0, h0)) : Met l yX10_audit (Cond.code yX10_audit cX10_audit 4 (some .int) :: wT) ({ frames := 2, cells := 0, slots := 0, locals := 46 } : Room) (va_Pc [.ref o, .int v1, .int v2] (zS A D cy h)) (va_Qi (fun r1 u => r1 = r0 ∧ u = h0) (zB A D cy) A) 0 0 A := by
  refine Met.ofW (cc := cX10_audit) (maxL := 4) (ret := (some .int)) (by decide) rfl ?_
  intro p e s m args below meth c s₁ B hml hv
  obtain ⟨rfl, hW, hK, hN, hA⟩ := hv
  have X : zX A D cy p s m _ c cX10_audit RX10 4 := ⟨B.exec, B.bytes, fun w hw => atoms_spec (ws := Cond.code yX10_audit cX10_audit 4 (some .int) :: wT) B.pre w (List.mem_cons_of_mem _ hw), findClass_of_methodNamed B.named, hK, hml, hN, hA⟩
  have hl := lv_entry [.ref o, .int v1, .int v2] (n := 4) (Nat.le_of_ble_eq_true rfl)
  rw [lg_entry_eq]
  generalize (lg_sl [.ref o, .int v1, .int v2] ++ List.replicate (4 - (lg_sl [.ref o, .int v1, .int v2]).length) Slot.unset).toArray = ls at hl ⊢
  have hl : lv_has ls 4 [(0, .ref o), (1, .int v1), (2, .int v2)] := hl
  exact wX10_audit_0 X B.notSynchronized B.returns o v1 v2 _ _ _ _ (lv_sub hl [0, 1, 2] rfl) hW va_S.rf g

theorem dX10_sumOfCounts_0 : decode cX10_sumOfCounts 0 = .ok (.iconst 0, 1) := by decide +kernel
theorem dX10_sumOfCounts_1 : decode cX10_sumOfCounts 1 = .ok (.istore_n 1, 1) := by decide +kernel
theorem dX10_sumOfCounts_2 : decode cX10_sumOfCounts 2 = .ok (.aload_n 0, 1) := by decide +kernel
theorem dX10_sumOfCounts_3 : decode cX10_sumOfCounts 3 = .ok (.getfield 36, 3) := by decide +kernel
theorem dX10_sumOfCounts_6 : decode cX10_sumOfCounts 6 = .ok (.astore_n 2, 1) := by decide +kernel
theorem dX10_sumOfCounts_7 : decode cX10_sumOfCounts 7 = .ok (.aload_n 2, 1) := by decide +kernel
theorem dX10_sumOfCounts_8 : decode cX10_sumOfCounts 8 = .ok (.arraylength, 1) := by decide +kernel
theorem dX10_sumOfCounts_9 : decode cX10_sumOfCounts 9 = .ok (.istore_n 3, 1) := by decide +kernel
theorem dX10_sumOfCounts_10 : decode cX10_sumOfCounts 10 = .ok (.iconst 0, 1) := by decide +kernel
theorem dX10_sumOfCounts_11 : decode cX10_sumOfCounts 11 = .ok (.istore 4, 2) := by decide +kernel
theorem dX10_sumOfCounts_13 : decode cX10_sumOfCounts 13 = .ok (.iload 4, 2) := by decide +kernel
theorem dX10_sumOfCounts_15 : decode cX10_sumOfCounts 15 = .ok (.iload_n 3, 1) := by decide +kernel
theorem dX10_sumOfCounts_16 : decode cX10_sumOfCounts 16 = .ok (.if_icmp .ge 20, 3) := by decide +kernel
theorem dX10_sumOfCounts_19 : decode cX10_sumOfCounts 19 = .ok (.aload_n 2, 1) := by decide +kernel
theorem dX10_sumOfCounts_20 : decode cX10_sumOfCounts 20 = .ok (.iload 4, 2) := by decide +kernel
theorem dX10_sumOfCounts_22 : decode cX10_sumOfCounts 22 = .ok (.iaload, 1) := by decide +kernel
theorem dX10_sumOfCounts_23 : decode cX10_sumOfCounts 23 = .ok (.istore 5, 2) := by decide +kernel
theorem dX10_sumOfCounts_25 : decode cX10_sumOfCounts 25 = .ok (.iload_n 1, 1) := by decide +kernel
theorem dX10_sumOfCounts_26 : decode cX10_sumOfCounts 26 = .ok (.iload 5, 2) := by decide +kernel
theorem dX10_sumOfCounts_28 : decode cX10_sumOfCounts 28 = .ok (.iadd, 1) := by decide +kernel
theorem dX10_sumOfCounts_29 : decode cX10_sumOfCounts 29 = .ok (.istore_n 1, 1) := by decide +kernel
theorem dX10_sumOfCounts_30 : decode cX10_sumOfCounts 30 = .ok (.iinc 4 1, 3) := by decide +kernel
theorem dX10_sumOfCounts_33 : decode cX10_sumOfCounts 33 = .ok (.goto (-20), 3) := by decide +kernel
theorem dX10_sumOfCounts_36 : decode cX10_sumOfCounts 36 = .ok (.iload_n 1, 1) := by decide +kernel
theorem dX10_sumOfCounts_37 : decode cX10_sumOfCounts 37 = .ok (.ireturn, 1) := by decide +kernel
def fX10_sumOfCounts_13 : Nat → Int32 → Nat → Int32 → Int32 → Hz → Option (Int32 × Hz)
  | 0, _, _, _, _, _ => none
  | n + 1, v1, v2, v3, v4, h => (if v3 ≤ v4 then some (v1, h) else (b1 (xI 12 v2 v4 h) fun x2 => fX10_sumOfCounts_13 n (v1 + x2) v2 v3 (v4 + 1) h))
set_option maxHeartbeats 4000000 in
set_option maxRecDepth 100000 in
theorem wX10_sumOfCounts_13 {r0 : Int32} {h0 : Hz} (X : zX A D cy p s m args c cX10_sumOfCounts RX10 6) (hlk : meth.locks = false) (hr : meth.sig.returnType = (some .int)) : ∀ (n : Nat) (v1 : Int32) (v2 : Nat) (v3 : Int32) (v4 : Int32) (h : Hz) (H : Heap) (locs : List Loc) (ls : Array Slot) (hl : lv_has ls 6 [(1, .int v1), (2, .ref v2), (3, .int v3), (4, .int v4)]) (hW : zW A cy D h H) (hS : va_S A s.heap H locs) (h : fX10_sumOfCounts_13 n v1 v2 v3 v4 h = some (r0, h0)), W p l e ({ frames := 0, cells := 0, slots := 0, locals := 0 } : Room) s m args below meth c H locs 0 0 (MQ below (va_Qi (fun r1 u => r1 = r0 ∧ u = h0) (zB A D cy) A) args s 0 0 A) (F0 m 13 ls []) := by
  obtain ⟨hx, hb, hts, hown, hK9, hml, hN9, hA9⟩ := id X
  intro n
  induction n with
  | zero =>
    intro v1 v2 v3 v4 h H locs ls hl hW hS h
    rw [fX10_sumOfCounts_13] at h
    cases h
  | succ n ih =>
    intro v1 v2 v3 v4 h H locs ls hl hW hS h
    rw [fX10_sumOfCounts_13] at h
    refine lv_iload hx hb dX10_sumOfCounts_13 (lv_at hl 3 rfl) ?_
    refine lv_iload_n hx hb dX10_sumOfCounts_15 rfl (lv_at hl 2 rfl) ?_
    refine lv_icmp_ge (tgt := 36) hx hb dX10_sumOfCounts_16 (by decide) (fun c1 => ?_) (fun c1 => ?_)
    · replace h := it_t h c1
      refine lv_iload_n hx hb dX10_sumOfCounts_36 rfl (lv_at hl 0 rfl) ?_
      exact z_eti X hlk hr hW hS h (by decide) (by decide) dX10_sumOfCounts_37
    · replace h := it_f h c1
      refine lv_aload_n hx hb dX10_sumOfCounts_19 rfl (lv_at hl 1 rfl) ?_
      refine lv_iload hx hb dX10_sumOfCounts_20 (lv_at hl 3 rfl) ?_
      replace h := b1_some h
      obtain ⟨x2, gx2, h⟩ := h
      refine z_aldI X hW gx2 dX10_sumOfCounts_22 ?_
      refine lv_istore (lv' := [(5, .int x2), (1, .int v1), (2, .ref v2), (3, .int v3), (4, .int v4)]) hx hb dX10_sumOfCounts_23 hl (by decide) rfl (fun ls hl => ?_)
      refine lv_iload_n hx hb dX10_sumOfCounts_25 rfl (lv_at hl 1 rfl) ?_
      refine lv_iload hx hb dX10_sumOfCounts_26 (lv_at hl 0 rfl) ?_
      refine lv_iadd hx hb dX10_sumOfCounts_28 ?_
      refine lv_istore_n (lv' := [(1, .int (v1 + x2)), (5, .int x2), (2, .ref v2), (3, .int v3), (4, .int v4)]) hx hb dX10_sumOfCounts_29 rfl hl (by decide) rfl (fun ls hl => ?_)
      refine lv_iinc (v := (v4 + 1)) (lv' := [(4, .int (v4 + 1)), (1, .int (v1 + x2)), (5, .int x2), (2, .ref v2), (3, .int v3)]) hx hb dX10_sumOfCounts_30 hl (k := 4) rfl rfl (by decide) rfl (fun ls hl => ?_)
      refine lv_goto (tgt := 13) hx hb dX10_sumOfCounts_33 (by decide) ?_
      exact ih (v1 + x2) v2 v3 (v4 + 1) _ _ _ _ (lv_sub hl [1, 3, 4, 0] rfl) hW hS h

def fX10_sumOfCounts (o : Nat) (h : Hz) : Option (Int32 × Hz) := (b1 (gA 10 4 o h) fun a1 => (b1 (xN 12 a1 h) fun x2 => fX10_sumOfCounts_13 100000 0 a1 x2 0 h))
set_option maxHeartbeats 4000000 in
set_option maxRecDepth 100000 in
theorem wX10_sumOfCounts_0 {r0 : Int32} {h0 : Hz} (X : zX A D cy p s m args c cX10_sumOfCounts RX10 6) (hlk : meth.locks = false) (hr : meth.sig.returnType = (some .int)) (o : Nat) (h : Hz) (H : Heap) (locs : List Loc) (ls : Array Slot) (hl : lv_has ls 6 [(0, .ref o)]) (hW : zW A cy D h H) (hS : va_S A s.heap H locs) (h : fX10_sumOfCounts o h = some (r0, h0)) : W p l e ({ frames := 0, cells := 0, slots := 0, locals := 0 } : Room) s m args below meth c H locs 0 0 (MQ below (va_Qi (fun r1 u => r1 = r0 ∧ u = h0) (zB A D cy) A) args s 0 0 A) (F0 m 0 ls []) := by
  obtain ⟨hx, hb, hts, hown, hK9, hml, hN9, hA9⟩ := id X
  unfold fX10_sumOfCounts at h
  refine lv_iconst (v := 0) hx hb dX10_sumOfCounts_0 (by decide) ?_
  refine lv_istore_n (lv' := [(1, .int 0), (0, .ref o)]) hx hb dX10_sumOfCounts_1 rfl hl (by decide) rfl (fun ls hl => ?_)
  refine lv_aload_n hx hb dX10_sumOfCounts_2 rfl (lv_at hl 1 rfl) ?_
  replace h := b1_some h
  obtain ⟨a1, ga1, h⟩ := h
  refine z_getA X hW ga1 kX10 (by decide) (by decide) kf_X10_36 dX10_sumOfCounts_3 ?_
  refine lv_astore_n (lv' := [(2, .ref a1), (1, .int 0), (0, .ref o)]) hx hb dX10_sumOfCounts_6 rfl hl (by decide) rfl (fun ls hl => ?_)
  refine lv_aload_n hx hb dX10_sumOfCounts_7 rfl (lv_at hl 0 rfl) ?_
  replace h := b1_some h
  obtain ⟨x2, gx2, h⟩ := h
  refine z_alenI X hW gx2 dX10_sumOfCounts_8 ?_
  refine lv_istore_n (lv' := [(3, .int x2), (2, .ref a1), (1, .int 0), (0, .ref o)]) hx hb dX10_sumOfCounts_9 rfl hl (by decide) rfl (fun ls hl => ?_)
  refine lv_iconst (v := 0) hx hb dX10_sumOfCounts_10 (by decide) ?_
  refine lv_istore (lv' := [(4, .int 0), (3, .int x2), (2, .ref a1), (1, .int 0), (0, .ref o)]) hx hb dX10_sumOfCounts_11 hl (by decide) rfl (fun ls hl => ?_)
  exact wX10_sumOfCounts_13 X hlk hr _ 0 a1 x2 0 _ _ _ _ (lv_sub hl [3, 2, 1, 0] rfl) hW hS h

set_option maxHeartbeats 4000000 in
set_option maxRecDepth 100000 in
theorem cX10_sumOfCounts_met {l : Launch} {A : Nat → Prop} {D : va_G} {cy : Nat → ClassId} {r0 : Int32} {h0 : Hz} {o : Nat} {h : Hz} (g : fX10_sumOfCounts o h = some (r0, h0)) : Met l yX10_sumOfCounts (Cond.code yX10_sumOfCounts cX10_sumOfCounts 6 (some .int) :: wT) ({ frames := 0, cells := 0, slots := 0, locals := 0 } : Room) (va_Pc [.ref o] (zS A D cy h)) (va_Qi (fun r1 u => r1 = r0 ∧ u = h0) (zB A D cy) A) 0 0 A := by
  refine Met.ofW (cc := cX10_sumOfCounts) (maxL := 6) (ret := (some .int)) (by decide) rfl ?_
  intro p e s m args below meth c s₁ B hml hv
  obtain ⟨rfl, hW, hK, hN, hA⟩ := hv
  have X : zX A D cy p s m _ c cX10_sumOfCounts RX10 6 := ⟨B.exec, B.bytes, fun w hw => atoms_spec (ws := Cond.code yX10_sumOfCounts cX10_sumOfCounts 6 (some .int) :: wT) B.pre w (List.mem_cons_of_mem _ hw), findClass_of_methodNamed B.named, hK, hml, hN, hA⟩
  have hl := lv_entry [.ref o] (n := 6) (Nat.le_of_ble_eq_true rfl)
  rw [lg_entry_eq]
  generalize (lg_sl [.ref o] ++ List.replicate (6 - (lg_sl [.ref o]).length) Slot.unset).toArray = ls at hl ⊢
  have hl : lv_has ls 6 [(0, .ref o)] := hl
  exact wX10_sumOfCounts_0 X B.notSynchronized B.returns o _ _ _ _ (lv_sub hl [0] rfl) hW va_S.rf g

theorem dX10_status_0 : decode cX10_status 0 = .ok (.iload_n 1, 1) := by decide +kernel
theorem dX10_status_1 : decode cX10_status 1 = .ok (.bipush 11, 2) := by decide +kernel
theorem dX10_status_3 : decode cX10_status 3 = .ok (.isub, 1) := by decide +kernel
theorem dX10_status_4 : decode cX10_status 4 = .ok (.istore_n 2, 1) := by decide +kernel
theorem dX10_status_5 : decode cX10_status 5 = .ok (.iload_n 1, 1) := by decide +kernel
theorem dX10_status_6 : decode cX10_status 6 = .ok (.bipush 11, 2) := by decide +kernel
theorem dX10_status_8 : decode cX10_status 8 = .ok (.if_icmp .lt 19, 3) := by decide +kernel
theorem dX10_status_11 : decode cX10_status 11 = .ok (.iload_n 2, 1) := by decide +kernel
theorem dX10_status_12 : decode cX10_status 12 = .ok (.aload_n 0, 1) := by decide +kernel
theorem dX10_status_13 : decode cX10_status 13 = .ok (.getfield 40, 3) := by decide +kernel
theorem dX10_status_16 : decode cX10_status 16 = .ok (.arraylength, 1) := by decide +kernel
theorem dX10_status_17 : decode cX10_status 17 = .ok (.if_icmp .ge 10, 3) := by decide +kernel
theorem dX10_status_20 : decode cX10_status 20 = .ok (.aload_n 0, 1) := by decide +kernel
theorem dX10_status_21 : decode cX10_status 21 = .ok (.getfield 40, 3) := by decide +kernel
theorem dX10_status_24 : decode cX10_status 24 = .ok (.iload_n 2, 1) := by decide +kernel
theorem dX10_status_25 : decode cX10_status 25 = .ok (.iaload, 1) := by decide +kernel
theorem dX10_status_26 : decode cX10_status 26 = .ok (.ireturn, 1) := by decide +kernel
theorem dX10_status_27 : decode cX10_status 27 = .ok (.iload_n 1, 1) := by decide +kernel
theorem dX10_status_28 : decode cX10_status 28 = .ok (.tableswitch 103 0 7 #[48, 56, 64, 72, 80, 85, 93, 98], 48) := by decide +kernel
theorem dX10_status_76 : decode cX10_status 76 = .ok (.aload_n 0, 1) := by decide +kernel
theorem dX10_status_77 : decode cX10_status 77 = .ok (.getfield 10, 3) := by decide +kernel
theorem dX10_status_80 : decode cX10_status 80 = .ok (.invokevirtual 241, 3) := by decide +kernel
theorem dX10_status_83 : decode cX10_status 83 = .ok (.ireturn, 1) := by decide +kernel
theorem dX10_status_84 : decode cX10_status 84 = .ok (.aload_n 0, 1) := by decide +kernel
theorem dX10_status_85 : decode cX10_status 85 = .ok (.getfield 10, 3) := by decide +kernel
theorem dX10_status_88 : decode cX10_status 88 = .ok (.invokevirtual 294, 3) := by decide +kernel
theorem dX10_status_91 : decode cX10_status 91 = .ok (.ireturn, 1) := by decide +kernel
theorem dX10_status_92 : decode cX10_status 92 = .ok (.aload_n 0, 1) := by decide +kernel
theorem dX10_status_93 : decode cX10_status 93 = .ok (.getfield 19, 3) := by decide +kernel
theorem dX10_status_96 : decode cX10_status 96 = .ok (.invokevirtual 297, 3) := by decide +kernel
theorem dX10_status_99 : decode cX10_status 99 = .ok (.ireturn, 1) := by decide +kernel
theorem dX10_status_100 : decode cX10_status 100 = .ok (.aload_n 0, 1) := by decide +kernel
theorem dX10_status_101 : decode cX10_status 101 = .ok (.getfield 19, 3) := by decide +kernel
theorem dX10_status_104 : decode cX10_status 104 = .ok (.invokevirtual 298, 3) := by decide +kernel
theorem dX10_status_107 : decode cX10_status 107 = .ok (.ireturn, 1) := by decide +kernel
theorem dX10_status_108 : decode cX10_status 108 = .ok (.aload_n 0, 1) := by decide +kernel
theorem dX10_status_109 : decode cX10_status 109 = .ok (.getfield 63, 3) := by decide +kernel
theorem dX10_status_112 : decode cX10_status 112 = .ok (.ireturn, 1) := by decide +kernel
theorem dX10_status_113 : decode cX10_status 113 = .ok (.aload_n 0, 1) := by decide +kernel
theorem dX10_status_114 : decode cX10_status 114 = .ok (.getfield 26, 3) := by decide +kernel
theorem dX10_status_117 : decode cX10_status 117 = .ok (.invokevirtual 301, 3) := by decide +kernel
theorem dX10_status_120 : decode cX10_status 120 = .ok (.ireturn, 1) := by decide +kernel
theorem dX10_status_121 : decode cX10_status 121 = .ok (.aload_n 0, 1) := by decide +kernel
theorem dX10_status_122 : decode cX10_status 122 = .ok (.getfield 70, 3) := by decide +kernel
theorem dX10_status_125 : decode cX10_status 125 = .ok (.ireturn, 1) := by decide +kernel
theorem dX10_status_126 : decode cX10_status 126 = .ok (.aload_n 0, 1) := by decide +kernel
theorem dX10_status_127 : decode cX10_status 127 = .ok (.invokevirtual 302, 3) := by decide +kernel
theorem dX10_status_130 : decode cX10_status 130 = .ok (.ireturn, 1) := by decide +kernel
theorem dX10_status_131 : decode cX10_status 131 = .ok (.iconst (-1), 1) := by decide +kernel
theorem dX10_status_132 : decode cX10_status 132 = .ok (.ireturn, 1) := by decide +kernel
def fX10_status_27 (o : Nat) (v1 : Int32) (h : Hz) : Option (Int32 × Hz) := (if v1 = 0 then (b1 (gA 10 0 o h) fun a2 => (b1 (tg 6 a2 h) fun _ => (b2 (fX6_size a2 h) fun x4 s5 => some (x4, s5)))) else (if v1 = 1 then (b1 (gA 10 0 o h) fun a7 => (b1 (tg 6 a7 h) fun _ => (b2 (fX6_sizeThere a7 h) fun x9 s10 => some (x9, s10)))) else (if v1 = 2 then (b1 (gA 10 1 o h) fun a12 => (b1 (tg 2 a12 h) fun _ => (b2 (fX2_size a12 h) fun x14 s15 => some (x14, s15)))) else (if v1 = 3 then (b1 (gA 10 1 o h) fun a17 => (b1 (tg 2 a17 h) fun _ => (b2 (fX2_sizeUnderWay a17 h) fun x19 s20 => some (x19, s20)))) else (if v1 = 4 then (b1 (gI 10 10 o h) fun x22 => some (x22, h)) else (if v1 = 5 then (b1 (gA 10 2 o h) fun a24 => (b1 (tg 7 a24 h) fun _ => (b2 (fX7_size a24 h) fun x26 s27 => some (x26, s27)))) else (if v1 = 6 then (b1 (gI 10 12 o h) fun x29 => some (x29, h)) else (if v1 = 7 then (b1 (tg 10 o h) fun _ => (b2 (fX10_sumOfCounts o h) fun x32 s33 => some (x32, s33))) else some ((-1), h)))))))))
set_option maxHeartbeats 4000000 in
set_option maxRecDepth 100000 in
theorem wX10_status_27 {r0 : Int32} {h0 : Hz} (X : zX A D cy p s m args c cX10_status RX10 3) (hlk : meth.locks = false) (hr : meth.sig.returnType = (some .int)) (o : Nat) (v1 : Int32) (h : Hz) (H : Heap) (locs : List Loc) (ls : Array Slot) (hl : lv_has ls 3 [(0, .ref o), (1, .int v1)]) (hW : zW A cy D h H) (hS : va_S A s.heap H locs) (h : fX10_status_27 o v1 h = some (r0, h0)) : W p l e ({ frames := 2, cells := 0, slots := 0, locals := 44 } : Room) s m args below meth c H locs 0 0 (MQ below (va_Qi (fun r1 u => r1 = r0 ∧ u = h0) (zB A D cy) A) args s 0 0 A) (F0 m 27 ls []) := by
  obtain ⟨hx, hb, hts, hown, hK9, hml, hN9, hA9⟩ := id X
  unfold fX10_status_27 at h
  refine lv_iload_n hx hb dX10_status_27 rfl (lv_at hl 1 rfl) ?_
  by_cases c1 : v1 = 0
  · replace h := it_t h c1
    refine lv_tableIn (off := 48) (tgt := 76) hx hb dX10_status_28 (by rw [c1]; decide) (by rw [c1]; decide) (by rw [c1]; rfl) (by decide) ?_
    refine lv_aload_n hx hb dX10_status_76 rfl (lv_at hl 0 rfl) ?_
    replace h := b1_some h
    obtain ⟨a2, ga2, h⟩ := h
    refine z_getA X hW ga2 kX10 (by decide) (by decide) kf_X10_10 dX10_status_77 ?_
    replace h := b1_some h
    obtain ⟨q3, gq3, h⟩ := h
    replace h := b2_some h
    obtain ⟨x4, s5, gs5, h⟩ := h
    refine z_callVi (rest := []) X hW hS (cX6_size_met gs5) kb_X6_size kv_X6_size kl_X10_241 (it_v gq3).1 kX6 rfl rfl ⟨Nat.le_of_ble_eq_true rfl, Nat.le_of_ble_eq_true rfl⟩ rfl rfl (by decide) hl.1 dX10_status_80 ⟨(by decide), (by decide)⟩ (fun H locs hW hS => ?_)
    exact z_eti X hlk hr hW hS h (by decide) (by decide) dX10_status_83
  · replace h := it_f h c1
    by_cases c6 : v1 = 1
    · replace h := it_t h c6
      refine lv_tableIn (off := 56) (tgt := 84) hx hb dX10_status_28 (by rw [c6]; decide) (by rw [c6]; decide) (by rw [c6]; rfl) (by decide) ?_
      refine lv_aload_n hx hb dX10_status_84 rfl (lv_at hl 0 rfl) ?_
      replace h := b1_some h
      obtain ⟨a7, ga7, h⟩ := h
      refine z_getA X hW ga7 kX10 (by decide) (by decide) kf_X10_10 dX10_status_85 ?_
      replace h := b1_some h
      obtain ⟨q8, gq8, h⟩ := h
      replace h := b2_some h
      obtain ⟨x9, s10, gs10, h⟩ := h
      refine z_callVi (rest := []) X hW hS (cX6_sizeThere_met gs10) kb_X6_sizeThere kv_X6_sizeThere kl_X10_294 (it_v gq8).1 kX6 rfl rfl ⟨Nat.le_of_ble_eq_true rfl, Nat.le_of_ble_eq_true rfl⟩ rfl rfl (by decide) hl.1 dX10_status_88 ⟨(by decide), (by decide)⟩ (fun H locs hW hS => ?_)
      exact z_eti X hlk hr hW hS h (by decide) (by decide) dX10_status_91
    · replace h := it_f h c6
      by_cases c11 : v1 = 2
      · replace h := it_t h c11
        refine lv_tableIn (off := 64) (tgt := 92) hx hb dX10_status_28 (by rw [c11]; decide) (by rw [c11]; decide) (by rw [c11]; rfl) (by decide) ?_
        refine lv_aload_n hx hb dX10_status_92 rfl (lv_at hl 0 rfl) ?_
        replace h := b1_some h
        obtain ⟨a12, ga12, h⟩ := h
        refine z_getA X hW ga12 kX10 (by decide) (by decide) kf_X10_19 dX10_status_93 ?_
        replace h := b1_some h
        obtain ⟨q13, gq13, h⟩ := h
        replace h := b2_some h
        obtain ⟨x14, s15, gs15, h⟩ := h
        refine z_callVi (rest := []) X hW hS (cX2_size_met gs15) kb_X2_size kv_X2_size kl_X10_297 (it_v gq13).1 kX2 rfl rfl ⟨Nat.le_of_ble_eq_true rfl, Nat.le_of_ble_eq_true rfl⟩ rfl rfl (by decide) hl.1 dX10_status_96 ⟨(by decide), (by decide)⟩ (fun H locs hW hS => ?_)
        exact z_eti X hlk hr hW hS h (by decide) (by decide) dX10_status_99
      · replace h := it_f h c11
        by_cases c16 : v1 = 3
        · replace h := it_t h c16
          refine lv_tableIn (off := 72) (tgt := 100) hx hb dX10_status_28 (by rw [c16]; decide) (by rw [c16]; decide) (by rw [c16]; rfl) (by decide) ?_
          refine lv_aload_n hx hb dX10_status_100 rfl (lv_at hl 0 rfl) ?_
          replace h := b1_some h
          obtain ⟨a17, ga17, h⟩ := h
          refine z_getA X hW ga17 kX10 (by decide) (by decide) kf_X10_19 dX10_status_101 ?_
          replace h := b1_some h
          obtain ⟨q18, gq18, h⟩ := h
          replace h := b2_some h
          obtain ⟨x19, s20, gs20, h⟩ := h
          refine z_callVi (rest := []) X hW hS (cX2_sizeUnderWay_met gs20) kb_X2_sizeUnderWay kv_X2_sizeUnderWay kl_X10_298 (it_v gq18).1 kX2 rfl rfl ⟨Nat.le_of_ble_eq_true rfl, Nat.le_of_ble_eq_true rfl⟩ rfl rfl (by decide) hl.1 dX10_status_104 ⟨(by decide), (by decide)⟩ (fun H locs hW hS => ?_)
          exact z_eti X hlk hr hW hS h (by decide) (by decide) dX10_status_107
        · replace h := it_f h c16
          by_cases c21 : v1 = 4
          · replace h := it_t h c21
            refine lv_tableIn (off := 80) (tgt := 108) hx hb dX10_status_28 (by rw [c21]; decide) (by rw [c21]; decide) (by rw [c21]; rfl) (by decide) ?_
            refine lv_aload_n hx hb dX10_status_108 rfl (lv_at hl 0 rfl) ?_
            replace h := b1_some h
            obtain ⟨x22, gx22, h⟩ := h
            refine z_getI X hW gx22 kX10 (by decide) (by decide) kf_X10_63 dX10_status_109 ?_
            exact z_eti X hlk hr hW hS h (by decide) (by decide) dX10_status_112
          · replace h := it_f h c21
            by_cases c23 : v1 = 5
            · replace h := it_t h c23
              refine lv_tableIn (off := 85) (tgt := 113) hx hb dX10_status_28 (by rw [c23]; decide) (by rw [c23]; decide) (by rw [c23]; rfl) (by decide) ?_
              refine lv_aload_n hx hb dX10_status_113 rfl (lv_at hl 0 rfl) ?_
              replace h := b1_some h
              obtain ⟨a24, ga24, h⟩ := h
              refine z_getA X hW ga24 kX10 (by decide) (by decide) kf_X10_26 dX10_status_114 ?_
              replace h := b1_some h
              obtain ⟨q25, gq25, h⟩ := h
              replace h := b2_some h
              obtain ⟨x26, s27, gs27, h⟩ := h
              refine z_callVi (rest := []) X hW hS (cX7_size_met gs27) kb_X7_size kv_X7_size kl_X10_301 (it_v gq25).1 kX7 rfl rfl ⟨Nat.le_of_ble_eq_true rfl, Nat.le_of_ble_eq_true rfl⟩ rfl rfl (by decide) hl.1 dX10_status_117 ⟨(by decide), (by decide)⟩ (fun H locs hW hS => ?_)
              exact z_eti X hlk hr hW hS h (by decide) (by decide) dX10_status_120
            · replace h := it_f h c23
              by_cases c28 : v1 = 6
              · replace h := it_t h c28
                refine lv_tableIn (off := 93) (tgt := 121) hx hb dX10_status_28 (by rw [c28]; decide) (by rw [c28]; decide) (by rw [c28]; rfl) (by decide) ?_
                refine lv_aload_n hx hb dX10_status_121 rfl (lv_at hl 0 rfl) ?_
                replace h := b1_some h
                obtain ⟨x29, gx29, h⟩ := h
                refine z_getI X hW gx29 kX10 (by decide) (by decide) kf_X10_70 dX10_status_122 ?_
                exact z_eti X hlk hr hW hS h (by decide) (by decide) dX10_status_125
              · replace h := it_f h c28
                by_cases c30 : v1 = 7
                · replace h := it_t h c30
                  refine lv_tableIn (off := 98) (tgt := 126) hx hb dX10_status_28 (by rw [c30]; decide) (by rw [c30]; decide) (by rw [c30]; rfl) (by decide) ?_
                  refine lv_aload_n hx hb dX10_status_126 rfl (lv_at hl 0 rfl) ?_
                  replace h := b1_some h
                  obtain ⟨q31, gq31, h⟩ := h
                  replace h := b2_some h
                  obtain ⟨x32, s33, gs33, h⟩ := h
                  refine z_callVi (rest := []) X hW hS (cX10_sumOfCounts_met gs33) kb_X10_sumOfCounts kv_X10_sumOfCounts kl_X10_302 (it_v gq31).1 kX10 rfl rfl ⟨Nat.le_of_ble_eq_true rfl, Nat.le_of_ble_eq_true rfl⟩ rfl rfl (by decide) hl.1 dX10_status_127 ⟨(by decide), (by decide)⟩ (fun H locs hW hS => ?_)
                  exact z_eti X hlk hr hW hS h (by decide) (by decide) dX10_status_130
                · replace h := it_f h c30
                  have nc1 := lv_neT c1 (a := 0) rfl
                  have nc6 := lv_neT c6 (a := 1) rfl
                  have nc11 := lv_neT c11 (a := 2) rfl
                  have nc16 := lv_neT c16 (a := 3) rfl
                  have nc21 := lv_neT c21 (a := 4) rfl
                  have nc23 := lv_neT c23 (a := 5) rfl
                  have nc28 := lv_neT c28 (a := 6) rfl
                  have nc30 := lv_neT c30 (a := 7) rfl
                  refine lv_tableOut (tgt := 131) hx hb dX10_status_28 (by omega) (by decide) ?_
                  refine lv_iconst (v := (-1)) hx hb dX10_status_131 (by decide) ?_
                  exact z_eti X hlk hr hW hS h (by decide) (by decide) dX10_status_132

def fX10_status (o : Nat) (v1 : Int32) (h : Hz) : Option (Int32 × Hz) := (if v1 < 11 then fX10_status_27 o v1 h else (b1 (gA 10 5 o h) fun a2 => (b1 (xN 12 a2 h) fun x3 => (if x3 ≤ (v1 - 11) then fX10_status_27 o v1 h else (b1 (gA 10 5 o h) fun a5 => (b1 (xI 12 a5 (v1 - 11) h) fun x6 => some (x6, h)))))))
set_option maxHeartbeats 4000000 in
set_option maxRecDepth 100000 in
theorem wX10_status_0 {r0 : Int32} {h0 : Hz} (X : zX A D cy p s m args c cX10_status RX10 3) (hlk : meth.locks = false) (hr : meth.sig.returnType = (some .int)) (o : Nat) (v1 : Int32) (h : Hz) (H : Heap) (locs : List Loc) (ls : Array Slot) (hl : lv_has ls 3 [(0, .ref o), (1, .int v1)]) (hW : zW A cy D h H) (hS : va_S A s.heap H locs) (h : fX10_status o v1 h = some (r0, h0)) : W p l e ({ frames := 2, cells := 0, slots := 0, locals := 44 } : Room) s m args below meth c H locs 0 0 (MQ below (va_Qi (fun r1 u => r1 = r0 ∧ u = h0) (zB A D cy) A) args s 0 0 A) (F0 m 0 ls []) := by
  obtain ⟨hx, hb, hts, hown, hK9, hml, hN9, hA9⟩ := id X
  unfold fX10_status at h
  refine lv_iload_n hx hb dX10_status_0 rfl (lv_at hl 1 rfl) ?_
  refine lv_bipush (v := 11) hx hb dX10_status_1 (by decide) ?_
  refine lv_isub hx hb dX10_status_3 ?_
  refine lv_istore_n (lv' := [(2, .int (v1 - 11)), (0, .ref o), (1, .int v1)]) hx hb dX10_status_4 rfl hl (by decide) rfl (fun ls hl => ?_)
  refine lv_iload_n hx hb dX10_status_5 rfl (lv_at hl 2 rfl) ?_
  refine lv_bipush (v := 11) hx hb dX10_status_6 (by decide) ?_
  refine lv_icmp_lt (tgt := 27) hx hb dX10_status_8 (by decide) (fun c1 => ?_) (fun c1 => ?_)
  · replace h := it_t h c1
    exact wX10_status_27 X hlk hr o v1 _ _ _ _ (lv_sub hl [1, 2] rfl) hW hS h
  · replace h := it_f h c1
    refine lv_iload_n hx hb dX10_status_11 rfl (lv_at hl 0 rfl) ?_
    refine lv_aload_n hx hb dX10_status_12 rfl (lv_at hl 1 rfl) ?_
    replace h := b1_some h
    obtain ⟨a2, ga2, h⟩ := h
    refine z_getA X hW ga2 kX10 (by decide) (by decide) kf_X10_40 dX10_status_13 ?_
    replace h := b1_some h
    obtain ⟨x3, gx3, h⟩ := h
    refine z_alenI X hW gx3 dX10_status_16 ?_
    refine lv_icmp_ge (tgt := 27) hx hb dX10_status_17 (by decide) (fun c4 => ?_) (fun c4 => ?_)
    · replace h := it_t h c4
      exact wX10_status_27 X hlk hr o v1 _ _ _ _ (lv_sub hl [1, 2] rfl) hW hS h
    · replace h := it_f h c4
      refine lv_aload_n hx hb dX10_status_20 rfl (lv_at hl 1 rfl) ?_
      replace h := b1_some h
      obtain ⟨a5, ga5, h⟩ := h
      refine z_getA X hW ga5 kX10 (by decide) (by decide) kf_X10_40 dX10_status_21 ?_
      refine lv_iload_n hx hb dX10_status_24 rfl (lv_at hl 0 rfl) ?_
      replace h := b1_some h
      obtain ⟨x6, gx6, h⟩ := h
      refine z_aldI X hW gx6 dX10_status_25 ?_
      exact z_eti X hlk hr hW hS h (by decide) (by decide) dX10_status_26

set_option maxHeartbeats 4000000 in
set_option maxRecDepth 100000 in
theorem cX10_status_met {l : Launch} {A : Nat → Prop} {D : va_G} {cy : Nat → ClassId} {r0 : Int32} {h0 : Hz} {o : Nat} {v1 : Int32} {h : Hz} (g : fX10_status o v1 h = some (r0, h0)) : Met l yX10_status (Cond.code yX10_status cX10_status 3 (some .int) :: wT) ({ frames := 2, cells := 0, slots := 0, locals := 44 } : Room) (va_Pc [.ref o, .int v1] (zS A D cy h)) (va_Qi (fun r1 u => r1 = r0 ∧ u = h0) (zB A D cy) A) 0 0 A := by
  refine Met.ofW (cc := cX10_status) (maxL := 3) (ret := (some .int)) (by decide) rfl ?_
  intro p e s m args below meth c s₁ B hml hv
  obtain ⟨rfl, hW, hK, hN, hA⟩ := hv
  have X : zX A D cy p s m _ c cX10_status RX10 3 := ⟨B.exec, B.bytes, fun w hw => atoms_spec (ws := Cond.code yX10_status cX10_status 3 (some .int) :: wT) B.pre w (List.mem_cons_of_mem _ hw), findClass_of_methodNamed B.named, hK, hml, hN, hA⟩
  have hl := lv_entry [.ref o, .int v1] (n := 3) (Nat.le_of_ble_eq_true rfl)
  rw [lg_entry_eq]
  generalize (lg_sl [.ref o, .int v1] ++ List.replicate (3 - (lg_sl [.ref o, .int v1]).length) Slot.unset).toArray = ls at hl ⊢
  have hl : lv_has ls 3 [(0, .ref o), (1, .int v1)] := hl
  exact wX10_status_0 X B.notSynchronized B.returns o v1 _ _ _ _ (lv_sub hl [0, 1] rfl) hW va_S.rf g

end Z14_classd
