section Z12_modelc
variable {p : Program} {l : Launch} {e : Env} {s : State} {m : MethodId} {args : Array Value} {below : List Frame} {meth : Method} {c : Code} {A : Nat → Prop} {D : va_G} {cy : Nat → ClassId}
theorem dX11_takes_0 : decode cX11_takes 0 = .ok (.aload_n 0, 1) := by decide +kernel
theorem dX11_takes_1 : decode cX11_takes 1 = .ok (.getfield 22, 3) := by decide +kernel
theorem dX11_takes_4 : decode cX11_takes 4 = .ok (.iload_n 1, 1) := by decide +kernel
theorem dX11_takes_5 : decode cX11_takes 5 = .ok (.dup2, 1) := by decide +kernel
theorem dX11_takes_6 : decode cX11_takes 6 = .ok (.iaload, 1) := by decide +kernel
theorem dX11_takes_7 : decode cX11_takes 7 = .ok (.iload_n 2, 1) := by decide +kernel
theorem dX11_takes_8 : decode cX11_takes 8 = .ok (.isub, 1) := by decide +kernel
theorem dX11_takes_9 : decode cX11_takes 9 = .ok (.iastore, 1) := by decide +kernel
theorem dX11_takes_10 : decode cX11_takes 10 = .ok (.aload_n 0, 1) := by decide +kernel
theorem dX11_takes_11 : decode cX11_takes 11 = .ok (.getfield 22, 3) := by decide +kernel
theorem dX11_takes_14 : decode cX11_takes 14 = .ok (.iload_n 1, 1) := by decide +kernel
theorem dX11_takes_15 : decode cX11_takes 15 = .ok (.iaload, 1) := by decide +kernel
theorem dX11_takes_16 : decode cX11_takes 16 = .ok (.ifCond .ne 10, 3) := by decide +kernel
theorem dX11_takes_19 : decode cX11_takes 19 = .ok (.aload_n 0, 1) := by decide +kernel
theorem dX11_takes_20 : decode cX11_takes 20 = .ok (.getfield 35, 3) := by decide +kernel
theorem dX11_takes_23 : decode cX11_takes 23 = .ok (.iload_n 1, 1) := by decide +kernel
theorem dX11_takes_24 : decode cX11_takes 24 = .ok (.iconst 0, 1) := by decide +kernel
theorem dX11_takes_25 : decode cX11_takes 25 = .ok (.bastore, 1) := by decide +kernel
theorem dX11_takes_26 : decode cX11_takes 26 = .ok (.return_, 1) := by decide +kernel
def fX11_takes (o : Nat) (v1 : Int32) (v2 : Int32) (h : Hz) : Option (Unit × Hz) := (b1 (gA 11 4 o h) fun a1 => (b1 (xI 12 a1 v1 h) fun x2 => (b1 (yI a1 v1 (x2 - v2) h) fun s3 => (b1 (gA 11 4 o s3) fun a4 => (b1 (xI 12 a4 v1 s3) fun x5 => (if x5 = 0 then (b1 (gA 11 8 o s3) fun a7 => (b1 (yZ a7 v1 0 s3) fun s8 => some ((), s8))) else some ((), s3)))))))
set_option maxHeartbeats 4000000 in
set_option maxRecDepth 100000 in
theorem wX11_takes_0 {r0 : Unit} {h0 : Hz} (X : zX A D cy p s m args c cX11_takes RX11 3) (hlk : meth.locks = false) (hr : meth.sig.returnType = none) (o : Nat) (v1 : Int32) (v2 : Int32) (h : Hz) (H : Heap) (locs : List Loc) (ls : Array Slot) (hl : lv_has ls 3 [(0, .ref o), (1, .int v1), (2, .int v2)]) (hW : zW A cy D h H) (hS : va_S A s.heap H locs) (h : fX11_takes o v1 v2 h = some (r0, h0)) : W p l e ({ frames := 0, cells := 0, slots := 0, locals := 0 } : Room) s m args below meth c H locs 0 0 (MQ below (va_Qv (fun u => u = h0) (zB A D cy) A) args s 0 0 A) (F0 m 0 ls []) := by
  obtain ⟨hx, hb, hts, hown, hK9, hml, hN9, hA9⟩ := id X
  unfold fX11_takes at h
  refine lv_aload_n hx hb dX11_takes_0 rfl (lv_at hl 0 rfl) ?_
  replace h := b1_some h
  obtain ⟨a1, ga1, h⟩ := h
  refine z_getA X hW ga1 kX11 (by decide) (by decide) kf_X11_22 dX11_takes_1 ?_
  refine lv_iload_n hx hb dX11_takes_4 rfl (lv_at hl 1 rfl) ?_
  refine lv_dup2_11 hx hb dX11_takes_5 rfl rfl ?_
  replace h := b1_some h
  obtain ⟨x2, gx2, h⟩ := h
  refine z_aldI X hW gx2 dX11_takes_6 ?_
  refine lv_iload_n hx hb dX11_takes_7 rfl (lv_at hl 2 rfl) ?_
  refine lv_isub hx hb dX11_takes_8 ?_
  replace h := b1_some h
  obtain ⟨s3, gs3, h⟩ := h
  refine z_astI X hW hS gs3 dX11_takes_9 (fun H locs hW hS => ?_)
  refine lv_aload_n hx hb dX11_takes_10 rfl (lv_at hl 0 rfl) ?_
  replace h := b1_some h
  obtain ⟨a4, ga4, h⟩ := h
  refine z_getA X hW ga4 kX11 (by decide) (by decide) kf_X11_22 dX11_takes_11 ?_
  refine lv_iload_n hx hb dX11_takes_14 rfl (lv_at hl 1 rfl) ?_
  replace h := b1_some h
  obtain ⟨x5, gx5, h⟩ := h
  refine z_aldI X hW gx5 dX11_takes_15 ?_
  refine lv_if_ne (tgt := 26) hx hb dX11_takes_16 (by decide) (fun c6 => ?_) (fun c6 => ?_)
  · replace h := it_f h c6
    exact z_etv X hlk hr hW hS h (by decide) (by decide) dX11_takes_26
  · replace h := it_t h c6
    refine lv_aload_n hx hb dX11_takes_19 rfl (lv_at hl 0 rfl) ?_
    replace h := b1_some h
    obtain ⟨a7, ga7, h⟩ := h
    refine z_getA X hW ga7 kX11 (by decide) (by decide) kf_X11_35 dX11_takes_20 ?_
    refine lv_iload_n hx hb dX11_takes_23 rfl (lv_at hl 1 rfl) ?_
    refine lv_iconst (v := 0) hx hb dX11_takes_24 (by decide) ?_
    replace h := b1_some h
    obtain ⟨s8, gs8, h⟩ := h
    refine z_astZ X hW hS gs8 dX11_takes_25 (fun H locs hW hS => ?_)
    exact z_etv X hlk hr hW hS h (by decide) (by decide) dX11_takes_26

set_option maxHeartbeats 4000000 in
set_option maxRecDepth 100000 in
theorem cX11_takes_met {l : Launch} {A : Nat → Prop} {D : va_G} {cy : Nat → ClassId} {r0 : Unit} {h0 : Hz} {o : Nat} {v1 : Int32} {v2 : Int32} {h : Hz} (g : fX11_takes o v1 v2 h = some (r0, h0)) : Met l yX11_takes (Cond.code yX11_takes cX11_takes 3 none :: wT) ({ frames := 0, cells := 0, slots := 0, locals := 0 } : Room) (va_Pc [.ref o, .int v1, .int v2] (zS A D cy h)) (va_Qv (fun u => u = h0) (zB A D cy) A) 0 0 A := by
  refine Met.ofW (cc := cX11_takes) (maxL := 3) (ret := none) (by decide) rfl ?_
  intro p e s m args below meth c s₁ B hml hv
  obtain ⟨rfl, hW, hK, hN, hA⟩ := hv
  have X : zX A D cy p s m _ c cX11_takes RX11 3 := ⟨B.exec, B.bytes, fun w hw => atoms_spec (ws := Cond.code yX11_takes cX11_takes 3 none :: wT) B.pre w (List.mem_cons_of_mem _ hw), findClass_of_methodNamed B.named, hK, hml, hN, hA⟩
  have hl := lv_entry [.ref o, .int v1, .int v2] (n := 3) (Nat.le_of_ble_eq_true rfl)
  rw [lg_entry_eq]
  generalize (lg_sl [.ref o, .int v1, .int v2] ++ List.replicate (3 - (lg_sl [.ref o, .int v1, .int v2]).length) Slot.unset).toArray = ls at hl ⊢
  have hl : lv_has ls 3 [(0, .ref o), (1, .int v1), (2, .int v2)] := hl
  exact wX11_takes_0 X B.notSynchronized B.returns o v1 v2 _ _ _ _ (lv_sub hl [0, 1, 2] rfl) hW va_S.rf g

theorem dX11_gatesToMeet_0 : decode cX11_gatesToMeet 0 = .ok (.iconst 0, 1) := by decide +kernel
theorem dX11_gatesToMeet_1 : decode cX11_gatesToMeet 1 = .ok (.istore_n 3, 1) := by decide +kernel
theorem dX11_gatesToMeet_2 : decode cX11_gatesToMeet 2 = .ok (.iload_n 3, 1) := by decide +kernel
theorem dX11_gatesToMeet_3 : decode cX11_gatesToMeet 3 = .ok (.sipush 300, 3) := by decide +kernel
theorem dX11_gatesToMeet_6 : decode cX11_gatesToMeet 6 = .ok (.if_icmp .ge 16, 3) := by decide +kernel
theorem dX11_gatesToMeet_9 : decode cX11_gatesToMeet 9 = .ok (.aload_n 0, 1) := by decide +kernel
theorem dX11_gatesToMeet_10 : decode cX11_gatesToMeet 10 = .ok (.getfield 139, 3) := by decide +kernel
theorem dX11_gatesToMeet_13 : decode cX11_gatesToMeet 13 = .ok (.iload_n 3, 1) := by decide +kernel
theorem dX11_gatesToMeet_14 : decode cX11_gatesToMeet 14 = .ok (.iconst 0, 1) := by decide +kernel
theorem dX11_gatesToMeet_15 : decode cX11_gatesToMeet 15 = .ok (.bastore, 1) := by decide +kernel
theorem dX11_gatesToMeet_16 : decode cX11_gatesToMeet 16 = .ok (.iinc 3 1, 3) := by decide +kernel
theorem dX11_gatesToMeet_19 : decode cX11_gatesToMeet 19 = .ok (.goto (-17), 3) := by decide +kernel
theorem dX11_gatesToMeet_22 : decode cX11_gatesToMeet 22 = .ok (.aload_n 0, 1) := by decide +kernel
theorem dX11_gatesToMeet_23 : decode cX11_gatesToMeet 23 = .ok (.getfield 31, 3) := by decide +kernel
theorem dX11_gatesToMeet_26 : decode cX11_gatesToMeet 26 = .ok (.iload_n 2, 1) := by decide +kernel
theorem dX11_gatesToMeet_27 : decode cX11_gatesToMeet 27 = .ok (.baload, 1) := by decide +kernel
theorem dX11_gatesToMeet_28 : decode cX11_gatesToMeet 28 = .ok (.ifCond .ne 18, 3) := by decide +kernel
theorem dX11_gatesToMeet_31 : decode cX11_gatesToMeet 31 = .ok (.aload_n 0, 1) := by decide +kernel
theorem dX11_gatesToMeet_32 : decode cX11_gatesToMeet 32 = .ok (.getfield 124, 3) := by decide +kernel
theorem dX11_gatesToMeet_35 : decode cX11_gatesToMeet 35 = .ok (.sipush 300, 3) := by decide +kernel
theorem dX11_gatesToMeet_38 : decode cX11_gatesToMeet 38 = .ok (.iload_n 1, 1) := by decide +kernel
theorem dX11_gatesToMeet_39 : decode cX11_gatesToMeet 39 = .ok (.imul, 1) := by decide +kernel
theorem dX11_gatesToMeet_40 : decode cX11_gatesToMeet 40 = .ok (.iload_n 2, 1) := by decide +kernel
theorem dX11_gatesToMeet_41 : decode cX11_gatesToMeet 41 = .ok (.iadd, 1) := by decide +kernel
theorem dX11_gatesToMeet_42 : decode cX11_gatesToMeet 42 = .ok (.baload, 1) := by decide +kernel
theorem dX11_gatesToMeet_43 : decode cX11_gatesToMeet 43 = .ok (.ifCond .eq 5, 3) := by decide +kernel
theorem dX11_gatesToMeet_46 : decode cX11_gatesToMeet 46 = .ok (.iconst 0, 1) := by decide +kernel
theorem dX11_gatesToMeet_47 : decode cX11_gatesToMeet 47 = .ok (.ireturn, 1) := by decide +kernel
theorem dX11_gatesToMeet_48 : decode cX11_gatesToMeet 48 = .ok (.aload_n 0, 1) := by decide +kernel
theorem dX11_gatesToMeet_49 : decode cX11_gatesToMeet 49 = .ok (.invokevirtual 153, 3) := by decide +kernel
theorem dX11_gatesToMeet_52 : decode cX11_gatesToMeet 52 = .ok (.aload_n 0, 1) := by decide +kernel
theorem dX11_gatesToMeet_53 : decode cX11_gatesToMeet 53 = .ok (.iload_n 2, 1) := by decide +kernel
theorem dX11_gatesToMeet_54 : decode cX11_gatesToMeet 54 = .ok (.invokevirtual 156, 3) := by decide +kernel
theorem dX11_gatesToMeet_57 : decode cX11_gatesToMeet 57 = .ok (.iconst 0, 1) := by decide +kernel
theorem dX11_gatesToMeet_58 : decode cX11_gatesToMeet 58 = .ok (.istore_n 3, 1) := by decide +kernel
theorem dX11_gatesToMeet_59 : decode cX11_gatesToMeet 59 = .ok (.iconst 0, 1) := by decide +kernel
theorem dX11_gatesToMeet_60 : decode cX11_gatesToMeet 60 = .ok (.istore 4, 2) := by decide +kernel
theorem dX11_gatesToMeet_62 : decode cX11_gatesToMeet 62 = .ok (.iload 4, 2) := by decide +kernel
theorem dX11_gatesToMeet_64 : decode cX11_gatesToMeet 64 = .ok (.aload_n 0, 1) := by decide +kernel
theorem dX11_gatesToMeet_65 : decode cX11_gatesToMeet 65 = .ok (.getfield 145, 3) := by decide +kernel
theorem dX11_gatesToMeet_68 : decode cX11_gatesToMeet 68 = .ok (.if_icmp .ge 76, 3) := by decide +kernel
theorem dX11_gatesToMeet_71 : decode cX11_gatesToMeet 71 = .ok (.aload_n 0, 1) := by decide +kernel
theorem dX11_gatesToMeet_72 : decode cX11_gatesToMeet 72 = .ok (.getfield 139, 3) := by decide +kernel
theorem dX11_gatesToMeet_75 : decode cX11_gatesToMeet 75 = .ok (.iload 4, 2) := by decide +kernel
theorem dX11_gatesToMeet_77 : decode cX11_gatesToMeet 77 = .ok (.aload_n 0, 1) := by decide +kernel
theorem dX11_gatesToMeet_78 : decode cX11_gatesToMeet 78 = .ok (.getfield 100, 3) := by decide +kernel
theorem dX11_gatesToMeet_81 : decode cX11_gatesToMeet 81 = .ok (.iload 4, 2) := by decide +kernel
theorem dX11_gatesToMeet_83 : decode cX11_gatesToMeet 83 = .ok (.baload, 1) := by decide +kernel
theorem dX11_gatesToMeet_84 : decode cX11_gatesToMeet 84 = .ok (.ifCond .eq 34, 3) := by decide +kernel
theorem dX11_gatesToMeet_87 : decode cX11_gatesToMeet 87 = .ok (.aload_n 0, 1) := by decide +kernel
theorem dX11_gatesToMeet_88 : decode cX11_gatesToMeet 88 = .ok (.getfield 9, 3) := by decide +kernel
theorem dX11_gatesToMeet_91 : decode cX11_gatesToMeet 91 = .ok (.iload 4, 2) := by decide +kernel
theorem dX11_gatesToMeet_93 : decode cX11_gatesToMeet 93 = .ok (.iaload, 1) := by decide +kernel
theorem dX11_gatesToMeet_94 : decode cX11_gatesToMeet 94 = .ok (.iconst 3, 1) := by decide +kernel
theorem dX11_gatesToMeet_95 : decode cX11_gatesToMeet 95 = .ok (.if_icmp .ne 23, 3) := by decide +kernel
theorem dX11_gatesToMeet_98 : decode cX11_gatesToMeet 98 = .ok (.aload_n 0, 1) := by decide +kernel
theorem dX11_gatesToMeet_99 : decode cX11_gatesToMeet 99 = .ok (.getfield 124, 3) := by decide +kernel
theorem dX11_gatesToMeet_102 : decode cX11_gatesToMeet 102 = .ok (.sipush 300, 3) := by decide +kernel
theorem dX11_gatesToMeet_105 : decode cX11_gatesToMeet 105 = .ok (.iload_n 1, 1) := by decide +kernel
theorem dX11_gatesToMeet_106 : decode cX11_gatesToMeet 106 = .ok (.imul, 1) := by decide +kernel
theorem dX11_gatesToMeet_107 : decode cX11_gatesToMeet 107 = .ok (.iload 4, 2) := by decide +kernel
theorem dX11_gatesToMeet_109 : decode cX11_gatesToMeet 109 = .ok (.iadd, 1) := by decide +kernel
theorem dX11_gatesToMeet_110 : decode cX11_gatesToMeet 110 = .ok (.baload, 1) := by decide +kernel
theorem dX11_gatesToMeet_111 : decode cX11_gatesToMeet 111 = .ok (.ifCond .ne 7, 3) := by decide +kernel
theorem dX11_gatesToMeet_114 : decode cX11_gatesToMeet 114 = .ok (.iconst 1, 1) := by decide +kernel
theorem dX11_gatesToMeet_115 : decode cX11_gatesToMeet 115 = .ok (.goto 4, 3) := by decide +kernel
theorem dX11_gatesToMeet_118 : decode cX11_gatesToMeet 118 = .ok (.iconst 0, 1) := by decide +kernel
theorem dX11_gatesToMeet_119 : decode cX11_gatesToMeet 119 = .ok (.bastore, 1) := by decide +kernel
theorem dX11_gatesToMeet_120 : decode cX11_gatesToMeet 120 = .ok (.iload_n 3, 1) := by decide +kernel
theorem dX11_gatesToMeet_121 : decode cX11_gatesToMeet 121 = .ok (.aload_n 0, 1) := by decide +kernel
theorem dX11_gatesToMeet_122 : decode cX11_gatesToMeet 122 = .ok (.getfield 139, 3) := by decide +kernel
theorem dX11_gatesToMeet_125 : decode cX11_gatesToMeet 125 = .ok (.iload 4, 2) := by decide +kernel
theorem dX11_gatesToMeet_127 : decode cX11_gatesToMeet 127 = .ok (.baload, 1) := by decide +kernel
theorem dX11_gatesToMeet_128 : decode cX11_gatesToMeet 128 = .ok (.ifCond .eq 7, 3) := by decide +kernel
theorem dX11_gatesToMeet_131 : decode cX11_gatesToMeet 131 = .ok (.iconst 1, 1) := by decide +kernel
theorem dX11_gatesToMeet_132 : decode cX11_gatesToMeet 132 = .ok (.goto 4, 3) := by decide +kernel
theorem dX11_gatesToMeet_135 : decode cX11_gatesToMeet 135 = .ok (.iconst 0, 1) := by decide +kernel
theorem dX11_gatesToMeet_136 : decode cX11_gatesToMeet 136 = .ok (.iadd, 1) := by decide +kernel
theorem dX11_gatesToMeet_137 : decode cX11_gatesToMeet 137 = .ok (.istore_n 3, 1) := by decide +kernel
theorem dX11_gatesToMeet_138 : decode cX11_gatesToMeet 138 = .ok (.iinc 4 1, 3) := by decide +kernel
theorem dX11_gatesToMeet_141 : decode cX11_gatesToMeet 141 = .ok (.goto (-79), 3) := by decide +kernel
theorem dX11_gatesToMeet_144 : decode cX11_gatesToMeet 144 = .ok (.iload_n 3, 1) := by decide +kernel
theorem dX11_gatesToMeet_145 : decode cX11_gatesToMeet 145 = .ok (.ireturn, 1) := by decide +kernel
def fX11_gatesToMeet_119 (K62 : Nat → Int32 → Int32 → Int32 → Hz → Option (Int32 × Hz)) (o : Nat) (v1 : Int32) (v3 : Int32) (v4 : Int32) (w0 : Int32) (w1 : Int32) (w2 : Nat) (h : Hz) : Option (Int32 × Hz) := (b1 (yZ w2 w1 w0 h) fun s1 => (b1 (gA 11 48 o s1) fun a2 => (b1 (xI 14 a2 v4 s1) fun x3 => (if x3 = 0 then K62 o v1 (v3 + 0) (v4 + 1) s1 else K62 o v1 (v3 + 1) (v4 + 1) s1))))
set_option maxHeartbeats 4000000 in
set_option maxRecDepth 100000 in
theorem wX11_gatesToMeet_119 {r0 : Int32} {h0 : Hz} (X : zX A D cy p s m args c cX11_gatesToMeet RX11 5) (hlk : meth.locks = false) (hr : meth.sig.returnType = (some .int)) {K62 : Nat → Int32 → Int32 → Int32 → Hz → Option (Int32 × Hz)} (hK62 : ∀ (o : Nat) (u1 : Int32) (u3 : Int32) (u4 : Int32) (h : Hz) (H : Heap) (locs : List Loc) (ls : Array Slot), lv_has ls 5 [(0, .ref o), (1, .int u1), (3, .int u3), (4, .int u4)] → zW A cy D h H → va_S A s.heap H locs → K62 o u1 u3 u4 h = some (r0, h0) → W p l e ({ frames := 1, cells := 0, slots := 0, locals := 25 } : Room) s m args below meth c H locs 0 0 (MQ below (va_Qi (fun r1 u => r1 = r0 ∧ u = h0) (zB A D cy) A) args s 0 0 A) (F0 m 62 ls [])) (o : Nat) (v1 : Int32) (v3 : Int32) (v4 : Int32) (w0 : Int32) (w1 : Int32) (w2 : Nat) (h : Hz) (H : Heap) (locs : List Loc) (ls : Array Slot) (hl : lv_has ls 5 [(0, .ref o), (1, .int v1), (3, .int v3), (4, .int v4)]) (hW : zW A cy D h H) (hS : va_S A s.heap H locs) (h : fX11_gatesToMeet_119 K62 o v1 v3 v4 w0 w1 w2 h = some (r0, h0)) : W p l e ({ frames := 1, cells := 0, slots := 0, locals := 25 } : Room) s m args below meth c H locs 0 0 (MQ below (va_Qi (fun r1 u => r1 = r0 ∧ u = h0) (zB A D cy) A) args s 0 0 A) (F0 m 119 ls [.int w0, .int w1, .ref w2]) := by
  obtain ⟨hx, hb, hts, hown, hK9, hml, hN9, hA9⟩ := id X
  unfold fX11_gatesToMeet_119 at h
  replace h := b1_some h
  obtain ⟨s1, gs1, h⟩ := h
  refine z_astZ X hW hS gs1 dX11_gatesToMeet_119 (fun H locs hW hS => ?_)
  refine lv_iload_n hx hb dX11_gatesToMeet_120 rfl (lv_at hl 2 rfl) ?_
  refine lv_aload_n hx hb dX11_gatesToMeet_121 rfl (lv_at hl 0 rfl) ?_
  replace h := b1_some h
  obtain ⟨a2, ga2, h⟩ := h
  refine z_getA X hW ga2 kX11 (by decide) (by decide) kf_X11_139 dX11_gatesToMeet_122 ?_
  refine lv_iload hx hb dX11_gatesToMeet_125 (lv_at hl 3 rfl) ?_
  replace h := b1_some h
  obtain ⟨x3, gx3, h⟩ := h
  refine z_aldZ X hW gx3 dX11_gatesToMeet_127 ?_
  refine lv_if_eq (tgt := 135) hx hb dX11_gatesToMeet_128 (by decide) (fun c4 => ?_) (fun c4 => ?_)
  · replace h := it_t h c4
    refine lv_iconst (v := 0) hx hb dX11_gatesToMeet_135 (by decide) ?_
    refine lv_iadd hx hb dX11_gatesToMeet_136 ?_
    refine lv_istore_n (lv' := [(3, .int (v3 + 0)), (0, .ref o), (1, .int v1), (4, .int v4)]) hx hb dX11_gatesToMeet_137 rfl hl (by decide) rfl (fun ls hl => ?_)
    refine lv_iinc (v := (v4 + 1)) (lv' := [(4, .int (v4 + 1)), (3, .int (v3 + 0)), (0, .ref o), (1, .int v1)]) hx hb dX11_gatesToMeet_138 hl (k := 3) rfl rfl (by decide) rfl (fun ls hl => ?_)
    refine lv_goto (tgt := 62) hx hb dX11_gatesToMeet_141 (by decide) ?_
    exact hK62 o v1 (v3 + 0) (v4 + 1) _ _ _ _ (lv_sub hl [2, 3, 1, 0] rfl) hW hS h
  · replace h := it_f h c4
    refine lv_iconst (v := 1) hx hb dX11_gatesToMeet_131 (by decide) ?_
    refine lv_goto (tgt := 136) hx hb dX11_gatesToMeet_132 (by decide) ?_
    refine lv_iadd hx hb dX11_gatesToMeet_136 ?_
    refine lv_istore_n (lv' := [(3, .int (v3 + 1)), (0, .ref o), (1, .int v1), (4, .int v4)]) hx hb dX11_gatesToMeet_137 rfl hl (by decide) rfl (fun ls hl => ?_)
    refine lv_iinc (v := (v4 + 1)) (lv' := [(4, .int (v4 + 1)), (3, .int (v3 + 1)), (0, .ref o), (1, .int v1)]) hx hb dX11_gatesToMeet_138 hl (k := 3) rfl rfl (by decide) rfl (fun ls hl => ?_)
    refine lv_goto (tgt := 62) hx hb dX11_gatesToMeet_141 (by decide) ?_
    exact hK62 o v1 (v3 + 1) (v4 + 1) _ _ _ _ (lv_sub hl [2, 3, 1, 0] rfl) hW hS h

def fX11_gatesToMeet_118 (K62 : Nat → Int32 → Int32 → Int32 → Hz → Option (Int32 × Hz)) (o : Nat) (v1 : Int32) (v3 : Int32) (v4 : Int32) (w0 : Int32) (w1 : Nat) (h : Hz) : Option (Int32 × Hz) := fX11_gatesToMeet_119 K62 o v1 v3 v4 0 w0 w1 h
set_option maxHeartbeats 4000000 in
set_option maxRecDepth 100000 in
theorem wX11_gatesToMeet_118 {r0 : Int32} {h0 : Hz} (X : zX A D cy p s m args c cX11_gatesToMeet RX11 5) (hlk : meth.locks = false) (hr : meth.sig.returnType = (some .int)) {K62 : Nat → Int32 → Int32 → Int32 → Hz → Option (Int32 × Hz)} (hK62 : ∀ (o : Nat) (u1 : Int32) (u3 : Int32) (u4 : Int32) (h : Hz) (H : Heap) (locs : List Loc) (ls : Array Slot), lv_has ls 5 [(0, .ref o), (1, .int u1), (3, .int u3), (4, .int u4)] → zW A cy D h H → va_S A s.heap H locs → K62 o u1 u3 u4 h = some (r0, h0) → W p l e ({ frames := 1, cells := 0, slots := 0, locals := 25 } : Room) s m args below meth c H locs 0 0 (MQ below (va_Qi (fun r1 u => r1 = r0 ∧ u = h0) (zB A D cy) A) args s 0 0 A) (F0 m 62 ls [])) (o : Nat) (v1 : Int32) (v3 : Int32) (v4 : Int32) (w0 : Int32) (w1 : Nat) (h : Hz) (H : Heap) (locs : List Loc) (ls : Array Slot) (hl : lv_has ls 5 [(0, .ref o), (1, .int v1), (3, .int v3), (4, .int v4)]) (hW : zW A cy D h H) (hS : va_S A s.heap H locs) (h : fX11_gatesToMeet_118 K62 o v1 v3 v4 w0 w1 h = some (r0, h0)) : W p l e ({ frames := 1, cells := 0, slots := 0, locals := 25 } : Room) s m args below meth c H locs 0 0 (MQ below (va_Qi (fun r1 u => r1 = r0 ∧ u = h0) (zB A D cy) A) args s 0 0 A) (F0 m 118 ls [.int w0, .ref w1]) := by
  obtain ⟨hx, hb, hts, hown, hK9, hml, hN9, hA9⟩ := id X
  unfold fX11_gatesToMeet_118 at h
  refine lv_iconst (v := 0) hx hb dX11_gatesToMeet_118 (by decide) ?_
  exact wX11_gatesToMeet_119 X hlk hr hK62 o v1 v3 v4 0 w0 w1 _ _ _ _ (lv_sub hl [0, 1, 2, 3] rfl) hW hS h

def fX11_gatesToMeet_62 : Nat → Nat → Int32 → Int32 → Int32 → Hz → Option (Int32 × Hz)
  | 0, _, _, _, _, _ => none
  | n + 1, o, v1, v3, v4, h => (b1 (gI 11 9 o h) fun x1 => (if x1 ≤ v4 then some (v3, h) else (b1 (gA 11 48 o h) fun a3 => (b1 (gA 11 34 o h) fun a4 => (b1 (xI 14 a4 v4 h) fun x5 => (if x5 = 0 then fX11_gatesToMeet_118 (fX11_gatesToMeet_62 n) o v1 v3 v4 v4 a3 h else (b1 (gA 11 0 o h) fun a7 => (b1 (xI 12 a7 v4 h) fun x8 => (if x8 = 3 then (b1 (gA 11 42 o h) fun a10 => (b1 (xI 14 a10 ((300 * v1) + v4) h) fun x11 => (if x11 = 0 then fX11_gatesToMeet_119 (fX11_gatesToMeet_62 n) o v1 v3 v4 1 v4 a3 h else fX11_gatesToMeet_118 (fX11_gatesToMeet_62 n) o v1 v3 v4 v4 a3 h))) else fX11_gatesToMeet_118 (fX11_gatesToMeet_62 n) o v1 v3 v4 v4 a3 h)))))))))
set_option maxHeartbeats 4000000 in
set_option maxRecDepth 100000 in
theorem wX11_gatesToMeet_62 {r0 : Int32} {h0 : Hz} (X : zX A D cy p s m args c cX11_gatesToMeet RX11 5) (hlk : meth.locks = false) (hr : meth.sig.returnType = (some .int)) : ∀ (n : Nat) (o : Nat) (v1 : Int32) (v3 : Int32) (v4 : Int32) (h : Hz) (H : Heap) (locs : List Loc) (ls : Array Slot) (hl : lv_has ls 5 [(0, .ref o), (1, .int v1), (3, .int v3), (4, .int v4)]) (hW : zW A cy D h H) (hS : va_S A s.heap H locs) (h : fX11_gatesToMeet_62 n o v1 v3 v4 h = some (r0, h0)), W p l e ({ frames := 1, cells := 0, slots := 0, locals := 25 } : Room) s m args below meth c H locs 0 0 (MQ below (va_Qi (fun r1 u => r1 = r0 ∧ u = h0) (zB A D cy) A) args s 0 0 A) (F0 m 62 ls []) := by
  obtain ⟨hx, hb, hts, hown, hK9, hml, hN9, hA9⟩ := id X
  intro n
  induction n with
  | zero =>
    intro o v1 v3 v4 h H locs ls hl hW hS h
    rw [fX11_gatesToMeet_62] at h
    cases h
  | succ n ih =>
    intro o v1 v3 v4 h H locs ls hl hW hS h
    rw [fX11_gatesToMeet_62] at h
    refine lv_iload hx hb dX11_gatesToMeet_62 (lv_at hl 3 rfl) ?_
    refine lv_aload_n hx hb dX11_gatesToMeet_64 rfl (lv_at hl 0 rfl) ?_
    replace h := b1_some h
    obtain ⟨x1, gx1, h⟩ := h
    refine z_getI X hW gx1 kX11 (by decide) (by decide) kf_X11_145 dX11_gatesToMeet_65 ?_
    refine lv_icmp_ge (tgt := 144) hx hb dX11_gatesToMeet_68 (by decide) (fun c2 => ?_) (fun c2 => ?_)
    · replace h := it_t h c2
      refine lv_iload_n hx hb dX11_gatesToMeet_144 rfl (lv_at hl 2 rfl) ?_
      exact z_eti X hlk hr hW hS h (by decide) (by decide) dX11_gatesToMeet_145
    · replace h := it_f h c2
      refine lv_aload_n hx hb dX11_gatesToMeet_71 rfl (lv_at hl 0 rfl) ?_
      replace h := b1_some h
      obtain ⟨a3, ga3, h⟩ := h
      refine z_getA X hW ga3 kX11 (by decide) (by decide) kf_X11_139 dX11_gatesToMeet_72 ?_
      refine lv_iload hx hb dX11_gatesToMeet_75 (lv_at hl 3 rfl) ?_
      refine lv_aload_n hx hb dX11_gatesToMeet_77 rfl (lv_at hl 0 rfl) ?_
      replace h := b1_some h
      obtain ⟨a4, ga4, h⟩ := h
      refine z_getA X hW ga4 kX11 (by decide) (by decide) kf_X11_100 dX11_gatesToMeet_78 ?_
      refine lv_iload hx hb dX11_gatesToMeet_81 (lv_at hl 3 rfl) ?_
      replace h := b1_some h
      obtain ⟨x5, gx5, h⟩ := h
      refine z_aldZ X hW gx5 dX11_gatesToMeet_83 ?_
      refine lv_if_eq (tgt := 118) hx hb dX11_gatesToMeet_84 (by decide) (fun c6 => ?_) (fun c6 => ?_)
      · replace h := it_t h c6
        exact wX11_gatesToMeet_118 X hlk hr ih o v1 v3 v4 v4 a3 _ _ _ _ (lv_sub hl [0, 1, 2, 3] rfl) hW hS h
      · replace h := it_f h c6
        refine lv_aload_n hx hb dX11_gatesToMeet_87 rfl (lv_at hl 0 rfl) ?_
        replace h := b1_some h
        obtain ⟨a7, ga7, h⟩ := h
        refine z_getA X hW ga7 kX11 (by decide) (by decide) kf_X11_9 dX11_gatesToMeet_88 ?_
        refine lv_iload hx hb dX11_gatesToMeet_91 (lv_at hl 3 rfl) ?_
        replace h := b1_some h
        obtain ⟨x8, gx8, h⟩ := h
        refine z_aldI X hW gx8 dX11_gatesToMeet_93 ?_
        refine lv_iconst (v := 3) hx hb dX11_gatesToMeet_94 (by decide) ?_
        refine lv_icmp_ne (tgt := 118) hx hb dX11_gatesToMeet_95 (by decide) (fun c9 => ?_) (fun c9 => ?_)
        · replace h := it_f h c9
          exact wX11_gatesToMeet_118 X hlk hr ih o v1 v3 v4 v4 a3 _ _ _ _ (lv_sub hl [0, 1, 2, 3] rfl) hW hS h
        · replace h := it_t h c9
          refine lv_aload_n hx hb dX11_gatesToMeet_98 rfl (lv_at hl 0 rfl) ?_
          replace h := b1_some h
          obtain ⟨a10, ga10, h⟩ := h
          refine z_getA X hW ga10 kX11 (by decide) (by decide) kf_X11_124 dX11_gatesToMeet_99 ?_
          refine lv_sipush (v := 300) hx hb dX11_gatesToMeet_102 (by decide) ?_
          refine lv_iload_n hx hb dX11_gatesToMeet_105 rfl (lv_at hl 1 rfl) ?_
          refine lv_imul hx hb dX11_gatesToMeet_106 ?_
          refine lv_iload hx hb dX11_gatesToMeet_107 (lv_at hl 3 rfl) ?_
          refine lv_iadd hx hb dX11_gatesToMeet_109 ?_
          replace h := b1_some h
          obtain ⟨x11, gx11, h⟩ := h
          refine z_aldZ X hW gx11 dX11_gatesToMeet_110 ?_
          refine lv_if_ne (tgt := 118) hx hb dX11_gatesToMeet_111 (by decide) (fun c12 => ?_) (fun c12 => ?_)
          · replace h := it_f h c12
            exact wX11_gatesToMeet_118 X hlk hr ih o v1 v3 v4 v4 a3 _ _ _ _ (lv_sub hl [0, 1, 2, 3] rfl) hW hS h
          · replace h := it_t h c12
            refine lv_iconst (v := 1) hx hb dX11_gatesToMeet_114 (by decide) ?_
            refine lv_goto (tgt := 119) hx hb dX11_gatesToMeet_115 (by decide) ?_
            exact wX11_gatesToMeet_119 X hlk hr ih o v1 v3 v4 1 v4 a3 _ _ _ _ (lv_sub hl [0, 1, 2, 3] rfl) hW hS h

def fX11_gatesToMeet_2 : Nat → Nat → Int32 → Int32 → Int32 → Hz → Option (Int32 × Hz)
  | 0, _, _, _, _, _ => none
  | n + 1, o, v1, v2, v3, h => (if 300 ≤ v3 then (b1 (gA 11 7 o h) fun a2 => (b1 (xI 14 a2 v2 h) fun x3 => (if x3 = 0 then (b1 (gA 11 42 o h) fun a5 => (b1 (xI 14 a5 ((300 * v1) + v2) h) fun x6 => (if x6 = 0 then (b1 (tg 11 o h) fun _ => (b2 (fX11_noLeads o h) fun _ s10 => (b1 (tg 11 o s10) fun _ => (b2 (fX11_lead o v2 s10) fun _ s13 => fX11_gatesToMeet_62 100000 o v1 0 0 s13)))) else some (0, h)))) else some (0, h)))) else (b1 (gA 11 48 o h) fun a14 => (b1 (yZ a14 v3 0 h) fun s15 => fX11_gatesToMeet_2 n o v1 v2 (v3 + 1) s15)))
set_option maxHeartbeats 4000000 in
set_option maxRecDepth 100000 in
theorem wX11_gatesToMeet_2 {r0 : Int32} {h0 : Hz} (X : zX A D cy p s m args c cX11_gatesToMeet RX11 5) (hlk : meth.locks = false) (hr : meth.sig.returnType = (some .int)) : ∀ (n : Nat) (o : Nat) (v1 : Int32) (v2 : Int32) (v3 : Int32) (h : Hz) (H : Heap) (locs : List Loc) (ls : Array Slot) (hl : lv_has ls 5 [(0, .ref o), (1, .int v1), (2, .int v2), (3, .int v3)]) (hW : zW A cy D h H) (hS : va_S A s.heap H locs) (h : fX11_gatesToMeet_2 n o v1 v2 v3 h = some (r0, h0)), W p l e ({ frames := 1, cells := 0, slots := 0, locals := 25 } : Room) s m args below meth c H locs 0 0 (MQ below (va_Qi (fun r1 u => r1 = r0 ∧ u = h0) (zB A D cy) A) args s 0 0 A) (F0 m 2 ls []) := by
  obtain ⟨hx, hb, hts, hown, hK9, hml, hN9, hA9⟩ := id X
  intro n
  induction n with
  | zero =>
    intro o v1 v2 v3 h H locs ls hl hW hS h
    rw [fX11_gatesToMeet_2] at h
    cases h
  | succ n ih =>
    intro o v1 v2 v3 h H locs ls hl hW hS h
    rw [fX11_gatesToMeet_2] at h
    refine lv_iload_n hx hb dX11_gatesToMeet_2 rfl (lv_at hl 3 rfl) ?_
    refine lv_sipush (v := 300) hx hb dX11_gatesToMeet_3 (by decide) ?_
    refine lv_icmp_ge (tgt := 22) hx hb dX11_gatesToMeet_6 (by decide) (fun c1 => ?_) (fun c1 => ?_)
    · replace h := it_t h c1
      refine lv_aload_n hx hb dX11_gatesToMeet_22 rfl (lv_at hl 0 rfl) ?_
      replace h := b1_some h
      obtain ⟨a2, ga2, h⟩ := h
      refine z_getA X hW ga2 kX11 (by decide) (by decide) kf_X11_31 dX11_gatesToMeet_23 ?_
      refine lv_iload_n hx hb dX11_gatesToMeet_26 rfl (lv_at hl 2 rfl) ?_
      replace h := b1_some h
      obtain ⟨x3, gx3, h⟩ := h
      refine z_aldZ X hW gx3 dX11_gatesToMeet_27 ?_
      refine lv_if_ne (tgt := 46) hx hb dX11_gatesToMeet_28 (by decide) (fun c4 => ?_) (fun c4 => ?_)
      · replace h := it_f h c4
        refine lv_iconst (v := 0) hx hb dX11_gatesToMeet_46 (by decide) ?_
        exact z_eti X hlk hr hW hS h (by decide) (by decide) dX11_gatesToMeet_47
      · replace h := it_t h c4
        refine lv_aload_n hx hb dX11_gatesToMeet_31 rfl (lv_at hl 0 rfl) ?_
        replace h := b1_some h
        obtain ⟨a5, ga5, h⟩ := h
        refine z_getA X hW ga5 kX11 (by decide) (by decide) kf_X11_124 dX11_gatesToMeet_32 ?_
        refine lv_sipush (v := 300) hx hb dX11_gatesToMeet_35 (by decide) ?_
        refine lv_iload_n hx hb dX11_gatesToMeet_38 rfl (lv_at hl 1 rfl) ?_
        refine lv_imul hx hb dX11_gatesToMeet_39 ?_
        refine lv_iload_n hx hb dX11_gatesToMeet_40 rfl (lv_at hl 2 rfl) ?_
        refine lv_iadd hx hb dX11_gatesToMeet_41 ?_
        replace h := b1_some h
        obtain ⟨x6, gx6, h⟩ := h
        refine z_aldZ X hW gx6 dX11_gatesToMeet_42 ?_
        refine lv_if_eq (tgt := 48) hx hb dX11_gatesToMeet_43 (by decide) (fun c7 => ?_) (fun c7 => ?_)
        · replace h := it_t h c7
          refine lv_aload_n hx hb dX11_gatesToMeet_48 rfl (lv_at hl 0 rfl) ?_
          replace h := b1_some h
          obtain ⟨q8, gq8, h⟩ := h
          replace h := b2_some h
          obtain ⟨_ur9, s10, gs10, h⟩ := h
          refine z_callVv (rest := []) X hW hS (cX11_noLeads_met gs10) kb_X11_noLeads kv_X11_noLeads kl_X11_153 (it_v gq8).1 kX11 rfl rfl ⟨Nat.le_of_ble_eq_true rfl, Nat.le_of_ble_eq_true rfl⟩ rfl rfl (by decide) hl.1 dX11_gatesToMeet_49 ⟨(by decide), (by decide)⟩ (fun H locs hW hS => ?_)
          refine lv_aload_n hx hb dX11_gatesToMeet_52 rfl (lv_at hl 0 rfl) ?_
          refine lv_iload_n hx hb dX11_gatesToMeet_53 rfl (lv_at hl 2 rfl) ?_
          replace h := b1_some h
          obtain ⟨q11, gq11, h⟩ := h
          replace h := b2_some h
          obtain ⟨_ur12, s13, gs13, h⟩ := h
          refine z_callVv (rest := []) X hW hS (cX11_lead_met gs13) kb_X11_lead kv_X11_lead kl_X11_156 (it_v gq11).1 kX11 rfl rfl ⟨Nat.le_of_ble_eq_true rfl, Nat.le_of_ble_eq_true rfl⟩ rfl rfl (by decide) hl.1 dX11_gatesToMeet_54 ⟨(by decide), (by decide)⟩ (fun H locs hW hS => ?_)
          refine lv_iconst (v := 0) hx hb dX11_gatesToMeet_57 (by decide) ?_
          refine lv_istore_n (lv' := [(3, .int 0), (0, .ref o), (1, .int v1), (2, .int v2)]) hx hb dX11_gatesToMeet_58 rfl hl (by decide) rfl (fun ls hl => ?_)
          refine lv_iconst (v := 0) hx hb dX11_gatesToMeet_59 (by decide) ?_
          refine lv_istore (lv' := [(4, .int 0), (3, .int 0), (0, .ref o), (1, .int v1), (2, .int v2)]) hx hb dX11_gatesToMeet_60 hl (by decide) rfl (fun ls hl => ?_)
          exact wX11_gatesToMeet_62 X hlk hr _ o v1 0 0 _ _ _ _ (lv_sub hl [2, 3, 1, 0] rfl) hW hS h
        · replace h := it_f h c7
          refine lv_iconst (v := 0) hx hb dX11_gatesToMeet_46 (by decide) ?_
          exact z_eti X hlk hr hW hS h (by decide) (by decide) dX11_gatesToMeet_47
    · replace h := it_f h c1
      refine lv_aload_n hx hb dX11_gatesToMeet_9 rfl (lv_at hl 0 rfl) ?_
      replace h := b1_some h
      obtain ⟨a14, ga14, h⟩ := h
      refine z_getA X hW ga14 kX11 (by decide) (by decide) kf_X11_139 dX11_gatesToMeet_10 ?_
      refine lv_iload_n hx hb dX11_gatesToMeet_13 rfl (lv_at hl 3 rfl) ?_
      refine lv_iconst (v := 0) hx hb dX11_gatesToMeet_14 (by decide) ?_
      replace h := b1_some h
      obtain ⟨s15, gs15, h⟩ := h
      refine z_astZ X hW hS gs15 dX11_gatesToMeet_15 (fun H locs hW hS => ?_)
      refine lv_iinc (v := (v3 + 1)) (lv' := [(3, .int (v3 + 1)), (0, .ref o), (1, .int v1), (2, .int v2)]) hx hb dX11_gatesToMeet_16 hl (k := 3) rfl rfl (by decide) rfl (fun ls hl => ?_)
      refine lv_goto (tgt := 2) hx hb dX11_gatesToMeet_19 (by decide) ?_
      exact ih o v1 v2 (v3 + 1) _ _ _ _ (lv_sub hl [1, 2, 3, 0] rfl) hW hS h

def fX11_gatesToMeet (o : Nat) (v1 : Int32) (v2 : Int32) (h : Hz) : Option (Int32 × Hz) := fX11_gatesToMeet_2 100000 o v1 v2 0 h
set_option maxHeartbeats 4000000 in
set_option maxRecDepth 100000 in
theorem wX11_gatesToMeet_0 {r0 : Int32} {h0 : Hz} (X : zX A D cy p s m args c cX11_gatesToMeet RX11 5) (hlk : meth.locks = false) (hr : meth.sig.returnType = (some .int)) (o : Nat) (v1 : Int32) (v2 : Int32) (h : Hz) (H : Heap) (locs : List Loc) (ls : Array Slot) (hl : lv_has ls 5 [(0, .ref o), (1, .int v1), (2, .int v2)]) (hW : zW A cy D h H) (hS : va_S A s.heap H locs) (h : fX11_gatesToMeet o v1 v2 h = some (r0, h0)) : W p l e ({ frames := 1, cells := 0, slots := 0, locals := 25 } : Room) s m args below meth c H locs 0 0 (MQ below (va_Qi (fun r1 u => r1 = r0 ∧ u = h0) (zB A D cy) A) args s 0 0 A) (F0 m 0 ls []) := by
  obtain ⟨hx, hb, hts, hown, hK9, hml, hN9, hA9⟩ := id X
  unfold fX11_gatesToMeet at h
  refine lv_iconst (v := 0) hx hb dX11_gatesToMeet_0 (by decide) ?_
  refine lv_istore_n (lv' := [(3, .int 0), (0, .ref o), (1, .int v1), (2, .int v2)]) hx hb dX11_gatesToMeet_1 rfl hl (by decide) rfl (fun ls hl => ?_)
  exact wX11_gatesToMeet_2 X hlk hr _ o v1 v2 0 _ _ _ _ (lv_sub hl [1, 2, 3, 0] rfl) hW hS h

set_option maxHeartbeats 4000000 in
set_option maxRecDepth 100000 in
theorem cX11_gatesToMeet_met {l : Launch} {A : Nat → Prop} {D : va_G} {cy : Nat → ClassId} {r0 : Int32} {h0 : Hz} {o : Nat} {v1 : Int32} {v2 : Int32} {h : Hz} (g : fX11_gatesToMeet o v1 v2 h = some (r0, h0)) : Met l yX11_gatesToMeet (Cond.code yX11_gatesToMeet cX11_gatesToMeet 5 (some .int) :: wT) ({ frames := 1, cells := 0, slots := 0, locals := 25 } : Room) (va_Pc [.ref o, .int v1, .int v2] (zS A D cy h)) (va_Qi (fun r1 u => r1 = r0 ∧ u = h0) (zB A D cy) A) 0 0 A := by
  refine Met.ofW (cc := cX11_gatesToMeet) (maxL := 5) (ret := (some .int)) (by decide) rfl ?_
  intro p e s m args below meth c s₁ B hml hv
  obtain ⟨rfl, hW, hK, hN, hA⟩ := hv
  have X : zX A D cy p s m _ c cX11_gatesToMeet RX11 5 := ⟨B.exec, B.bytes, fun w hw => atoms_spec (ws := Cond.code yX11_gatesToMeet cX11_gatesToMeet 5 (some .int) :: wT) B.pre w (List.mem_cons_of_mem _ hw), findClass_of_methodNamed B.named, hK, hml, hN, hA⟩
  have hl := lv_entry [.ref o, .int v1, .int v2] (n := 5) (Nat.le_of_ble_eq_true rfl)
  rw [lg_entry_eq]
  generalize (lg_sl [.ref o, .int v1, .int v2] ++ List.replicate (5 - (lg_sl [.ref o, .int v1, .int v2]).length) Slot.unset).toArray = ls at hl ⊢
  have hl : lv_has ls 5 [(0, .ref o), (1, .int v1), (2, .int v2)] := hl
  exact wX11_gatesToMeet_0 X B.notSynchronized B.returns o v1 v2 _ _ _ _ (lv_sub hl [0, 1, 2] rfl) hW va_S.rf g

theorem dX11_sends_0 : decode cX11_sends 0 = .ok (.aload_n 0, 1) := by decide +kernel
theorem dX11_sends_1 : decode cX11_sends 1 = .ok (.getfield 52, 3) := by decide +kernel
theorem dX11_sends_4 : decode cX11_sends 4 = .ok (.iload_n 1, 1) := by decide +kernel
theorem dX11_sends_5 : decode cX11_sends 5 = .ok (.iaload, 1) := by decide +kernel
theorem dX11_sends_6 : decode cX11_sends 6 = .ok (.iconst 1, 1) := by decide +kernel
theorem dX11_sends_7 : decode cX11_sends 7 = .ok (.if_icmp .eq 13, 3) := by decide +kernel
theorem dX11_sends_10 : decode cX11_sends 10 = .ok (.aload_n 0, 1) := by decide +kernel
theorem dX11_sends_11 : decode cX11_sends 11 = .ok (.getfield 52, 3) := by decide +kernel
theorem dX11_sends_14 : decode cX11_sends 14 = .ok (.iload_n 1, 1) := by decide +kernel
theorem dX11_sends_15 : decode cX11_sends 15 = .ok (.iaload, 1) := by decide +kernel
theorem dX11_sends_16 : decode cX11_sends 16 = .ok (.iconst 2, 1) := by decide +kernel
theorem dX11_sends_17 : decode cX11_sends 17 = .ok (.if_icmp .ne 5, 3) := by decide +kernel
theorem dX11_sends_20 : decode cX11_sends 20 = .ok (.iconst 1, 1) := by decide +kernel
theorem dX11_sends_21 : decode cX11_sends 21 = .ok (.ireturn, 1) := by decide +kernel
theorem dX11_sends_22 : decode cX11_sends 22 = .ok (.aload_n 0, 1) := by decide +kernel
theorem dX11_sends_23 : decode cX11_sends 23 = .ok (.getfield 52, 3) := by decide +kernel
theorem dX11_sends_26 : decode cX11_sends 26 = .ok (.iload_n 1, 1) := by decide +kernel
theorem dX11_sends_27 : decode cX11_sends 27 = .ok (.iaload, 1) := by decide +kernel
theorem dX11_sends_28 : decode cX11_sends 28 = .ok (.iconst 4, 1) := by decide +kernel
theorem dX11_sends_29 : decode cX11_sends 29 = .ok (.if_icmp .ne 17, 3) := by decide +kernel
theorem dX11_sends_32 : decode cX11_sends 32 = .ok (.aload_n 0, 1) := by decide +kernel
theorem dX11_sends_33 : decode cX11_sends 33 = .ok (.getfield 109, 3) := by decide +kernel
theorem dX11_sends_36 : decode cX11_sends 36 = .ok (.aload_n 0, 1) := by decide +kernel
theorem dX11_sends_37 : decode cX11_sends 37 = .ok (.getfield 73, 3) := by decide +kernel
theorem dX11_sends_40 : decode cX11_sends 40 = .ok (.iload_n 1, 1) := by decide +kernel
theorem dX11_sends_41 : decode cX11_sends 41 = .ok (.iaload, 1) := by decide +kernel
theorem dX11_sends_42 : decode cX11_sends 42 = .ok (.iaload, 1) := by decide +kernel
theorem dX11_sends_43 : decode cX11_sends 43 = .ok (.ifCond .eq 5, 3) := by decide +kernel
theorem dX11_sends_46 : decode cX11_sends 46 = .ok (.iconst 0, 1) := by decide +kernel
theorem dX11_sends_47 : decode cX11_sends 47 = .ok (.ireturn, 1) := by decide +kernel
theorem dX11_sends_48 : decode cX11_sends 48 = .ok (.iconst 1, 1) := by decide +kernel
theorem dX11_sends_49 : decode cX11_sends 49 = .ok (.aload_n 0, 1) := by decide +kernel
theorem dX11_sends_50 : decode cX11_sends 50 = .ok (.aload_n 0, 1) := by decide +kernel
theorem dX11_sends_51 : decode cX11_sends 51 = .ok (.getfield 73, 3) := by decide +kernel
theorem dX11_sends_54 : decode cX11_sends 54 = .ok (.iload_n 1, 1) := by decide +kernel
theorem dX11_sends_55 : decode cX11_sends 55 = .ok (.iaload, 1) := by decide +kernel
theorem dX11_sends_56 : decode cX11_sends 56 = .ok (.aload_n 0, 1) := by decide +kernel
theorem dX11_sends_57 : decode cX11_sends 57 = .ok (.getfield 61, 3) := by decide +kernel
theorem dX11_sends_60 : decode cX11_sends 60 = .ok (.iload_n 1, 1) := by decide +kernel
theorem dX11_sends_61 : decode cX11_sends 61 = .ok (.iaload, 1) := by decide +kernel
theorem dX11_sends_62 : decode cX11_sends 62 = .ok (.invokevirtual 212, 3) := by decide +kernel
theorem dX11_sends_65 : decode cX11_sends 65 = .ok (.iadd, 1) := by decide +kernel
theorem dX11_sends_66 : decode cX11_sends 66 = .ok (.ireturn, 1) := by decide +kernel
def fX11_sends (o : Nat) (v1 : Int32) (h : Hz) : Option (Int32 × Hz) := (b1 (gA 11 14 o h) fun a1 => (b1 (xI 12 a1 v1 h) fun x2 => (if x2 = 1 then some (1, h) else (b1 (gA 11 14 o h) fun a4 => (b1 (xI 12 a4 v1 h) fun x5 => (if x5 = 2 then some (1, h) else (b1 (gA 11 14 o h) fun a7 => (b1 (xI 12 a7 v1 h) fun x8 => (if x8 = 4 then (b1 (gA 11 37 o h) fun a10 => (b1 (gA 11 21 o h) fun a11 => (b1 (xI 12 a11 v1 h) fun x12 => (b1 (xI 12 a10 x12 h) fun x13 => (if x13 = 0 then (b1 (gA 11 21 o h) fun a15 => (b1 (xI 12 a15 v1 h) fun x16 => (b1 (gA 11 17 o h) fun a17 => (b1 (xI 12 a17 v1 h) fun x18 => (b1 (tg 11 o h) fun _ => (b2 (fX11_gatesToMeet o x16 x18 h) fun x20 s21 => some ((1 + x20), s21))))))) else some (0, h)))))) else some (0, h))))))))))
set_option maxHeartbeats 4000000 in
set_option maxRecDepth 100000 in
theorem wX11_sends_0 {r0 : Int32} {h0 : Hz} (X : zX A D cy p s m args c cX11_sends RX11 2) (hlk : meth.locks = false) (hr : meth.sig.returnType = (some .int)) (o : Nat) (v1 : Int32) (h : Hz) (H : Heap) (locs : List Loc) (ls : Array Slot) (hl : lv_has ls 2 [(0, .ref o), (1, .int v1)]) (hW : zW A cy D h H) (hS : va_S A s.heap H locs) (h : fX11_sends o v1 h = some (r0, h0)) : W p l e ({ frames := 2, cells := 0, slots := 0, locals := 49 } : Room) s m args below meth c H locs 0 0 (MQ below (va_Qi (fun r1 u => r1 = r0 ∧ u = h0) (zB A D cy) A) args s 0 0 A) (F0 m 0 ls []) := by
  obtain ⟨hx, hb, hts, hown, hK9, hml, hN9, hA9⟩ := id X
  unfold fX11_sends at h
  refine lv_aload_n hx hb dX11_sends_0 rfl (lv_at hl 0 rfl) ?_
  replace h := b1_some h
  obtain ⟨a1, ga1, h⟩ := h
  refine z_getA X hW ga1 kX11 (by decide) (by decide) kf_X11_52 dX11_sends_1 ?_
  refine lv_iload_n hx hb dX11_sends_4 rfl (lv_at hl 1 rfl) ?_
  replace h := b1_some h
  obtain ⟨x2, gx2, h⟩ := h
  refine z_aldI X hW gx2 dX11_sends_5 ?_
  refine lv_iconst (v := 1) hx hb dX11_sends_6 (by decide) ?_
  refine lv_icmp_eq (tgt := 20) hx hb dX11_sends_7 (by decide) (fun c3 => ?_) (fun c3 => ?_)
  · replace h := it_t h c3
    refine lv_iconst (v := 1) hx hb dX11_sends_20 (by decide) ?_
    exact z_eti X hlk hr hW hS h (by decide) (by decide) dX11_sends_21
  · replace h := it_f h c3
    refine lv_aload_n hx hb dX11_sends_10 rfl (lv_at hl 0 rfl) ?_
    replace h := b1_some h
    obtain ⟨a4, ga4, h⟩ := h
    refine z_getA X hW ga4 kX11 (by decide) (by decide) kf_X11_52 dX11_sends_11 ?_
    refine lv_iload_n hx hb dX11_sends_14 rfl (lv_at hl 1 rfl) ?_
    replace h := b1_some h
    obtain ⟨x5, gx5, h⟩ := h
    refine z_aldI X hW gx5 dX11_sends_15 ?_
    refine lv_iconst (v := 2) hx hb dX11_sends_16 (by decide) ?_
    refine lv_icmp_ne (tgt := 22) hx hb dX11_sends_17 (by decide) (fun c6 => ?_) (fun c6 => ?_)
    · replace h := it_f h c6
      refine lv_aload_n hx hb dX11_sends_22 rfl (lv_at hl 0 rfl) ?_
      replace h := b1_some h
      obtain ⟨a7, ga7, h⟩ := h
      refine z_getA X hW ga7 kX11 (by decide) (by decide) kf_X11_52 dX11_sends_23 ?_
      refine lv_iload_n hx hb dX11_sends_26 rfl (lv_at hl 1 rfl) ?_
      replace h := b1_some h
      obtain ⟨x8, gx8, h⟩ := h
      refine z_aldI X hW gx8 dX11_sends_27 ?_
      refine lv_iconst (v := 4) hx hb dX11_sends_28 (by decide) ?_
      refine lv_icmp_ne (tgt := 46) hx hb dX11_sends_29 (by decide) (fun c9 => ?_) (fun c9 => ?_)
      · replace h := it_f h c9
        refine lv_iconst (v := 0) hx hb dX11_sends_46 (by decide) ?_
        exact z_eti X hlk hr hW hS h (by decide) (by decide) dX11_sends_47
      · replace h := it_t h c9
        refine lv_aload_n hx hb dX11_sends_32 rfl (lv_at hl 0 rfl) ?_
        replace h := b1_some h
        obtain ⟨a10, ga10, h⟩ := h
        refine z_getA X hW ga10 kX11 (by decide) (by decide) kf_X11_109 dX11_sends_33 ?_
        refine lv_aload_n hx hb dX11_sends_36 rfl (lv_at hl 0 rfl) ?_
        replace h := b1_some h
        obtain ⟨a11, ga11, h⟩ := h
        refine z_getA X hW ga11 kX11 (by decide) (by decide) kf_X11_73 dX11_sends_37 ?_
        refine lv_iload_n hx hb dX11_sends_40 rfl (lv_at hl 1 rfl) ?_
        replace h := b1_some h
        obtain ⟨x12, gx12, h⟩ := h
        refine z_aldI X hW gx12 dX11_sends_41 ?_
        replace h := b1_some h
        obtain ⟨x13, gx13, h⟩ := h
        refine z_aldI X hW gx13 dX11_sends_42 ?_
        refine lv_if_eq (tgt := 48) hx hb dX11_sends_43 (by decide) (fun c14 => ?_) (fun c14 => ?_)
        · replace h := it_t h c14
          refine lv_iconst (v := 1) hx hb dX11_sends_48 (by decide) ?_
          refine lv_aload_n hx hb dX11_sends_49 rfl (lv_at hl 0 rfl) ?_
          refine lv_aload_n hx hb dX11_sends_50 rfl (lv_at hl 0 rfl) ?_
          replace h := b1_some h
          obtain ⟨a15, ga15, h⟩ := h
          refine z_getA X hW ga15 kX11 (by decide) (by decide) kf_X11_73 dX11_sends_51 ?_
          refine lv_iload_n hx hb dX11_sends_54 rfl (lv_at hl 1 rfl) ?_
          replace h := b1_some h
          obtain ⟨x16, gx16, h⟩ := h
          refine z_aldI X hW gx16 dX11_sends_55 ?_
          refine lv_aload_n hx hb dX11_sends_56 rfl (lv_at hl 0 rfl) ?_
          replace h := b1_some h
          obtain ⟨a17, ga17, h⟩ := h
          refine z_getA X hW ga17 kX11 (by decide) (by decide) kf_X11_61 dX11_sends_57 ?_
          refine lv_iload_n hx hb dX11_sends_60 rfl (lv_at hl 1 rfl) ?_
          replace h := b1_some h
          obtain ⟨x18, gx18, h⟩ := h
          refine z_aldI X hW gx18 dX11_sends_61 ?_
          replace h := b1_some h
          obtain ⟨q19, gq19, h⟩ := h
          replace h := b2_some h
          obtain ⟨x20, s21, gs21, h⟩ := h
          refine z_callVi (rest := [.int 1]) X hW hS (cX11_gatesToMeet_met gs21) kb_X11_gatesToMeet kv_X11_gatesToMeet kl_X11_212 (it_v gq19).1 kX11 rfl rfl ⟨Nat.le_of_ble_eq_true rfl, Nat.le_of_ble_eq_true rfl⟩ rfl rfl (Nat.le_of_ble_eq_true rfl) hl.1 dX11_sends_62 ⟨(by decide), (by decide)⟩ (fun H locs hW hS => ?_)
          refine lv_iadd hx hb dX11_sends_65 ?_
          exact z_eti X hlk hr hW hS h (by decide) (by decide) dX11_sends_66
        · replace h := it_f h c14
          refine lv_iconst (v := 0) hx hb dX11_sends_46 (by decide) ?_
          exact z_eti X hlk hr hW hS h (by decide) (by decide) dX11_sends_47
    · replace h := it_t h c6
      refine lv_iconst (v := 1) hx hb dX11_sends_20 (by decide) ?_
      exact z_eti X hlk hr hW hS h (by decide) (by decide) dX11_sends_21

set_option maxHeartbeats 4000000 in
set_option maxRecDepth 100000 in
theorem cX11_sends_met {l : Launch} {A : Nat → Prop} {D : va_G} {cy : Nat → ClassId} {r0 : Int32} {h0 : Hz} {o : Nat} {v1 : Int32} {h : Hz} (g : fX11_sends o v1 h = some (r0, h0)) : Met l yX11_sends (Cond.code yX11_sends cX11_sends 2 (some .int) :: wT) ({ frames := 2, cells := 0, slots := 0, locals := 49 } : Room) (va_Pc [.ref o, .int v1] (zS A D cy h)) (va_Qi (fun r1 u => r1 = r0 ∧ u = h0) (zB A D cy) A) 0 0 A := by
  refine Met.ofW (cc := cX11_sends) (maxL := 2) (ret := (some .int)) (by decide) rfl ?_
  intro p e s m args below meth c s₁ B hml hv
  obtain ⟨rfl, hW, hK, hN, hA⟩ := hv
  have X : zX A D cy p s m _ c cX11_sends RX11 2 := ⟨B.exec, B.bytes, fun w hw => atoms_spec (ws := Cond.code yX11_sends cX11_sends 2 (some .int) :: wT) B.pre w (List.mem_cons_of_mem _ hw), findClass_of_methodNamed B.named, hK, hml, hN, hA⟩
  have hl := lv_entry [.ref o, .int v1] (n := 2) (Nat.le_of_ble_eq_true rfl)
  rw [lg_entry_eq]
  generalize (lg_sl [.ref o, .int v1] ++ List.replicate (2 - (lg_sl [.ref o, .int v1]).length) Slot.unset).toArray = ls at hl ⊢
  have hl : lv_has ls 2 [(0, .ref o), (1, .int v1)] := hl
  exact wX11_sends_0 X B.notSynchronized B.returns o v1 _ _ _ _ (lv_sub hl [0, 1] rfl) hW va_S.rf g

theorem dX11_isHeld_0 : decode cX11_isHeld 0 = .ok (.iconst 0, 1) := by decide +kernel
theorem dX11_isHeld_1 : decode cX11_isHeld 1 = .ok (.istore_n 3, 1) := by decide +kernel
theorem dX11_isHeld_2 : decode cX11_isHeld 2 = .ok (.iconst 0, 1) := by decide +kernel
theorem dX11_isHeld_3 : decode cX11_isHeld 3 = .ok (.istore 4, 2) := by decide +kernel
theorem dX11_isHeld_5 : decode cX11_isHeld 5 = .ok (.iload 4, 2) := by decide +kernel
theorem dX11_isHeld_7 : decode cX11_isHeld 7 = .ok (.aload_n 0, 1) := by decide +kernel
theorem dX11_isHeld_8 : decode cX11_isHeld 8 = .ok (.getfield 145, 3) := by decide +kernel
theorem dX11_isHeld_11 : decode cX11_isHeld 11 = .ok (.if_icmp .ge 75, 3) := by decide +kernel
theorem dX11_isHeld_14 : decode cX11_isHeld 14 = .ok (.iload_n 3, 1) := by decide +kernel
theorem dX11_isHeld_15 : decode cX11_isHeld 15 = .ok (.ifCond .ne 71, 3) := by decide +kernel
theorem dX11_isHeld_18 : decode cX11_isHeld 18 = .ok (.aload_n 0, 1) := by decide +kernel
theorem dX11_isHeld_19 : decode cX11_isHeld 19 = .ok (.getfield 133, 3) := by decide +kernel
theorem dX11_isHeld_22 : decode cX11_isHeld 22 = .ok (.iconst 5, 1) := by decide +kernel
theorem dX11_isHeld_23 : decode cX11_isHeld 23 = .ok (.sipush 300, 3) := by decide +kernel
theorem dX11_isHeld_26 : decode cX11_isHeld 26 = .ok (.iload_n 1, 1) := by decide +kernel
theorem dX11_isHeld_27 : decode cX11_isHeld 27 = .ok (.imul, 1) := by decide +kernel
theorem dX11_isHeld_28 : decode cX11_isHeld 28 = .ok (.iload_n 2, 1) := by decide +kernel
theorem dX11_isHeld_29 : decode cX11_isHeld 29 = .ok (.iadd, 1) := by decide +kernel
theorem dX11_isHeld_30 : decode cX11_isHeld 30 = .ok (.imul, 1) := by decide +kernel
theorem dX11_isHeld_31 : decode cX11_isHeld 31 = .ok (.iload 4, 2) := by decide +kernel
theorem dX11_isHeld_33 : decode cX11_isHeld 33 = .ok (.bipush 6, 2) := by decide +kernel
theorem dX11_isHeld_35 : decode cX11_isHeld 35 = .ok (.ishr, 1) := by decide +kernel
theorem dX11_isHeld_36 : decode cX11_isHeld 36 = .ok (.iadd, 1) := by decide +kernel
theorem dX11_isHeld_37 : decode cX11_isHeld 37 = .ok (.laload, 1) := by decide +kernel
theorem dX11_isHeld_38 : decode cX11_isHeld 38 = .ok (.iload 4, 2) := by decide +kernel
theorem dX11_isHeld_40 : decode cX11_isHeld 40 = .ok (.lshr, 1) := by decide +kernel
theorem dX11_isHeld_41 : decode cX11_isHeld 41 = .ok (.lconst 1, 1) := by decide +kernel
theorem dX11_isHeld_42 : decode cX11_isHeld 42 = .ok (.land, 1) := by decide +kernel
theorem dX11_isHeld_43 : decode cX11_isHeld 43 = .ok (.lconst 0, 1) := by decide +kernel
theorem dX11_isHeld_44 : decode cX11_isHeld 44 = .ok (.lcmp, 1) := by decide +kernel
theorem dX11_isHeld_45 : decode cX11_isHeld 45 = .ok (.ifCond .eq 33, 3) := by decide +kernel
theorem dX11_isHeld_48 : decode cX11_isHeld 48 = .ok (.aload_n 0, 1) := by decide +kernel
theorem dX11_isHeld_49 : decode cX11_isHeld 49 = .ok (.getfield 124, 3) := by decide +kernel
theorem dX11_isHeld_52 : decode cX11_isHeld 52 = .ok (.sipush 300, 3) := by decide +kernel
theorem dX11_isHeld_55 : decode cX11_isHeld 55 = .ok (.iload_n 1, 1) := by decide +kernel
theorem dX11_isHeld_56 : decode cX11_isHeld 56 = .ok (.imul, 1) := by decide +kernel
theorem dX11_isHeld_57 : decode cX11_isHeld 57 = .ok (.iload 4, 2) := by decide +kernel
theorem dX11_isHeld_59 : decode cX11_isHeld 59 = .ok (.iadd, 1) := by decide +kernel
theorem dX11_isHeld_60 : decode cX11_isHeld 60 = .ok (.baload, 1) := by decide +kernel
theorem dX11_isHeld_61 : decode cX11_isHeld 61 = .ok (.ifCond .eq 13, 3) := by decide +kernel
theorem dX11_isHeld_64 : decode cX11_isHeld 64 = .ok (.aload_n 0, 1) := by decide +kernel
theorem dX11_isHeld_65 : decode cX11_isHeld 65 = .ok (.getfield 136, 3) := by decide +kernel
theorem dX11_isHeld_68 : decode cX11_isHeld 68 = .ok (.iload 4, 2) := by decide +kernel
theorem dX11_isHeld_70 : decode cX11_isHeld 70 = .ok (.baload, 1) := by decide +kernel
theorem dX11_isHeld_71 : decode cX11_isHeld 71 = .ok (.ifCond .eq 7, 3) := by decide +kernel
theorem dX11_isHeld_74 : decode cX11_isHeld 74 = .ok (.iconst 1, 1) := by decide +kernel
theorem dX11_isHeld_75 : decode cX11_isHeld 75 = .ok (.goto 4, 3) := by decide +kernel
theorem dX11_isHeld_78 : decode cX11_isHeld 78 = .ok (.iconst 0, 1) := by decide +kernel
theorem dX11_isHeld_79 : decode cX11_isHeld 79 = .ok (.istore_n 3, 1) := by decide +kernel
theorem dX11_isHeld_80 : decode cX11_isHeld 80 = .ok (.iinc 4 1, 3) := by decide +kernel
theorem dX11_isHeld_83 : decode cX11_isHeld 83 = .ok (.goto (-78), 3) := by decide +kernel
theorem dX11_isHeld_86 : decode cX11_isHeld 86 = .ok (.iload_n 3, 1) := by decide +kernel
theorem dX11_isHeld_87 : decode cX11_isHeld 87 = .ok (.ireturn, 1) := by decide +kernel
def fX11_isHeld_5 : Nat → Nat → Int32 → Int32 → Int32 → Int32 → Hz → Option (Int32 × Hz)
  | 0, _, _, _, _, _, _ => none
  | n + 1, o, v1, v2, v3, v4, h => (b1 (gI 11 9 o h) fun x1 => (if x1 ≤ v4 then rz v3 h else (if v3 = 0 then (b1 (gA 11 45 o h) fun a4 => (b1 (xL a4 ((5 * ((300 * v1) + v2)) + ((v4 >>> ((6 : Int32) &&& 31)) : Int32)) h) fun x5 => (if (lg_cmp (((x5 >>> (v4.toInt64 &&& 63)) : Int64) &&& 1) 0) = 0 then fX11_isHeld_5 n o v1 v2 0 (v4 + 1) h else (b1 (gA 11 42 o h) fun a7 => (b1 (xI 14 a7 ((300 * v1) + v4) h) fun x8 => (if x8 = 0 then fX11_isHeld_5 n o v1 v2 1 (v4 + 1) h else (b1 (gA 11 47 o h) fun a10 => (b1 (xI 14 a10 v4 h) fun x11 => (if x11 = 0 then fX11_isHeld_5 n o v1 v2 0 (v4 + 1) h else fX11_isHeld_5 n o v1 v2 1 (v4 + 1) h))))))))) else rz v3 h)))
set_option maxHeartbeats 4000000 in
set_option maxRecDepth 100000 in
theorem wX11_isHeld_5 {r0 : Int32} {h0 : Hz} (X : zX A D cy p s m args c cX11_isHeld RX11 5) (hlk : meth.locks = false) (hr : meth.sig.returnType = (some .boolean)) : ∀ (n : Nat) (o : Nat) (v1 : Int32) (v2 : Int32) (v3 : Int32) (v4 : Int32) (h : Hz) (H : Heap) (locs : List Loc) (ls : Array Slot) (hl : lv_has ls 5 [(0, .ref o), (1, .int v1), (2, .int v2), (3, .int v3), (4, .int v4)]) (hW : zW A cy D h H) (hS : va_S A s.heap H locs) (h : fX11_isHeld_5 n o v1 v2 v3 v4 h = some (r0, h0)), W p l e ({ frames := 0, cells := 0, slots := 0, locals := 0 } : Room) s m args below meth c H locs 0 0 (MQ below (va_Qi (fun r1 u => r1 = r0 ∧ u = h0) (zB A D cy) A) args s 0 0 A) (F0 m 5 ls []) := by
  obtain ⟨hx, hb, hts, hown, hK9, hml, hN9, hA9⟩ := id X
  intro n
  induction n with
  | zero =>
    intro o v1 v2 v3 v4 h H locs ls hl hW hS h
    rw [fX11_isHeld_5] at h
    cases h
  | succ n ih =>
    intro o v1 v2 v3 v4 h H locs ls hl hW hS h
    rw [fX11_isHeld_5] at h
    refine lv_iload hx hb dX11_isHeld_5 (lv_at hl 4 rfl) ?_
    refine lv_aload_n hx hb dX11_isHeld_7 rfl (lv_at hl 0 rfl) ?_
    replace h := b1_some h
    obtain ⟨x1, gx1, h⟩ := h
    refine z_getI X hW gx1 kX11 (by decide) (by decide) kf_X11_145 dX11_isHeld_8 ?_
    refine lv_icmp_ge (tgt := 86) hx hb dX11_isHeld_11 (by decide) (fun c2 => ?_) (fun c2 => ?_)
    · replace h := it_t h c2
      refine lv_iload_n hx hb dX11_isHeld_86 rfl (lv_at hl 3 rfl) ?_
      exact z_etz X hlk hr hW hS h (by decide) (by decide) dX11_isHeld_87
    · replace h := it_f h c2
      refine lv_iload_n hx hb dX11_isHeld_14 rfl (lv_at hl 3 rfl) ?_
      refine lv_if_ne (tgt := 86) hx hb dX11_isHeld_15 (by decide) (fun c3 => ?_) (fun c3 => ?_)
      · replace h := it_f h c3
        refine lv_iload_n hx hb dX11_isHeld_86 rfl (lv_at hl 3 rfl) ?_
        exact z_etz X hlk hr hW hS h (by decide) (by decide) dX11_isHeld_87
      · replace h := it_t h c3
        refine lv_aload_n hx hb dX11_isHeld_18 rfl (lv_at hl 0 rfl) ?_
        replace h := b1_some h
        obtain ⟨a4, ga4, h⟩ := h
        refine z_getA X hW ga4 kX11 (by decide) (by decide) kf_X11_133 dX11_isHeld_19 ?_
        refine lv_iconst (v := 5) hx hb dX11_isHeld_22 (by decide) ?_
        refine lv_sipush (v := 300) hx hb dX11_isHeld_23 (by decide) ?_
        refine lv_iload_n hx hb dX11_isHeld_26 rfl (lv_at hl 1 rfl) ?_
        refine lv_imul hx hb dX11_isHeld_27 ?_
        refine lv_iload_n hx hb dX11_isHeld_28 rfl (lv_at hl 2 rfl) ?_
        refine lv_iadd hx hb dX11_isHeld_29 ?_
        refine lv_imul hx hb dX11_isHeld_30 ?_
        refine lv_iload hx hb dX11_isHeld_31 (lv_at hl 4 rfl) ?_
        refine lv_bipush (v := 6) hx hb dX11_isHeld_33 (by decide) ?_
        refine lv_ishr hx hb dX11_isHeld_35 ?_
        refine lv_iadd hx hb dX11_isHeld_36 ?_
        replace h := b1_some h
        obtain ⟨x5, gx5, h⟩ := h
        refine z_aldL X hW gx5 dX11_isHeld_37 ?_
        refine lv_iload hx hb dX11_isHeld_38 (lv_at hl 4 rfl) ?_
        refine lv_lshr (v := ((x5 >>> (v4.toInt64 &&& 63)) : Int64)) hx hb dX11_isHeld_40 rfl ?_
        refine lv_lconst (v := 1) hx hb dX11_isHeld_41 (by decide) ?_
        refine lv_land hx hb dX11_isHeld_42 ?_
        refine lv_lconst (v := 0) hx hb dX11_isHeld_43 (by decide) ?_
        refine W.lcmp hx hb dX11_isHeld_44 ?_
        refine lv_if_eq (tgt := 78) hx hb dX11_isHeld_45 (by decide) (fun c6 => ?_) (fun c6 => ?_)
        · replace h := it_t h c6
          refine lv_iconst (v := 0) hx hb dX11_isHeld_78 (by decide) ?_
          refine lv_istore_n (lv' := [(3, .int 0), (0, .ref o), (1, .int v1), (2, .int v2), (4, .int v4)]) hx hb dX11_isHeld_79 rfl hl (by decide) rfl (fun ls hl => ?_)
          refine lv_iinc (v := (v4 + 1)) (lv' := [(4, .int (v4 + 1)), (3, .int 0), (0, .ref o), (1, .int v1), (2, .int v2)]) hx hb dX11_isHeld_80 hl (k := 4) rfl rfl (by decide) rfl (fun ls hl => ?_)
          refine lv_goto (tgt := 5) hx hb dX11_isHeld_83 (by decide) ?_
          exact ih o v1 v2 0 (v4 + 1) _ _ _ _ (lv_sub hl [2, 3, 4, 1, 0] rfl) hW hS h
        · replace h := it_f h c6
          refine lv_aload_n hx hb dX11_isHeld_48 rfl (lv_at hl 0 rfl) ?_
          replace h := b1_some h
          obtain ⟨a7, ga7, h⟩ := h
          refine z_getA X hW ga7 kX11 (by decide) (by decide) kf_X11_124 dX11_isHeld_49 ?_
          refine lv_sipush (v := 300) hx hb dX11_isHeld_52 (by decide) ?_
          refine lv_iload_n hx hb dX11_isHeld_55 rfl (lv_at hl 1 rfl) ?_
          refine lv_imul hx hb dX11_isHeld_56 ?_
          refine lv_iload hx hb dX11_isHeld_57 (lv_at hl 4 rfl) ?_
          refine lv_iadd hx hb dX11_isHeld_59 ?_
          replace h := b1_some h
          obtain ⟨x8, gx8, h⟩ := h
          refine z_aldZ X hW gx8 dX11_isHeld_60 ?_
          refine lv_if_eq (tgt := 74) hx hb dX11_isHeld_61 (by decide) (fun c9 => ?_) (fun c9 => ?_)
          · replace h := it_t h c9
            refine lv_iconst (v := 1) hx hb dX11_isHeld_74 (by decide) ?_
            refine lv_goto (tgt := 79) hx hb dX11_isHeld_75 (by decide) ?_
            refine lv_istore_n (lv' := [(3, .int 1), (0, .ref o), (1, .int v1), (2, .int v2), (4, .int v4)]) hx hb dX11_isHeld_79 rfl hl (by decide) rfl (fun ls hl => ?_)
            refine lv_iinc (v := (v4 + 1)) (lv' := [(4, .int (v4 + 1)), (3, .int 1), (0, .ref o), (1, .int v1), (2, .int v2)]) hx hb dX11_isHeld_80 hl (k := 4) rfl rfl (by decide) rfl (fun ls hl => ?_)
            refine lv_goto (tgt := 5) hx hb dX11_isHeld_83 (by decide) ?_
            exact ih o v1 v2 1 (v4 + 1) _ _ _ _ (lv_sub hl [2, 3, 4, 1, 0] rfl) hW hS h
          · replace h := it_f h c9
            refine lv_aload_n hx hb dX11_isHeld_64 rfl (lv_at hl 0 rfl) ?_
            replace h := b1_some h
            obtain ⟨a10, ga10, h⟩ := h
            refine z_getA X hW ga10 kX11 (by decide) (by decide) kf_X11_136 dX11_isHeld_65 ?_
            refine lv_iload hx hb dX11_isHeld_68 (lv_at hl 4 rfl) ?_
            replace h := b1_some h
            obtain ⟨x11, gx11, h⟩ := h
            refine z_aldZ X hW gx11 dX11_isHeld_70 ?_
            refine lv_if_eq (tgt := 78) hx hb dX11_isHeld_71 (by decide) (fun c12 => ?_) (fun c12 => ?_)
            · replace h := it_t h c12
              refine lv_iconst (v := 0) hx hb dX11_isHeld_78 (by decide) ?_
              refine lv_istore_n (lv' := [(3, .int 0), (0, .ref o), (1, .int v1), (2, .int v2), (4, .int v4)]) hx hb dX11_isHeld_79 rfl hl (by decide) rfl (fun ls hl => ?_)
              refine lv_iinc (v := (v4 + 1)) (lv' := [(4, .int (v4 + 1)), (3, .int 0), (0, .ref o), (1, .int v1), (2, .int v2)]) hx hb dX11_isHeld_80 hl (k := 4) rfl rfl (by decide) rfl (fun ls hl => ?_)
              refine lv_goto (tgt := 5) hx hb dX11_isHeld_83 (by decide) ?_
              exact ih o v1 v2 0 (v4 + 1) _ _ _ _ (lv_sub hl [2, 3, 4, 1, 0] rfl) hW hS h
            · replace h := it_f h c12
              refine lv_iconst (v := 1) hx hb dX11_isHeld_74 (by decide) ?_
              refine lv_goto (tgt := 79) hx hb dX11_isHeld_75 (by decide) ?_
              refine lv_istore_n (lv' := [(3, .int 1), (0, .ref o), (1, .int v1), (2, .int v2), (4, .int v4)]) hx hb dX11_isHeld_79 rfl hl (by decide) rfl (fun ls hl => ?_)
              refine lv_iinc (v := (v4 + 1)) (lv' := [(4, .int (v4 + 1)), (3, .int 1), (0, .ref o), (1, .int v1), (2, .int v2)]) hx hb dX11_isHeld_80 hl (k := 4) rfl rfl (by decide) rfl (fun ls hl => ?_)
              refine lv_goto (tgt := 5) hx hb dX11_isHeld_83 (by decide) ?_
              exact ih o v1 v2 1 (v4 + 1) _ _ _ _ (lv_sub hl [2, 3, 4, 1, 0] rfl) hW hS h

def fX11_isHeld (o : Nat) (v1 : Int32) (v2 : Int32) (h : Hz) : Option (Int32 × Hz) := fX11_isHeld_5 100000 o v1 v2 0 0 h
set_option maxHeartbeats 4000000 in
set_option maxRecDepth 100000 in
theorem wX11_isHeld_0 {r0 : Int32} {h0 : Hz} (X : zX A D cy p s m args c cX11_isHeld RX11 5) (hlk : meth.locks = false) (hr : meth.sig.returnType = (some .boolean)) (o : Nat) (v1 : Int32) (v2 : Int32) (h : Hz) (H : Heap) (locs : List Loc) (ls : Array Slot) (hl : lv_has ls 5 [(0, .ref o), (1, .int v1), (2, .int v2)]) (hW : zW A cy D h H) (hS : va_S A s.heap H locs) (h : fX11_isHeld o v1 v2 h = some (r0, h0)) : W p l e ({ frames := 0, cells := 0, slots := 0, locals := 0 } : Room) s m args below meth c H locs 0 0 (MQ below (va_Qi (fun r1 u => r1 = r0 ∧ u = h0) (zB A D cy) A) args s 0 0 A) (F0 m 0 ls []) := by
  obtain ⟨hx, hb, hts, hown, hK9, hml, hN9, hA9⟩ := id X
  unfold fX11_isHeld at h
  refine lv_iconst (v := 0) hx hb dX11_isHeld_0 (by decide) ?_
  refine lv_istore_n (lv' := [(3, .int 0), (0, .ref o), (1, .int v1), (2, .int v2)]) hx hb dX11_isHeld_1 rfl hl (by decide) rfl (fun ls hl => ?_)
  refine lv_iconst (v := 0) hx hb dX11_isHeld_2 (by decide) ?_
  refine lv_istore (lv' := [(4, .int 0), (3, .int 0), (0, .ref o), (1, .int v1), (2, .int v2)]) hx hb dX11_isHeld_3 hl (by decide) rfl (fun ls hl => ?_)
  exact wX11_isHeld_5 X hlk hr _ o v1 v2 0 0 _ _ _ _ (lv_sub hl [2, 3, 4, 1, 0] rfl) hW hS h

set_option maxHeartbeats 4000000 in
set_option maxRecDepth 100000 in
theorem cX11_isHeld_met {l : Launch} {A : Nat → Prop} {D : va_G} {cy : Nat → ClassId} {r0 : Int32} {h0 : Hz} {o : Nat} {v1 : Int32} {v2 : Int32} {h : Hz} (g : fX11_isHeld o v1 v2 h = some (r0, h0)) : Met l yX11_isHeld (Cond.code yX11_isHeld cX11_isHeld 5 (some .boolean) :: wT) ({ frames := 0, cells := 0, slots := 0, locals := 0 } : Room) (va_Pc [.ref o, .int v1, .int v2] (zS A D cy h)) (va_Qi (fun r1 u => r1 = r0 ∧ u = h0) (zB A D cy) A) 0 0 A := by
  refine Met.ofW (cc := cX11_isHeld) (maxL := 5) (ret := (some .boolean)) (by decide) rfl ?_
  intro p e s m args below meth c s₁ B hml hv
  obtain ⟨rfl, hW, hK, hN, hA⟩ := hv
  have X : zX A D cy p s m _ c cX11_isHeld RX11 5 := ⟨B.exec, B.bytes, fun w hw => atoms_spec (ws := Cond.code yX11_isHeld cX11_isHeld 5 (some .boolean) :: wT) B.pre w (List.mem_cons_of_mem _ hw), findClass_of_methodNamed B.named, hK, hml, hN, hA⟩
  have hl := lv_entry [.ref o, .int v1, .int v2] (n := 5) (Nat.le_of_ble_eq_true rfl)
  rw [lg_entry_eq]
  generalize (lg_sl [.ref o, .int v1, .int v2] ++ List.replicate (5 - (lg_sl [.ref o, .int v1, .int v2]).length) Slot.unset).toArray = ls at hl ⊢
  have hl : lv_has ls 5 [(0, .ref o), (1, .int v1), (2, .int v2)] := hl
  exact wX11_isHeld_0 X B.notSynchronized B.returns o v1 v2 _ _ _ _ (lv_sub hl [0, 1, 2] rfl) hW va_S.rf g

theorem dX11_becomesAlive_0 : decode cX11_becomesAlive 0 = .ok (.iconst 0, 1) := by decide +kernel
theorem dX11_becomesAlive_1 : decode cX11_becomesAlive 1 = .ok (.istore_n 3, 1) := by decide +kernel
theorem dX11_becomesAlive_2 : decode cX11_becomesAlive 2 = .ok (.aload_n 0, 1) := by decide +kernel
theorem dX11_becomesAlive_3 : decode cX11_becomesAlive 3 = .ok (.getfield 127, 3) := by decide +kernel
theorem dX11_becomesAlive_6 : decode cX11_becomesAlive 6 = .ok (.sipush 300, 3) := by decide +kernel
theorem dX11_becomesAlive_9 : decode cX11_becomesAlive 9 = .ok (.iload_n 1, 1) := by decide +kernel
theorem dX11_becomesAlive_10 : decode cX11_becomesAlive 10 = .ok (.imul, 1) := by decide +kernel
theorem dX11_becomesAlive_11 : decode cX11_becomesAlive 11 = .ok (.iload_n 2, 1) := by decide +kernel
theorem dX11_becomesAlive_12 : decode cX11_becomesAlive 12 = .ok (.iadd, 1) := by decide +kernel
theorem dX11_becomesAlive_13 : decode cX11_becomesAlive 13 = .ok (.baload, 1) := by decide +kernel
theorem dX11_becomesAlive_14 : decode cX11_becomesAlive 14 = .ok (.ifCond .ne 12, 3) := by decide +kernel
theorem dX11_becomesAlive_17 : decode cX11_becomesAlive 17 = .ok (.aload_n 0, 1) := by decide +kernel
theorem dX11_becomesAlive_18 : decode cX11_becomesAlive 18 = .ok (.iload_n 1, 1) := by decide +kernel
theorem dX11_becomesAlive_19 : decode cX11_becomesAlive 19 = .ok (.iload_n 2, 1) := by decide +kernel
theorem dX11_becomesAlive_20 : decode cX11_becomesAlive 20 = .ok (.invokevirtual 255, 3) := by decide +kernel
theorem dX11_becomesAlive_23 : decode cX11_becomesAlive 23 = .ok (.ifCond .eq 7, 3) := by decide +kernel
theorem dX11_becomesAlive_26 : decode cX11_becomesAlive 26 = .ok (.iconst 1, 1) := by decide +kernel
theorem dX11_becomesAlive_27 : decode cX11_becomesAlive 27 = .ok (.goto 4, 3) := by decide +kernel
theorem dX11_becomesAlive_30 : decode cX11_becomesAlive 30 = .ok (.iconst 0, 1) := by decide +kernel
theorem dX11_becomesAlive_31 : decode cX11_becomesAlive 31 = .ok (.istore 4, 2) := by decide +kernel
theorem dX11_becomesAlive_33 : decode cX11_becomesAlive 33 = .ok (.iconst 0, 1) := by decide +kernel
theorem dX11_becomesAlive_34 : decode cX11_becomesAlive 34 = .ok (.istore 5, 2) := by decide +kernel
theorem dX11_becomesAlive_36 : decode cX11_becomesAlive 36 = .ok (.iload 5, 2) := by decide +kernel
theorem dX11_becomesAlive_38 : decode cX11_becomesAlive 38 = .ok (.aload_n 0, 1) := by decide +kernel
theorem dX11_becomesAlive_39 : decode cX11_becomesAlive 39 = .ok (.getfield 145, 3) := by decide +kernel
theorem dX11_becomesAlive_42 : decode cX11_becomesAlive 42 = .ok (.if_icmp .ge 104, 3) := by decide +kernel
theorem dX11_becomesAlive_45 : decode cX11_becomesAlive 45 = .ok (.aload_n 0, 1) := by decide +kernel
theorem dX11_becomesAlive_46 : decode cX11_becomesAlive 46 = .ok (.getfield 9, 3) := by decide +kernel
theorem dX11_becomesAlive_49 : decode cX11_becomesAlive 49 = .ok (.iload 5, 2) := by decide +kernel
theorem dX11_becomesAlive_51 : decode cX11_becomesAlive 51 = .ok (.iaload, 1) := by decide +kernel
theorem dX11_becomesAlive_52 : decode cX11_becomesAlive 52 = .ok (.iconst 3, 1) := by decide +kernel
theorem dX11_becomesAlive_53 : decode cX11_becomesAlive 53 = .ok (.if_icmp .ne 87, 3) := by decide +kernel
theorem dX11_becomesAlive_56 : decode cX11_becomesAlive 56 = .ok (.aload_n 0, 1) := by decide +kernel
theorem dX11_becomesAlive_57 : decode cX11_becomesAlive 57 = .ok (.getfield 25, 3) := by decide +kernel
theorem dX11_becomesAlive_60 : decode cX11_becomesAlive 60 = .ok (.iload 5, 2) := by decide +kernel
theorem dX11_becomesAlive_62 : decode cX11_becomesAlive 62 = .ok (.iaload, 1) := by decide +kernel
theorem dX11_becomesAlive_63 : decode cX11_becomesAlive 63 = .ok (.iload_n 2, 1) := by decide +kernel
theorem dX11_becomesAlive_64 : decode cX11_becomesAlive 64 = .ok (.if_icmp .ne 76, 3) := by decide +kernel
theorem dX11_becomesAlive_67 : decode cX11_becomesAlive 67 = .ok (.aload_n 0, 1) := by decide +kernel
theorem dX11_becomesAlive_68 : decode cX11_becomesAlive 68 = .ok (.getfield 124, 3) := by decide +kernel
theorem dX11_becomesAlive_71 : decode cX11_becomesAlive 71 = .ok (.sipush 300, 3) := by decide +kernel
theorem dX11_becomesAlive_74 : decode cX11_becomesAlive 74 = .ok (.iload_n 1, 1) := by decide +kernel
theorem dX11_becomesAlive_75 : decode cX11_becomesAlive 75 = .ok (.imul, 1) := by decide +kernel
theorem dX11_becomesAlive_76 : decode cX11_becomesAlive 76 = .ok (.iload 5, 2) := by decide +kernel
theorem dX11_becomesAlive_78 : decode cX11_becomesAlive 78 = .ok (.iadd, 1) := by decide +kernel
theorem dX11_becomesAlive_79 : decode cX11_becomesAlive 79 = .ok (.baload, 1) := by decide +kernel
theorem dX11_becomesAlive_80 : decode cX11_becomesAlive 80 = .ok (.ifCond .ne 6, 3) := by decide +kernel
theorem dX11_becomesAlive_83 : decode cX11_becomesAlive 83 = .ok (.goto 57, 3) := by decide +kernel
theorem dX11_becomesAlive_86 : decode cX11_becomesAlive 86 = .ok (.iload_n 3, 1) := by decide +kernel
theorem dX11_becomesAlive_87 : decode cX11_becomesAlive 87 = .ok (.aload_n 0, 1) := by decide +kernel
theorem dX11_becomesAlive_88 : decode cX11_becomesAlive 88 = .ok (.getfield 130, 3) := by decide +kernel
theorem dX11_becomesAlive_91 : decode cX11_becomesAlive 91 = .ok (.sipush 300, 3) := by decide +kernel
theorem dX11_becomesAlive_94 : decode cX11_becomesAlive 94 = .ok (.iload_n 1, 1) := by decide +kernel
theorem dX11_becomesAlive_95 : decode cX11_becomesAlive 95 = .ok (.imul, 1) := by decide +kernel
theorem dX11_becomesAlive_96 : decode cX11_becomesAlive 96 = .ok (.iload 5, 2) := by decide +kernel
theorem dX11_becomesAlive_98 : decode cX11_becomesAlive 98 = .ok (.iadd, 1) := by decide +kernel
theorem dX11_becomesAlive_99 : decode cX11_becomesAlive 99 = .ok (.iaload, 1) := by decide +kernel
theorem dX11_becomesAlive_100 : decode cX11_becomesAlive 100 = .ok (.iadd, 1) := by decide +kernel
theorem dX11_becomesAlive_101 : decode cX11_becomesAlive 101 = .ok (.istore_n 3, 1) := by decide +kernel
theorem dX11_becomesAlive_102 : decode cX11_becomesAlive 102 = .ok (.iload 4, 2) := by decide +kernel
theorem dX11_becomesAlive_104 : decode cX11_becomesAlive 104 = .ok (.ifCond .ne 29, 3) := by decide +kernel
theorem dX11_becomesAlive_107 : decode cX11_becomesAlive 107 = .ok (.aload_n 0, 1) := by decide +kernel
theorem dX11_becomesAlive_108 : decode cX11_becomesAlive 108 = .ok (.getfield 127, 3) := by decide +kernel
theorem dX11_becomesAlive_111 : decode cX11_becomesAlive 111 = .ok (.sipush 300, 3) := by decide +kernel
theorem dX11_becomesAlive_114 : decode cX11_becomesAlive 114 = .ok (.iload_n 1, 1) := by decide +kernel
theorem dX11_becomesAlive_115 : decode cX11_becomesAlive 115 = .ok (.imul, 1) := by decide +kernel
theorem dX11_becomesAlive_116 : decode cX11_becomesAlive 116 = .ok (.iload 5, 2) := by decide +kernel
theorem dX11_becomesAlive_118 : decode cX11_becomesAlive 118 = .ok (.iadd, 1) := by decide +kernel
theorem dX11_becomesAlive_119 : decode cX11_becomesAlive 119 = .ok (.baload, 1) := by decide +kernel
theorem dX11_becomesAlive_120 : decode cX11_becomesAlive 120 = .ok (.ifCond .ne 13, 3) := by decide +kernel
theorem dX11_becomesAlive_123 : decode cX11_becomesAlive 123 = .ok (.aload_n 0, 1) := by decide +kernel
theorem dX11_becomesAlive_124 : decode cX11_becomesAlive 124 = .ok (.iload_n 1, 1) := by decide +kernel
theorem dX11_becomesAlive_125 : decode cX11_becomesAlive 125 = .ok (.iload 5, 2) := by decide +kernel
theorem dX11_becomesAlive_127 : decode cX11_becomesAlive 127 = .ok (.invokevirtual 255, 3) := by decide +kernel
theorem dX11_becomesAlive_130 : decode cX11_becomesAlive 130 = .ok (.ifCond .eq 7, 3) := by decide +kernel
theorem dX11_becomesAlive_133 : decode cX11_becomesAlive 133 = .ok (.iconst 1, 1) := by decide +kernel
theorem dX11_becomesAlive_134 : decode cX11_becomesAlive 134 = .ok (.goto 4, 3) := by decide +kernel
theorem dX11_becomesAlive_137 : decode cX11_becomesAlive 137 = .ok (.iconst 0, 1) := by decide +kernel
theorem dX11_becomesAlive_138 : decode cX11_becomesAlive 138 = .ok (.istore 4, 2) := by decide +kernel
theorem dX11_becomesAlive_140 : decode cX11_becomesAlive 140 = .ok (.iinc 5 1, 3) := by decide +kernel
theorem dX11_becomesAlive_143 : decode cX11_becomesAlive 143 = .ok (.goto (-107), 3) := by decide +kernel
theorem dX11_becomesAlive_146 : decode cX11_becomesAlive 146 = .ok (.iload 4, 2) := by decide +kernel
theorem dX11_becomesAlive_148 : decode cX11_becomesAlive 148 = .ok (.ifCond .ne 19, 3) := by decide +kernel
theorem dX11_becomesAlive_151 : decode cX11_becomesAlive 151 = .ok (.aload_n 0, 1) := by decide +kernel
theorem dX11_becomesAlive_152 : decode cX11_becomesAlive 152 = .ok (.getfield 130, 3) := by decide +kernel
theorem dX11_becomesAlive_155 : decode cX11_becomesAlive 155 = .ok (.sipush 300, 3) := by decide +kernel
theorem dX11_becomesAlive_158 : decode cX11_becomesAlive 158 = .ok (.iload_n 1, 1) := by decide +kernel
theorem dX11_becomesAlive_159 : decode cX11_becomesAlive 159 = .ok (.imul, 1) := by decide +kernel
theorem dX11_becomesAlive_160 : decode cX11_becomesAlive 160 = .ok (.iload_n 2, 1) := by decide +kernel
theorem dX11_becomesAlive_161 : decode cX11_becomesAlive 161 = .ok (.iadd, 1) := by decide +kernel
theorem dX11_becomesAlive_162 : decode cX11_becomesAlive 162 = .ok (.iaload, 1) := by decide +kernel
theorem dX11_becomesAlive_163 : decode cX11_becomesAlive 163 = .ok (.iload_n 3, 1) := by decide +kernel
theorem dX11_becomesAlive_164 : decode cX11_becomesAlive 164 = .ok (.if_icmp .le 7, 3) := by decide +kernel
theorem dX11_becomesAlive_167 : decode cX11_becomesAlive 167 = .ok (.iconst 1, 1) := by decide +kernel
theorem dX11_becomesAlive_168 : decode cX11_becomesAlive 168 = .ok (.goto 4, 3) := by decide +kernel
theorem dX11_becomesAlive_171 : decode cX11_becomesAlive 171 = .ok (.iconst 0, 1) := by decide +kernel
theorem dX11_becomesAlive_172 : decode cX11_becomesAlive 172 = .ok (.ireturn, 1) := by decide +kernel
def fX11_becomesAlive_36 : Nat → Nat → Int32 → Int32 → Int32 → Int32 → Int32 → Hz → Option (Int32 × Hz)
  | 0, _, _, _, _, _, _, _ => none
  | n + 1, o, v1, v2, v3, v4, v5, h => (b1 (gI 11 9 o h) fun x1 => (if x1 ≤ v5 then (if v4 = 0 then (b1 (gA 11 44 o h) fun a4 => (b1 (xI 12 a4 ((300 * v1) + v2) h) fun x5 => (if x5 ≤ v3 then rz 0 h else rz 1 h))) else rz 1 h) else (b1 (gA 11 0 o h) fun a7 => (b1 (xI 12 a7 v5 h) fun x8 => (if x8 = 3 then (b1 (gA 11 5 o h) fun a10 => (b1 (xI 12 a10 v5 h) fun x11 => (if x11 = v2 then (b1 (gA 11 42 o h) fun a13 => (b1 (xI 14 a13 ((300 * v1) + v5) h) fun x14 => (if x14 = 0 then fX11_becomesAlive_36 n o v1 v2 v3 v4 (v5 + 1) h else (b1 (gA 11 44 o h) fun a16 => (b1 (xI 12 a16 ((300 * v1) + v5) h) fun x17 => (if v4 = 0 then (b1 (gA 11 43 o h) fun a19 => (b1 (xI 14 a19 ((300 * v1) + v5) h) fun x20 => (if x20 = 0 then (b1 (tg 11 o h) fun _ => (b2 (fX11_isHeld o v1 v5 h) fun x23 s24 => (if x23 = 0 then fX11_becomesAlive_36 n o v1 v2 (v3 + x17) 0 (v5 + 1) s24 else fX11_becomesAlive_36 n o v1 v2 (v3 + x17) 1 (v5 + 1) s24))) else fX11_becomesAlive_36 n o v1 v2 (v3 + x17) 1 (v5 + 1) h))) else fX11_becomesAlive_36 n o v1 v2 (v3 + x17) 1 (v5 + 1) h)))))) else fX11_becomesAlive_36 n o v1 v2 v3 v4 (v5 + 1) h))) else fX11_becomesAlive_36 n o v1 v2 v3 v4 (v5 + 1) h)))))
set_option maxHeartbeats 4000000 in
set_option maxRecDepth 100000 in
theorem wX11_becomesAlive_36 {r0 : Int32} {h0 : Hz} (X : zX A D cy p s m args c cX11_becomesAlive RX11 6) (hlk : meth.locks = false) (hr : meth.sig.returnType = (some .boolean)) : ∀ (n : Nat) (o : Nat) (v1 : Int32) (v2 : Int32) (v3 : Int32) (v4 : Int32) (v5 : Int32) (h : Hz) (H : Heap) (locs : List Loc) (ls : Array Slot) (hl : lv_has ls 6 [(0, .ref o), (1, .int v1), (2, .int v2), (3, .int v3), (4, .int v4), (5, .int v5)]) (hW : zW A cy D h H) (hS : va_S A s.heap H locs) (h : fX11_becomesAlive_36 n o v1 v2 v3 v4 v5 h = some (r0, h0)), W p l e ({ frames := 1, cells := 0, slots := 0, locals := 24 } : Room) s m args below meth c H locs 0 0 (MQ below (va_Qi (fun r1 u => r1 = r0 ∧ u = h0) (zB A D cy) A) args s 0 0 A) (F0 m 36 ls []) := by
  obtain ⟨hx, hb, hts, hown, hK9, hml, hN9, hA9⟩ := id X
  intro n
  induction n with
  | zero =>
    intro o v1 v2 v3 v4 v5 h H locs ls hl hW hS h
    rw [fX11_becomesAlive_36] at h
    cases h
  | succ n ih =>
    intro o v1 v2 v3 v4 v5 h H locs ls hl hW hS h
    rw [fX11_becomesAlive_36] at h
    refine lv_iload hx hb dX11_becomesAlive_36 (lv_at hl 5 rfl) ?_
    refine lv_aload_n hx hb dX11_becomesAlive_38 rfl (lv_at hl 0 rfl) ?_
    replace h := b1_some h
    obtain ⟨x1, gx1, h⟩ := h
    refine z_getI X hW gx1 kX11 (by decide) (by decide) kf_X11_145 dX11_becomesAlive_39 ?_
    refine lv_icmp_ge (tgt := 146) hx hb dX11_becomesAlive_42 (by decide) (fun c2 => ?_) (fun c2 => ?_)
    · replace h := it_t h c2
      refine lv_iload hx hb dX11_becomesAlive_146 (lv_at hl 4 rfl) ?_
      refine lv_if_ne (tgt := 167) hx hb dX11_becomesAlive_148 (by decide) (fun c3 => ?_) (fun c3 => ?_)
      · replace h := it_f h c3
        refine lv_iconst (v := 1) hx hb dX11_becomesAlive_167 (by decide) ?_
        refine lv_goto (tgt := 172) hx hb dX11_becomesAlive_168 (by decide) ?_
        exact z_etz X hlk hr hW hS h (by decide) (by decide) dX11_becomesAlive_172
      · replace h := it_t h c3
        refine lv_aload_n hx hb dX11_becomesAlive_151 rfl (lv_at hl 0 rfl) ?_
        replace h := b1_some h
        obtain ⟨a4, ga4, h⟩ := h
        refine z_getA X hW ga4 kX11 (by decide) (by decide) kf_X11_130 dX11_becomesAlive_152 ?_
        refine lv_sipush (v := 300) hx hb dX11_becomesAlive_155 (by decide) ?_
        refine lv_iload_n hx hb dX11_becomesAlive_158 rfl (lv_at hl 1 rfl) ?_
        refine lv_imul hx hb dX11_becomesAlive_159 ?_
        refine lv_iload_n hx hb dX11_becomesAlive_160 rfl (lv_at hl 2 rfl) ?_
        refine lv_iadd hx hb dX11_becomesAlive_161 ?_
        replace h := b1_some h
        obtain ⟨x5, gx5, h⟩ := h
        refine z_aldI X hW gx5 dX11_becomesAlive_162 ?_
        refine lv_iload_n hx hb dX11_becomesAlive_163 rfl (lv_at hl 3 rfl) ?_
        refine lv_icmp_le (tgt := 171) hx hb dX11_becomesAlive_164 (by decide) (fun c6 => ?_) (fun c6 => ?_)
        · replace h := it_t h c6
          refine lv_iconst (v := 0) hx hb dX11_becomesAlive_171 (by decide) ?_
          exact z_etz X hlk hr hW hS h (by decide) (by decide) dX11_becomesAlive_172
        · replace h := it_f h c6
          refine lv_iconst (v := 1) hx hb dX11_becomesAlive_167 (by decide) ?_
          refine lv_goto (tgt := 172) hx hb dX11_becomesAlive_168 (by decide) ?_
          exact z_etz X hlk hr hW hS h (by decide) (by decide) dX11_becomesAlive_172
    · replace h := it_f h c2
      refine lv_aload_n hx hb dX11_becomesAlive_45 rfl (lv_at hl 0 rfl) ?_
      replace h := b1_some h
      obtain ⟨a7, ga7, h⟩ := h
      refine z_getA X hW ga7 kX11 (by decide) (by decide) kf_X11_9 dX11_becomesAlive_46 ?_
      refine lv_iload hx hb dX11_becomesAlive_49 (lv_at hl 5 rfl) ?_
      replace h := b1_some h
      obtain ⟨x8, gx8, h⟩ := h
      refine z_aldI X hW gx8 dX11_becomesAlive_51 ?_
      refine lv_iconst (v := 3) hx hb dX11_becomesAlive_52 (by decide) ?_
      refine lv_icmp_ne (tgt := 140) hx hb dX11_becomesAlive_53 (by decide) (fun c9 => ?_) (fun c9 => ?_)
      · replace h := it_f h c9
        refine lv_iinc (v := (v5 + 1)) (lv' := [(5, .int (v5 + 1)), (0, .ref o), (1, .int v1), (2, .int v2), (3, .int v3), (4, .int v4)]) hx hb dX11_becomesAlive_140 hl (k := 5) rfl rfl (by decide) rfl (fun ls hl => ?_)
        refine lv_goto (tgt := 36) hx hb dX11_becomesAlive_143 (by decide) ?_
        exact ih o v1 v2 v3 v4 (v5 + 1) _ _ _ _ (lv_sub hl [1, 2, 3, 4, 5, 0] rfl) hW hS h
      · replace h := it_t h c9
        refine lv_aload_n hx hb dX11_becomesAlive_56 rfl (lv_at hl 0 rfl) ?_
        replace h := b1_some h
        obtain ⟨a10, ga10, h⟩ := h
        refine z_getA X hW ga10 kX11 (by decide) (by decide) kf_X11_25 dX11_becomesAlive_57 ?_
        refine lv_iload hx hb dX11_becomesAlive_60 (lv_at hl 5 rfl) ?_
        replace h := b1_some h
        obtain ⟨x11, gx11, h⟩ := h
        refine z_aldI X hW gx11 dX11_becomesAlive_62 ?_
        refine lv_iload_n hx hb dX11_becomesAlive_63 rfl (lv_at hl 2 rfl) ?_
        refine lv_icmp_ne (tgt := 140) hx hb dX11_becomesAlive_64 (by decide) (fun c12 => ?_) (fun c12 => ?_)
        · replace h := it_f h c12
          refine lv_iinc (v := (v5 + 1)) (lv' := [(5, .int (v5 + 1)), (0, .ref o), (1, .int v1), (2, .int v2), (3, .int v3), (4, .int v4)]) hx hb dX11_becomesAlive_140 hl (k := 5) rfl rfl (by decide) rfl (fun ls hl => ?_)
          refine lv_goto (tgt := 36) hx hb dX11_becomesAlive_143 (by decide) ?_
          exact ih o v1 v2 v3 v4 (v5 + 1) _ _ _ _ (lv_sub hl [1, 2, 3, 4, 5, 0] rfl) hW hS h
        · replace h := it_t h c12
          refine lv_aload_n hx hb dX11_becomesAlive_67 rfl (lv_at hl 0 rfl) ?_
          replace h := b1_some h
          obtain ⟨a13, ga13, h⟩ := h
          refine z_getA X hW ga13 kX11 (by decide) (by decide) kf_X11_124 dX11_becomesAlive_68 ?_
          refine lv_sipush (v := 300) hx hb dX11_becomesAlive_71 (by decide) ?_
          refine lv_iload_n hx hb dX11_becomesAlive_74 rfl (lv_at hl 1 rfl) ?_
          refine lv_imul hx hb dX11_becomesAlive_75 ?_
          refine lv_iload hx hb dX11_becomesAlive_76 (lv_at hl 5 rfl) ?_
          refine lv_iadd hx hb dX11_becomesAlive_78 ?_
          replace h := b1_some h
          obtain ⟨x14, gx14, h⟩ := h
          refine z_aldZ X hW gx14 dX11_becomesAlive_79 ?_
          refine lv_if_ne (tgt := 86) hx hb dX11_becomesAlive_80 (by decide) (fun c15 => ?_) (fun c15 => ?_)
          · replace h := it_f h c15
            refine lv_iload_n hx hb dX11_becomesAlive_86 rfl (lv_at hl 3 rfl) ?_
            refine lv_aload_n hx hb dX11_becomesAlive_87 rfl (lv_at hl 0 rfl) ?_
            replace h := b1_some h
            obtain ⟨a16, ga16, h⟩ := h
            refine z_getA X hW ga16 kX11 (by decide) (by decide) kf_X11_130 dX11_becomesAlive_88 ?_
            refine lv_sipush (v := 300) hx hb dX11_becomesAlive_91 (by decide) ?_
            refine lv_iload_n hx hb dX11_becomesAlive_94 rfl (lv_at hl 1 rfl) ?_
            refine lv_imul hx hb dX11_becomesAlive_95 ?_
            refine lv_iload hx hb dX11_becomesAlive_96 (lv_at hl 5 rfl) ?_
            refine lv_iadd hx hb dX11_becomesAlive_98 ?_
            replace h := b1_some h
            obtain ⟨x17, gx17, h⟩ := h
            refine z_aldI X hW gx17 dX11_becomesAlive_99 ?_
            refine lv_iadd hx hb dX11_becomesAlive_100 ?_
            refine lv_istore_n (lv' := [(3, .int (v3 + x17)), (0, .ref o), (1, .int v1), (2, .int v2), (4, .int v4), (5, .int v5)]) hx hb dX11_becomesAlive_101 rfl hl (by decide) rfl (fun ls hl => ?_)
            refine lv_iload hx hb dX11_becomesAlive_102 (lv_at hl 4 rfl) ?_
            refine lv_if_ne (tgt := 133) hx hb dX11_becomesAlive_104 (by decide) (fun c18 => ?_) (fun c18 => ?_)
            · replace h := it_f h c18
              refine lv_iconst (v := 1) hx hb dX11_becomesAlive_133 (by decide) ?_
              refine lv_goto (tgt := 138) hx hb dX11_becomesAlive_134 (by decide) ?_
              refine lv_istore (lv' := [(4, .int 1), (3, .int (v3 + x17)), (0, .ref o), (1, .int v1), (2, .int v2), (5, .int v5)]) hx hb dX11_becomesAlive_138 hl (by decide) rfl (fun ls hl => ?_)
              refine lv_iinc (v := (v5 + 1)) (lv' := [(5, .int (v5 + 1)), (4, .int 1), (3, .int (v3 + x17)), (0, .ref o), (1, .int v1), (2, .int v2)]) hx hb dX11_becomesAlive_140 hl (k := 5) rfl rfl (by decide) rfl (fun ls hl => ?_)
              refine lv_goto (tgt := 36) hx hb dX11_becomesAlive_143 (by decide) ?_
              exact ih o v1 v2 (v3 + x17) 1 (v5 + 1) _ _ _ _ (lv_sub hl [3, 4, 5, 2, 1, 0] rfl) hW hS h
            · replace h := it_t h c18
              refine lv_aload_n hx hb dX11_becomesAlive_107 rfl (lv_at hl 1 rfl) ?_
              replace h := b1_some h
              obtain ⟨a19, ga19, h⟩ := h
              refine z_getA X hW ga19 kX11 (by decide) (by decide) kf_X11_127 dX11_becomesAlive_108 ?_
              refine lv_sipush (v := 300) hx hb dX11_becomesAlive_111 (by decide) ?_
              refine lv_iload_n hx hb dX11_becomesAlive_114 rfl (lv_at hl 2 rfl) ?_
              refine lv_imul hx hb dX11_becomesAlive_115 ?_
              refine lv_iload hx hb dX11_becomesAlive_116 (lv_at hl 5 rfl) ?_
              refine lv_iadd hx hb dX11_becomesAlive_118 ?_
              replace h := b1_some h
              obtain ⟨x20, gx20, h⟩ := h
              refine z_aldZ X hW gx20 dX11_becomesAlive_119 ?_
              refine lv_if_ne (tgt := 133) hx hb dX11_becomesAlive_120 (by decide) (fun c21 => ?_) (fun c21 => ?_)
              · replace h := it_f h c21
                refine lv_iconst (v := 1) hx hb dX11_becomesAlive_133 (by decide) ?_
                refine lv_goto (tgt := 138) hx hb dX11_becomesAlive_134 (by decide) ?_
                refine lv_istore (lv' := [(4, .int 1), (3, .int (v3 + x17)), (0, .ref o), (1, .int v1), (2, .int v2), (5, .int v5)]) hx hb dX11_becomesAlive_138 hl (by decide) rfl (fun ls hl => ?_)
                refine lv_iinc (v := (v5 + 1)) (lv' := [(5, .int (v5 + 1)), (4, .int 1), (3, .int (v3 + x17)), (0, .ref o), (1, .int v1), (2, .int v2)]) hx hb dX11_becomesAlive_140 hl (k := 5) rfl rfl (by decide) rfl (fun ls hl => ?_)
                refine lv_goto (tgt := 36) hx hb dX11_becomesAlive_143 (by decide) ?_
                exact ih o v1 v2 (v3 + x17) 1 (v5 + 1) _ _ _ _ (lv_sub hl [3, 4, 5, 2, 1, 0] rfl) hW hS h
              · replace h := it_t h c21
                refine lv_aload_n hx hb dX11_becomesAlive_123 rfl (lv_at hl 1 rfl) ?_
                refine lv_iload_n hx hb dX11_becomesAlive_124 rfl (lv_at hl 2 rfl) ?_
                refine lv_iload hx hb dX11_becomesAlive_125 (lv_at hl 5 rfl) ?_
                replace h := b1_some h
                obtain ⟨q22, gq22, h⟩ := h
                replace h := b2_some h
                obtain ⟨x23, s24, gs24, h⟩ := h
                refine z_callVi (rest := []) X hW hS (cX11_isHeld_met gs24) kb_X11_isHeld kv_X11_isHeld kl_X11_255 (it_v gq22).1 kX11 rfl rfl ⟨Nat.le_of_ble_eq_true rfl, Nat.le_of_ble_eq_true rfl⟩ rfl rfl (by decide) hl.1 dX11_becomesAlive_127 ⟨(by decide), (by decide)⟩ (fun H locs hW hS => ?_)
                refine lv_if_eq (tgt := 137) hx hb dX11_becomesAlive_130 (by decide) (fun c25 => ?_) (fun c25 => ?_)
                · replace h := it_t h c25
                  refine lv_iconst (v := 0) hx hb dX11_becomesAlive_137 (by decide) ?_
                  refine lv_istore (lv' := [(4, .int 0), (3, .int (v3 + x17)), (0, .ref o), (1, .int v1), (2, .int v2), (5, .int v5)]) hx hb dX11_becomesAlive_138 hl (by decide) rfl (fun ls hl => ?_)
                  refine lv_iinc (v := (v5 + 1)) (lv' := [(5, .int (v5 + 1)), (4, .int 0), (3, .int (v3 + x17)), (0, .ref o), (1, .int v1), (2, .int v2)]) hx hb dX11_becomesAlive_140 hl (k := 5) rfl rfl (by decide) rfl (fun ls hl => ?_)
                  refine lv_goto (tgt := 36) hx hb dX11_becomesAlive_143 (by decide) ?_
                  exact ih o v1 v2 (v3 + x17) 0 (v5 + 1) _ _ _ _ (lv_sub hl [3, 4, 5, 2, 1, 0] rfl) hW hS h
                · replace h := it_f h c25
                  refine lv_iconst (v := 1) hx hb dX11_becomesAlive_133 (by decide) ?_
                  refine lv_goto (tgt := 138) hx hb dX11_becomesAlive_134 (by decide) ?_
                  refine lv_istore (lv' := [(4, .int 1), (3, .int (v3 + x17)), (0, .ref o), (1, .int v1), (2, .int v2), (5, .int v5)]) hx hb dX11_becomesAlive_138 hl (by decide) rfl (fun ls hl => ?_)
                  refine lv_iinc (v := (v5 + 1)) (lv' := [(5, .int (v5 + 1)), (4, .int 1), (3, .int (v3 + x17)), (0, .ref o), (1, .int v1), (2, .int v2)]) hx hb dX11_becomesAlive_140 hl (k := 5) rfl rfl (by decide) rfl (fun ls hl => ?_)
                  refine lv_goto (tgt := 36) hx hb dX11_becomesAlive_143 (by decide) ?_
                  exact ih o v1 v2 (v3 + x17) 1 (v5 + 1) _ _ _ _ (lv_sub hl [3, 4, 5, 2, 1, 0] rfl) hW hS h
          · replace h := it_t h c15
            refine lv_goto (tgt := 140) hx hb dX11_becomesAlive_83 (by decide) ?_
            refine lv_iinc (v := (v5 + 1)) (lv' := [(5, .int (v5 + 1)), (0, .ref o), (1, .int v1), (2, .int v2), (3, .int v3), (4, .int v4)]) hx hb dX11_becomesAlive_140 hl (k := 5) rfl rfl (by decide) rfl (fun ls hl => ?_)
            refine lv_goto (tgt := 36) hx hb dX11_becomesAlive_143 (by decide) ?_
            exact ih o v1 v2 v3 v4 (v5 + 1) _ _ _ _ (lv_sub hl [1, 2, 3, 4, 5, 0] rfl) hW hS h

def fX11_becomesAlive (o : Nat) (v1 : Int32) (v2 : Int32) (h : Hz) : Option (Int32 × Hz) := (b1 (gA 11 43 o h) fun a1 => (b1 (xI 14 a1 ((300 * v1) + v2) h) fun x2 => (if x2 = 0 then (b1 (tg 11 o h) fun _ => (b2 (fX11_isHeld o v1 v2 h) fun x5 s6 => (if x5 = 0 then fX11_becomesAlive_36 100000 o v1 v2 0 0 0 s6 else fX11_becomesAlive_36 100000 o v1 v2 0 1 0 s6))) else fX11_becomesAlive_36 100000 o v1 v2 0 1 0 h)))
set_option maxHeartbeats 4000000 in
set_option maxRecDepth 100000 in
theorem wX11_becomesAlive_0 {r0 : Int32} {h0 : Hz} (X : zX A D cy p s m args c cX11_becomesAlive RX11 6) (hlk : meth.locks = false) (hr : meth.sig.returnType = (some .boolean)) (o : Nat) (v1 : Int32) (v2 : Int32) (h : Hz) (H : Heap) (locs : List Loc) (ls : Array Slot) (hl : lv_has ls 6 [(0, .ref o), (1, .int v1), (2, .int v2)]) (hW : zW A cy D h H) (hS : va_S A s.heap H locs) (h : fX11_becomesAlive o v1 v2 h = some (r0, h0)) : W p l e ({ frames := 1, cells := 0, slots := 0, locals := 24 } : Room) s m args below meth c H locs 0 0 (MQ below (va_Qi (fun r1 u => r1 = r0 ∧ u = h0) (zB A D cy) A) args s 0 0 A) (F0 m 0 ls []) := by
  obtain ⟨hx, hb, hts, hown, hK9, hml, hN9, hA9⟩ := id X
  unfold fX11_becomesAlive at h
  refine lv_iconst (v := 0) hx hb dX11_becomesAlive_0 (by decide) ?_
  refine lv_istore_n (lv' := [(3, .int 0), (0, .ref o), (1, .int v1), (2, .int v2)]) hx hb dX11_becomesAlive_1 rfl hl (by decide) rfl (fun ls hl => ?_)
  refine lv_aload_n hx hb dX11_becomesAlive_2 rfl (lv_at hl 1 rfl) ?_
  replace h := b1_some h
  obtain ⟨a1, ga1, h⟩ := h
  refine z_getA X hW ga1 kX11 (by decide) (by decide) kf_X11_127 dX11_becomesAlive_3 ?_
  refine lv_sipush (v := 300) hx hb dX11_becomesAlive_6 (by decide) ?_
  refine lv_iload_n hx hb dX11_becomesAlive_9 rfl (lv_at hl 2 rfl) ?_
  refine lv_imul hx hb dX11_becomesAlive_10 ?_
  refine lv_iload_n hx hb dX11_becomesAlive_11 rfl (lv_at hl 3 rfl) ?_
  refine lv_iadd hx hb dX11_becomesAlive_12 ?_
  replace h := b1_some h
  obtain ⟨x2, gx2, h⟩ := h
  refine z_aldZ X hW gx2 dX11_becomesAlive_13 ?_
  refine lv_if_ne (tgt := 26) hx hb dX11_becomesAlive_14 (by decide) (fun c3 => ?_) (fun c3 => ?_)
  · replace h := it_f h c3
    refine lv_iconst (v := 1) hx hb dX11_becomesAlive_26 (by decide) ?_
    refine lv_goto (tgt := 31) hx hb dX11_becomesAlive_27 (by decide) ?_
    refine lv_istore (lv' := [(4, .int 1), (3, .int 0), (0, .ref o), (1, .int v1), (2, .int v2)]) hx hb dX11_becomesAlive_31 hl (by decide) rfl (fun ls hl => ?_)
    refine lv_iconst (v := 0) hx hb dX11_becomesAlive_33 (by decide) ?_
    refine lv_istore (lv' := [(5, .int 0), (4, .int 1), (3, .int 0), (0, .ref o), (1, .int v1), (2, .int v2)]) hx hb dX11_becomesAlive_34 hl (by decide) rfl (fun ls hl => ?_)
    exact wX11_becomesAlive_36 X hlk hr _ o v1 v2 0 1 0 _ _ _ _ (lv_sub hl [3, 4, 5, 2, 1, 0] rfl) hW hS h
  · replace h := it_t h c3
    refine lv_aload_n hx hb dX11_becomesAlive_17 rfl (lv_at hl 1 rfl) ?_
    refine lv_iload_n hx hb dX11_becomesAlive_18 rfl (lv_at hl 2 rfl) ?_
    refine lv_iload_n hx hb dX11_becomesAlive_19 rfl (lv_at hl 3 rfl) ?_
    replace h := b1_some h
    obtain ⟨q4, gq4, h⟩ := h
    replace h := b2_some h
    obtain ⟨x5, s6, gs6, h⟩ := h
    refine z_callVi (rest := []) X hW hS (cX11_isHeld_met gs6) kb_X11_isHeld kv_X11_isHeld kl_X11_255 (it_v gq4).1 kX11 rfl rfl ⟨Nat.le_of_ble_eq_true rfl, Nat.le_of_ble_eq_true rfl⟩ rfl rfl (by decide) hl.1 dX11_becomesAlive_20 ⟨(by decide), (by decide)⟩ (fun H locs hW hS => ?_)
    refine lv_if_eq (tgt := 30) hx hb dX11_becomesAlive_23 (by decide) (fun c7 => ?_) (fun c7 => ?_)
    · replace h := it_t h c7
      refine lv_iconst (v := 0) hx hb dX11_becomesAlive_30 (by decide) ?_
      refine lv_istore (lv' := [(4, .int 0), (3, .int 0), (0, .ref o), (1, .int v1), (2, .int v2)]) hx hb dX11_becomesAlive_31 hl (by decide) rfl (fun ls hl => ?_)
      refine lv_iconst (v := 0) hx hb dX11_becomesAlive_33 (by decide) ?_
      refine lv_istore (lv' := [(5, .int 0), (4, .int 0), (3, .int 0), (0, .ref o), (1, .int v1), (2, .int v2)]) hx hb dX11_becomesAlive_34 hl (by decide) rfl (fun ls hl => ?_)
      exact wX11_becomesAlive_36 X hlk hr _ o v1 v2 0 0 0 _ _ _ _ (lv_sub hl [3, 4, 5, 2, 1, 0] rfl) hW hS h
    · replace h := it_f h c7
      refine lv_iconst (v := 1) hx hb dX11_becomesAlive_26 (by decide) ?_
      refine lv_goto (tgt := 31) hx hb dX11_becomesAlive_27 (by decide) ?_
      refine lv_istore (lv' := [(4, .int 1), (3, .int 0), (0, .ref o), (1, .int v1), (2, .int v2)]) hx hb dX11_becomesAlive_31 hl (by decide) rfl (fun ls hl => ?_)
      refine lv_iconst (v := 0) hx hb dX11_becomesAlive_33 (by decide) ?_
      refine lv_istore (lv' := [(5, .int 0), (4, .int 1), (3, .int 0), (0, .ref o), (1, .int v1), (2, .int v2)]) hx hb dX11_becomesAlive_34 hl (by decide) rfl (fun ls hl => ?_)
      exact wX11_becomesAlive_36 X hlk hr _ o v1 v2 0 1 0 _ _ _ _ (lv_sub hl [3, 4, 5, 2, 1, 0] rfl) hW hS h

set_option maxHeartbeats 4000000 in
set_option maxRecDepth 100000 in
theorem cX11_becomesAlive_met {l : Launch} {A : Nat → Prop} {D : va_G} {cy : Nat → ClassId} {r0 : Int32} {h0 : Hz} {o : Nat} {v1 : Int32} {v2 : Int32} {h : Hz} (g : fX11_becomesAlive o v1 v2 h = some (r0, h0)) : Met l yX11_becomesAlive (Cond.code yX11_becomesAlive cX11_becomesAlive 6 (some .boolean) :: wT) ({ frames := 1, cells := 0, slots := 0, locals := 24 } : Room) (va_Pc [.ref o, .int v1, .int v2] (zS A D cy h)) (va_Qi (fun r1 u => r1 = r0 ∧ u = h0) (zB A D cy) A) 0 0 A := by
  refine Met.ofW (cc := cX11_becomesAlive) (maxL := 6) (ret := (some .boolean)) (by decide) rfl ?_
  intro p e s m args below meth c s₁ B hml hv
  obtain ⟨rfl, hW, hK, hN, hA⟩ := hv
  have X : zX A D cy p s m _ c cX11_becomesAlive RX11 6 := ⟨B.exec, B.bytes, fun w hw => atoms_spec (ws := Cond.code yX11_becomesAlive cX11_becomesAlive 6 (some .boolean) :: wT) B.pre w (List.mem_cons_of_mem _ hw), findClass_of_methodNamed B.named, hK, hml, hN, hA⟩
  have hl := lv_entry [.ref o, .int v1, .int v2] (n := 6) (Nat.le_of_ble_eq_true rfl)
  rw [lg_entry_eq]
  generalize (lg_sl [.ref o, .int v1, .int v2] ++ List.replicate (6 - (lg_sl [.ref o, .int v1, .int v2]).length) Slot.unset).toArray = ls at hl ⊢
  have hl : lv_has ls 6 [(0, .ref o), (1, .int v1), (2, .int v2)] := hl
  exact wX11_becomesAlive_0 X B.notSynchronized B.returns o v1 v2 _ _ _ _ (lv_sub hl [0, 1, 2] rfl) hW va_S.rf g

theorem dX11_isAlive_0 : decode cX11_isAlive 0 = .ok (.iconst 0, 1) := by decide +kernel
theorem dX11_isAlive_1 : decode cX11_isAlive 1 = .ok (.istore_n 3, 1) := by decide +kernel
theorem dX11_isAlive_2 : decode cX11_isAlive 2 = .ok (.iload_n 3, 1) := by decide +kernel
theorem dX11_isAlive_3 : decode cX11_isAlive 3 = .ok (.sipush 300, 3) := by decide +kernel
theorem dX11_isAlive_6 : decode cX11_isAlive 6 = .ok (.if_icmp .ge 16, 3) := by decide +kernel
theorem dX11_isAlive_9 : decode cX11_isAlive 9 = .ok (.aload_n 0, 1) := by decide +kernel
theorem dX11_isAlive_10 : decode cX11_isAlive 10 = .ok (.getfield 136, 3) := by decide +kernel
theorem dX11_isAlive_13 : decode cX11_isAlive 13 = .ok (.iload_n 3, 1) := by decide +kernel
theorem dX11_isAlive_14 : decode cX11_isAlive 14 = .ok (.iconst 0, 1) := by decide +kernel
theorem dX11_isAlive_15 : decode cX11_isAlive 15 = .ok (.bastore, 1) := by decide +kernel
theorem dX11_isAlive_16 : decode cX11_isAlive 16 = .ok (.iinc 3 1, 3) := by decide +kernel
theorem dX11_isAlive_19 : decode cX11_isAlive 19 = .ok (.goto (-17), 3) := by decide +kernel
theorem dX11_isAlive_22 : decode cX11_isAlive 22 = .ok (.iconst 1, 1) := by decide +kernel
theorem dX11_isAlive_23 : decode cX11_isAlive 23 = .ok (.istore_n 3, 1) := by decide +kernel
theorem dX11_isAlive_24 : decode cX11_isAlive 24 = .ok (.iload_n 3, 1) := by decide +kernel
theorem dX11_isAlive_25 : decode cX11_isAlive 25 = .ok (.ifCond .eq 86, 3) := by decide +kernel
theorem dX11_isAlive_28 : decode cX11_isAlive 28 = .ok (.iconst 0, 1) := by decide +kernel
theorem dX11_isAlive_29 : decode cX11_isAlive 29 = .ok (.istore_n 3, 1) := by decide +kernel
theorem dX11_isAlive_30 : decode cX11_isAlive 30 = .ok (.iconst 0, 1) := by decide +kernel
theorem dX11_isAlive_31 : decode cX11_isAlive 31 = .ok (.istore 4, 2) := by decide +kernel
theorem dX11_isAlive_33 : decode cX11_isAlive 33 = .ok (.iload 4, 2) := by decide +kernel
theorem dX11_isAlive_35 : decode cX11_isAlive 35 = .ok (.aload_n 0, 1) := by decide +kernel
theorem dX11_isAlive_36 : decode cX11_isAlive 36 = .ok (.getfield 145, 3) := by decide +kernel
theorem dX11_isAlive_39 : decode cX11_isAlive 39 = .ok (.if_icmp .ge 69, 3) := by decide +kernel
theorem dX11_isAlive_42 : decode cX11_isAlive 42 = .ok (.aload_n 0, 1) := by decide +kernel
theorem dX11_isAlive_43 : decode cX11_isAlive 43 = .ok (.getfield 136, 3) := by decide +kernel
theorem dX11_isAlive_46 : decode cX11_isAlive 46 = .ok (.iload 4, 2) := by decide +kernel
theorem dX11_isAlive_48 : decode cX11_isAlive 48 = .ok (.baload, 1) := by decide +kernel
theorem dX11_isAlive_49 : decode cX11_isAlive 49 = .ok (.ifCond .ne 53, 3) := by decide +kernel
theorem dX11_isAlive_52 : decode cX11_isAlive 52 = .ok (.aload_n 0, 1) := by decide +kernel
theorem dX11_isAlive_53 : decode cX11_isAlive 53 = .ok (.getfield 9, 3) := by decide +kernel
theorem dX11_isAlive_56 : decode cX11_isAlive 56 = .ok (.iload 4, 2) := by decide +kernel
theorem dX11_isAlive_58 : decode cX11_isAlive 58 = .ok (.iaload, 1) := by decide +kernel
theorem dX11_isAlive_59 : decode cX11_isAlive 59 = .ok (.iconst 3, 1) := by decide +kernel
theorem dX11_isAlive_60 : decode cX11_isAlive 60 = .ok (.if_icmp .eq 42, 3) := by decide +kernel
theorem dX11_isAlive_63 : decode cX11_isAlive 63 = .ok (.aload_n 0, 1) := by decide +kernel
theorem dX11_isAlive_64 : decode cX11_isAlive 64 = .ok (.getfield 124, 3) := by decide +kernel
theorem dX11_isAlive_67 : decode cX11_isAlive 67 = .ok (.sipush 300, 3) := by decide +kernel
theorem dX11_isAlive_70 : decode cX11_isAlive 70 = .ok (.iload_n 1, 1) := by decide +kernel
theorem dX11_isAlive_71 : decode cX11_isAlive 71 = .ok (.imul, 1) := by decide +kernel
theorem dX11_isAlive_72 : decode cX11_isAlive 72 = .ok (.iload 4, 2) := by decide +kernel
theorem dX11_isAlive_74 : decode cX11_isAlive 74 = .ok (.iadd, 1) := by decide +kernel
theorem dX11_isAlive_75 : decode cX11_isAlive 75 = .ok (.baload, 1) := by decide +kernel
theorem dX11_isAlive_76 : decode cX11_isAlive 76 = .ok (.ifCond .eq 26, 3) := by decide +kernel
theorem dX11_isAlive_79 : decode cX11_isAlive 79 = .ok (.aload_n 0, 1) := by decide +kernel
theorem dX11_isAlive_80 : decode cX11_isAlive 80 = .ok (.iload_n 1, 1) := by decide +kernel
theorem dX11_isAlive_81 : decode cX11_isAlive 81 = .ok (.iload 4, 2) := by decide +kernel
theorem dX11_isAlive_83 : decode cX11_isAlive 83 = .ok (.invokevirtual 258, 3) := by decide +kernel
theorem dX11_isAlive_86 : decode cX11_isAlive 86 = .ok (.ifCond .ne 6, 3) := by decide +kernel
theorem dX11_isAlive_89 : decode cX11_isAlive 89 = .ok (.goto 13, 3) := by decide +kernel
theorem dX11_isAlive_92 : decode cX11_isAlive 92 = .ok (.aload_n 0, 1) := by decide +kernel
theorem dX11_isAlive_93 : decode cX11_isAlive 93 = .ok (.getfield 136, 3) := by decide +kernel
theorem dX11_isAlive_96 : decode cX11_isAlive 96 = .ok (.iload 4, 2) := by decide +kernel
theorem dX11_isAlive_98 : decode cX11_isAlive 98 = .ok (.iconst 1, 1) := by decide +kernel
theorem dX11_isAlive_99 : decode cX11_isAlive 99 = .ok (.bastore, 1) := by decide +kernel
theorem dX11_isAlive_100 : decode cX11_isAlive 100 = .ok (.iconst 1, 1) := by decide +kernel
theorem dX11_isAlive_101 : decode cX11_isAlive 101 = .ok (.istore_n 3, 1) := by decide +kernel
theorem dX11_isAlive_102 : decode cX11_isAlive 102 = .ok (.iinc 4 1, 3) := by decide +kernel
theorem dX11_isAlive_105 : decode cX11_isAlive 105 = .ok (.goto (-72), 3) := by decide +kernel
theorem dX11_isAlive_108 : decode cX11_isAlive 108 = .ok (.goto (-84), 3) := by decide +kernel
theorem dX11_isAlive_111 : decode cX11_isAlive 111 = .ok (.aload_n 0, 1) := by decide +kernel
theorem dX11_isAlive_112 : decode cX11_isAlive 112 = .ok (.getfield 136, 3) := by decide +kernel
theorem dX11_isAlive_115 : decode cX11_isAlive 115 = .ok (.iload_n 2, 1) := by decide +kernel
theorem dX11_isAlive_116 : decode cX11_isAlive 116 = .ok (.baload, 1) := by decide +kernel
theorem dX11_isAlive_117 : decode cX11_isAlive 117 = .ok (.ireturn, 1) := by decide +kernel
def fX11_isAlive_33 (K24 : Nat → Int32 → Int32 → Int32 → Hz → Option (Int32 × Hz)) : Nat → Nat → Int32 → Int32 → Int32 → Int32 → Hz → Option (Int32 × Hz)
  | 0, _, _, _, _, _, _ => none
  | n + 1, o, v1, v2, v3, v4, h => (b1 (gI 11 9 o h) fun x1 => (if x1 ≤ v4 then K24 o v1 v2 v3 h else (b1 (gA 11 47 o h) fun a3 => (b1 (xI 14 a3 v4 h) fun x4 => (if x4 = 0 then (b1 (gA 11 0 o h) fun a6 => (b1 (xI 12 a6 v4 h) fun x7 => (if x7 = 3 then fX11_isAlive_33 K24 n o v1 v2 v3 (v4 + 1) h else (b1 (gA 11 42 o h) fun a9 => (b1 (xI 14 a9 ((300 * v1) + v4) h) fun x10 => (if x10 = 0 then fX11_isAlive_33 K24 n o v1 v2 v3 (v4 + 1) h else (b1 (tg 11 o h) fun _ => (b2 (fX11_becomesAlive o v1 v4 h) fun x13 s14 => (if x13 = 0 then fX11_isAlive_33 K24 n o v1 v2 v3 (v4 + 1) s14 else (b1 (gA 11 47 o s14) fun a16 => (b1 (yZ a16 v4 1 s14) fun s17 => fX11_isAlive_33 K24 n o v1 v2 1 (v4 + 1) s17))))))))))) else fX11_isAlive_33 K24 n o v1 v2 v3 (v4 + 1) h)))))
set_option maxHeartbeats 4000000 in
set_option maxRecDepth 100000 in
theorem wX11_isAlive_33 {r0 : Int32} {h0 : Hz} (X : zX A D cy p s m args c cX11_isAlive RX11 5) (hlk : meth.locks = false) (hr : meth.sig.returnType = (some .boolean)) {K24 : Nat → Int32 → Int32 → Int32 → Hz → Option (Int32 × Hz)} (hK24 : ∀ (o : Nat) (u1 : Int32) (u2 : Int32) (u3 : Int32) (h : Hz) (H : Heap) (locs : List Loc) (ls : Array Slot), lv_has ls 5 [(0, .ref o), (1, .int u1), (2, .int u2), (3, .int u3)] → zW A cy D h H → va_S A s.heap H locs → K24 o u1 u2 u3 h = some (r0, h0) → W p l e ({ frames := 2, cells := 0, slots := 0, locals := 49 } : Room) s m args below meth c H locs 0 0 (MQ below (va_Qi (fun r1 u => r1 = r0 ∧ u = h0) (zB A D cy) A) args s 0 0 A) (F0 m 24 ls [])) : ∀ (n : Nat) (o : Nat) (v1 : Int32) (v2 : Int32) (v3 : Int32) (v4 : Int32) (h : Hz) (H : Heap) (locs : List Loc) (ls : Array Slot) (hl : lv_has ls 5 [(0, .ref o), (1, .int v1), (2, .int v2), (3, .int v3), (4, .int v4)]) (hW : zW A cy D h H) (hS : va_S A s.heap H locs) (h : fX11_isAlive_33 K24 n o v1 v2 v3 v4 h = some (r0, h0)), W p l e ({ frames := 2, cells := 0, slots := 0, locals := 49 } : Room) s m args below meth c H locs 0 0 (MQ below (va_Qi (fun r1 u => r1 = r0 ∧ u = h0) (zB A D cy) A) args s 0 0 A) (F0 m 33 ls []) := by
  obtain ⟨hx, hb, hts, hown, hK9, hml, hN9, hA9⟩ := id X
  intro n
  induction n with
  | zero =>
    intro o v1 v2 v3 v4 h H locs ls hl hW hS h
    rw [fX11_isAlive_33] at h
    cases h
  | succ n ih =>
    intro o v1 v2 v3 v4 h H locs ls hl hW hS h
    rw [fX11_isAlive_33] at h
    refine lv_iload hx hb dX11_isAlive_33 (lv_at hl 4 rfl) ?_
    refine lv_aload_n hx hb dX11_isAlive_35 rfl (lv_at hl 0 rfl) ?_
    replace h := b1_some h
    obtain ⟨x1, gx1, h⟩ := h
    refine z_getI X hW gx1 kX11 (by decide) (by decide) kf_X11_145 dX11_isAlive_36 ?_
    refine lv_icmp_ge (tgt := 108) hx hb dX11_isAlive_39 (by decide) (fun c2 => ?_) (fun c2 => ?_)
    · replace h := it_t h c2
      refine lv_goto (tgt := 24) hx hb dX11_isAlive_108 (by decide) ?_
      exact hK24 o v1 v2 v3 _ _ _ _ (lv_sub hl [0, 1, 2, 3] rfl) hW hS h
    · replace h := it_f h c2
      refine lv_aload_n hx hb dX11_isAlive_42 rfl (lv_at hl 0 rfl) ?_
      replace h := b1_some h
      obtain ⟨a3, ga3, h⟩ := h
      refine z_getA X hW ga3 kX11 (by decide) (by decide) kf_X11_136 dX11_isAlive_43 ?_
      refine lv_iload hx hb dX11_isAlive_46 (lv_at hl 4 rfl) ?_
      replace h := b1_some h
      obtain ⟨x4, gx4, h⟩ := h
      refine z_aldZ X hW gx4 dX11_isAlive_48 ?_
      refine lv_if_ne (tgt := 102) hx hb dX11_isAlive_49 (by decide) (fun c5 => ?_) (fun c5 => ?_)
      · replace h := it_f h c5
        refine lv_iinc (v := (v4 + 1)) (lv' := [(4, .int (v4 + 1)), (0, .ref o), (1, .int v1), (2, .int v2), (3, .int v3)]) hx hb dX11_isAlive_102 hl (k := 4) rfl rfl (by decide) rfl (fun ls hl => ?_)
        refine lv_goto (tgt := 33) hx hb dX11_isAlive_105 (by decide) ?_
        exact ih o v1 v2 v3 (v4 + 1) _ _ _ _ (lv_sub hl [1, 2, 3, 4, 0] rfl) hW hS h
      · replace h := it_t h c5
        refine lv_aload_n hx hb dX11_isAlive_52 rfl (lv_at hl 0 rfl) ?_
        replace h := b1_some h
        obtain ⟨a6, ga6, h⟩ := h
        refine z_getA X hW ga6 kX11 (by decide) (by decide) kf_X11_9 dX11_isAlive_53 ?_
        refine lv_iload hx hb dX11_isAlive_56 (lv_at hl 4 rfl) ?_
        replace h := b1_some h
        obtain ⟨x7, gx7, h⟩ := h
        refine z_aldI X hW gx7 dX11_isAlive_58 ?_
        refine lv_iconst (v := 3) hx hb dX11_isAlive_59 (by decide) ?_
        refine lv_icmp_eq (tgt := 102) hx hb dX11_isAlive_60 (by decide) (fun c8 => ?_) (fun c8 => ?_)
        · replace h := it_t h c8
          refine lv_iinc (v := (v4 + 1)) (lv' := [(4, .int (v4 + 1)), (0, .ref o), (1, .int v1), (2, .int v2), (3, .int v3)]) hx hb dX11_isAlive_102 hl (k := 4) rfl rfl (by decide) rfl (fun ls hl => ?_)
          refine lv_goto (tgt := 33) hx hb dX11_isAlive_105 (by decide) ?_
          exact ih o v1 v2 v3 (v4 + 1) _ _ _ _ (lv_sub hl [1, 2, 3, 4, 0] rfl) hW hS h
        · replace h := it_f h c8
          refine lv_aload_n hx hb dX11_isAlive_63 rfl (lv_at hl 0 rfl) ?_
          replace h := b1_some h
          obtain ⟨a9, ga9, h⟩ := h
          refine z_getA X hW ga9 kX11 (by decide) (by decide) kf_X11_124 dX11_isAlive_64 ?_
          refine lv_sipush (v := 300) hx hb dX11_isAlive_67 (by decide) ?_
          refine lv_iload_n hx hb dX11_isAlive_70 rfl (lv_at hl 1 rfl) ?_
          refine lv_imul hx hb dX11_isAlive_71 ?_
          refine lv_iload hx hb dX11_isAlive_72 (lv_at hl 4 rfl) ?_
          refine lv_iadd hx hb dX11_isAlive_74 ?_
          replace h := b1_some h
          obtain ⟨x10, gx10, h⟩ := h
          refine z_aldZ X hW gx10 dX11_isAlive_75 ?_
          refine lv_if_eq (tgt := 102) hx hb dX11_isAlive_76 (by decide) (fun c11 => ?_) (fun c11 => ?_)
          · replace h := it_t h c11
            refine lv_iinc (v := (v4 + 1)) (lv' := [(4, .int (v4 + 1)), (0, .ref o), (1, .int v1), (2, .int v2), (3, .int v3)]) hx hb dX11_isAlive_102 hl (k := 4) rfl rfl (by decide) rfl (fun ls hl => ?_)
            refine lv_goto (tgt := 33) hx hb dX11_isAlive_105 (by decide) ?_
            exact ih o v1 v2 v3 (v4 + 1) _ _ _ _ (lv_sub hl [1, 2, 3, 4, 0] rfl) hW hS h
          · replace h := it_f h c11
            refine lv_aload_n hx hb dX11_isAlive_79 rfl (lv_at hl 0 rfl) ?_
            refine lv_iload_n hx hb dX11_isAlive_80 rfl (lv_at hl 1 rfl) ?_
            refine lv_iload hx hb dX11_isAlive_81 (lv_at hl 4 rfl) ?_
            replace h := b1_some h
            obtain ⟨q12, gq12, h⟩ := h
            replace h := b2_some h
            obtain ⟨x13, s14, gs14, h⟩ := h
            refine z_callVi (rest := []) X hW hS (cX11_becomesAlive_met gs14) kb_X11_becomesAlive kv_X11_becomesAlive kl_X11_258 (it_v gq12).1 kX11 rfl rfl ⟨Nat.le_of_ble_eq_true rfl, Nat.le_of_ble_eq_true rfl⟩ rfl rfl (by decide) hl.1 dX11_isAlive_83 ⟨(by decide), (by decide)⟩ (fun H locs hW hS => ?_)
            refine lv_if_ne (tgt := 92) hx hb dX11_isAlive_86 (by decide) (fun c15 => ?_) (fun c15 => ?_)
            · replace h := it_f h c15
              refine lv_aload_n hx hb dX11_isAlive_92 rfl (lv_at hl 0 rfl) ?_
              replace h := b1_some h
              obtain ⟨a16, ga16, h⟩ := h
              refine z_getA X hW ga16 kX11 (by decide) (by decide) kf_X11_136 dX11_isAlive_93 ?_
              refine lv_iload hx hb dX11_isAlive_96 (lv_at hl 4 rfl) ?_
              refine lv_iconst (v := 1) hx hb dX11_isAlive_98 (by decide) ?_
              replace h := b1_some h
              obtain ⟨s17, gs17, h⟩ := h
              refine z_astZ X hW hS gs17 dX11_isAlive_99 (fun H locs hW hS => ?_)
              refine lv_iconst (v := 1) hx hb dX11_isAlive_100 (by decide) ?_
              refine lv_istore_n (lv' := [(3, .int 1), (0, .ref o), (1, .int v1), (2, .int v2), (4, .int v4)]) hx hb dX11_isAlive_101 rfl hl (by decide) rfl (fun ls hl => ?_)
              refine lv_iinc (v := (v4 + 1)) (lv' := [(4, .int (v4 + 1)), (3, .int 1), (0, .ref o), (1, .int v1), (2, .int v2)]) hx hb dX11_isAlive_102 hl (k := 4) rfl rfl (by decide) rfl (fun ls hl => ?_)
              refine lv_goto (tgt := 33) hx hb dX11_isAlive_105 (by decide) ?_
              exact ih o v1 v2 1 (v4 + 1) _ _ _ _ (lv_sub hl [2, 3, 4, 1, 0] rfl) hW hS h
            · replace h := it_t h c15
              refine lv_goto (tgt := 102) hx hb dX11_isAlive_89 (by decide) ?_
              refine lv_iinc (v := (v4 + 1)) (lv' := [(4, .int (v4 + 1)), (0, .ref o), (1, .int v1), (2, .int v2), (3, .int v3)]) hx hb dX11_isAlive_102 hl (k := 4) rfl rfl (by decide) rfl (fun ls hl => ?_)
              refine lv_goto (tgt := 33) hx hb dX11_isAlive_105 (by decide) ?_
              exact ih o v1 v2 v3 (v4 + 1) _ _ _ _ (lv_sub hl [1, 2, 3, 4, 0] rfl) hW hS h

def fX11_isAlive_24 : Nat → Nat → Int32 → Int32 → Int32 → Hz → Option (Int32 × Hz)
  | 0, _, _, _, _, _ => none
  | n + 1, o, v1, v2, v3, h => (if v3 = 0 then (b1 (gA 11 47 o h) fun a2 => (b1 (xI 14 a2 v2 h) fun x3 => rz x3 h)) else fX11_isAlive_33 (fX11_isAlive_24 n) 100000 o v1 v2 0 0 h)
set_option maxHeartbeats 4000000 in
set_option maxRecDepth 100000 in
theorem wX11_isAlive_24 {r0 : Int32} {h0 : Hz} (X : zX A D cy p s m args c cX11_isAlive RX11 5) (hlk : meth.locks = false) (hr : meth.sig.returnType = (some .boolean)) : ∀ (n : Nat) (o : Nat) (v1 : Int32) (v2 : Int32) (v3 : Int32) (h : Hz) (H : Heap) (locs : List Loc) (ls : Array Slot) (hl : lv_has ls 5 [(0, .ref o), (1, .int v1), (2, .int v2), (3, .int v3)]) (hW : zW A cy D h H) (hS : va_S A s.heap H locs) (h : fX11_isAlive_24 n o v1 v2 v3 h = some (r0, h0)), W p l e ({ frames := 2, cells := 0, slots := 0, locals := 49 } : Room) s m args below meth c H locs 0 0 (MQ below (va_Qi (fun r1 u => r1 = r0 ∧ u = h0) (zB A D cy) A) args s 0 0 A) (F0 m 24 ls []) := by
  obtain ⟨hx, hb, hts, hown, hK9, hml, hN9, hA9⟩ := id X
  intro n
  induction n with
  | zero =>
    intro o v1 v2 v3 h H locs ls hl hW hS h
    rw [fX11_isAlive_24] at h
    cases h
  | succ n ih =>
    intro o v1 v2 v3 h H locs ls hl hW hS h
    rw [fX11_isAlive_24] at h
    refine lv_iload_n hx hb dX11_isAlive_24 rfl (lv_at hl 3 rfl) ?_
    refine lv_if_eq (tgt := 111) hx hb dX11_isAlive_25 (by decide) (fun c1 => ?_) (fun c1 => ?_)
    · replace h := it_t h c1
      refine lv_aload_n hx hb dX11_isAlive_111 rfl (lv_at hl 0 rfl) ?_
      replace h := b1_some h
      obtain ⟨a2, ga2, h⟩ := h
      refine z_getA X hW ga2 kX11 (by decide) (by decide) kf_X11_136 dX11_isAlive_112 ?_
      refine lv_iload_n hx hb dX11_isAlive_115 rfl (lv_at hl 2 rfl) ?_
      replace h := b1_some h
      obtain ⟨x3, gx3, h⟩ := h
      refine z_aldZ X hW gx3 dX11_isAlive_116 ?_
      exact z_etz X hlk hr hW hS h (by decide) (by decide) dX11_isAlive_117
    · replace h := it_f h c1
      refine lv_iconst (v := 0) hx hb dX11_isAlive_28 (by decide) ?_
      refine lv_istore_n (lv' := [(3, .int 0), (0, .ref o), (1, .int v1), (2, .int v2)]) hx hb dX11_isAlive_29 rfl hl (by decide) rfl (fun ls hl => ?_)
      refine lv_iconst (v := 0) hx hb dX11_isAlive_30 (by decide) ?_
      refine lv_istore (lv' := [(4, .int 0), (3, .int 0), (0, .ref o), (1, .int v1), (2, .int v2)]) hx hb dX11_isAlive_31 hl (by decide) rfl (fun ls hl => ?_)
      exact wX11_isAlive_33 X hlk hr ih _ o v1 v2 0 0 _ _ _ _ (lv_sub hl [2, 3, 4, 1, 0] rfl) hW hS h

def fX11_isAlive_2 : Nat → Nat → Int32 → Int32 → Int32 → Hz → Option (Int32 × Hz)
  | 0, _, _, _, _, _ => none
  | n + 1, o, v1, v2, v3, h => (if 300 ≤ v3 then fX11_isAlive_24 100000 o v1 v2 1 h else (b1 (gA 11 47 o h) fun a2 => (b1 (yZ a2 v3 0 h) fun s3 => fX11_isAlive_2 n o v1 v2 (v3 + 1) s3)))
set_option maxHeartbeats 4000000 in
set_option maxRecDepth 100000 in
theorem wX11_isAlive_2 {r0 : Int32} {h0 : Hz} (X : zX A D cy p s m args c cX11_isAlive RX11 5) (hlk : meth.locks = false) (hr : meth.sig.returnType = (some .boolean)) : ∀ (n : Nat) (o : Nat) (v1 : Int32) (v2 : Int32) (v3 : Int32) (h : Hz) (H : Heap) (locs : List Loc) (ls : Array Slot) (hl : lv_has ls 5 [(0, .ref o), (1, .int v1), (2, .int v2), (3, .int v3)]) (hW : zW A cy D h H) (hS : va_S A s.heap H locs) (h : fX11_isAlive_2 n o v1 v2 v3 h = some (r0, h0)), W p l e ({ frames := 2, cells := 0, slots := 0, locals := 49 } : Room) s m args below meth c H locs 0 0 (MQ below (va_Qi (fun r1 u => r1 = r0 ∧ u = h0) (zB A D cy) A) args s 0 0 A) (F0 m 2 ls []) := by
  obtain ⟨hx, hb, hts, hown, hK9, hml, hN9, hA9⟩ := id X
  intro n
  induction n with
  | zero =>
    intro o v1 v2 v3 h H locs ls hl hW hS h
    rw [fX11_isAlive_2] at h
    cases h
  | succ n ih =>
    intro o v1 v2 v3 h H locs ls hl hW hS h
    rw [fX11_isAlive_2] at h
    refine lv_iload_n hx hb dX11_isAlive_2 rfl (lv_at hl 3 rfl) ?_
    refine lv_sipush (v := 300) hx hb dX11_isAlive_3 (by decide) ?_
    refine lv_icmp_ge (tgt := 22) hx hb dX11_isAlive_6 (by decide) (fun c1 => ?_) (fun c1 => ?_)
    · replace h := it_t h c1
      refine lv_iconst (v := 1) hx hb dX11_isAlive_22 (by decide) ?_
      refine lv_istore_n (lv' := [(3, .int 1), (0, .ref o), (1, .int v1), (2, .int v2)]) hx hb dX11_isAlive_23 rfl hl (by decide) rfl (fun ls hl => ?_)
      exact wX11_isAlive_24 X hlk hr _ o v1 v2 1 _ _ _ _ (lv_sub hl [1, 2, 3, 0] rfl) hW hS h
    · replace h := it_f h c1
      refine lv_aload_n hx hb dX11_isAlive_9 rfl (lv_at hl 0 rfl) ?_
      replace h := b1_some h
      obtain ⟨a2, ga2, h⟩ := h
      refine z_getA X hW ga2 kX11 (by decide) (by decide) kf_X11_136 dX11_isAlive_10 ?_
      refine lv_iload_n hx hb dX11_isAlive_13 rfl (lv_at hl 3 rfl) ?_
      refine lv_iconst (v := 0) hx hb dX11_isAlive_14 (by decide) ?_
      replace h := b1_some h
      obtain ⟨s3, gs3, h⟩ := h
      refine z_astZ X hW hS gs3 dX11_isAlive_15 (fun H locs hW hS => ?_)
      refine lv_iinc (v := (v3 + 1)) (lv' := [(3, .int (v3 + 1)), (0, .ref o), (1, .int v1), (2, .int v2)]) hx hb dX11_isAlive_16 hl (k := 3) rfl rfl (by decide) rfl (fun ls hl => ?_)
      refine lv_goto (tgt := 2) hx hb dX11_isAlive_19 (by decide) ?_
      exact ih o v1 v2 (v3 + 1) _ _ _ _ (lv_sub hl [1, 2, 3, 0] rfl) hW hS h

def fX11_isAlive (o : Nat) (v1 : Int32) (v2 : Int32) (h : Hz) : Option (Int32 × Hz) := fX11_isAlive_2 100000 o v1 v2 0 h
set_option maxHeartbeats 4000000 in
set_option maxRecDepth 100000 in
theorem wX11_isAlive_0 {r0 : Int32} {h0 : Hz} (X : zX A D cy p s m args c cX11_isAlive RX11 5) (hlk : meth.locks = false) (hr : meth.sig.returnType = (some .boolean)) (o : Nat) (v1 : Int32) (v2 : Int32) (h : Hz) (H : Heap) (locs : List Loc) (ls : Array Slot) (hl : lv_has ls 5 [(0, .ref o), (1, .int v1), (2, .int v2)]) (hW : zW A cy D h H) (hS : va_S A s.heap H locs) (h : fX11_isAlive o v1 v2 h = some (r0, h0)) : W p l e ({ frames := 2, cells := 0, slots := 0, locals := 49 } : Room) s m args below meth c H locs 0 0 (MQ below (va_Qi (fun r1 u => r1 = r0 ∧ u = h0) (zB A D cy) A) args s 0 0 A) (F0 m 0 ls []) := by
  obtain ⟨hx, hb, hts, hown, hK9, hml, hN9, hA9⟩ := id X
  unfold fX11_isAlive at h
  refine lv_iconst (v := 0) hx hb dX11_isAlive_0 (by decide) ?_
  refine lv_istore_n (lv' := [(3, .int 0), (0, .ref o), (1, .int v1), (2, .int v2)]) hx hb dX11_isAlive_1 rfl hl (by decide) rfl (fun ls hl => ?_)
  exact wX11_isAlive_2 X hlk hr _ o v1 v2 0 _ _ _ _ (lv_sub hl [1, 2, 3, 0] rfl) hW hS h

set_option maxHeartbeats 4000000 in
set_option maxRecDepth 100000 in
theorem cX11_isAlive_met {l : Launch} {A : Nat → Prop} {D : va_G} {cy : Nat → ClassId} {r0 : Int32} {h0 : Hz} {o : Nat} {v1 : Int32} {v2 : Int32} {h : Hz} (g : fX11_isAlive o v1 v2 h = some (r0, h0)) : Met l yX11_isAlive (Cond.code yX11_isAlive cX11_isAlive 5 (some .boolean) :: wT) ({ frames := 2, cells := 0, slots := 0, locals := 49 } : Room) (va_Pc [.ref o, .int v1, .int v2] (zS A D cy h)) (va_Qi (fun r1 u => r1 = r0 ∧ u = h0) (zB A D cy) A) 0 0 A := by
  refine Met.ofW (cc := cX11_isAlive) (maxL := 5) (ret := (some .boolean)) (by decide) rfl ?_
  intro p e s m args below meth c s₁ B hml hv
  obtain ⟨rfl, hW, hK, hN, hA⟩ := hv
  have X : zX A D cy p s m _ c cX11_isAlive RX11 5 := ⟨B.exec, B.bytes, fun w hw => atoms_spec (ws := Cond.code yX11_isAlive cX11_isAlive 5 (some .boolean) :: wT) B.pre w (List.mem_cons_of_mem _ hw), findClass_of_methodNamed B.named, hK, hml, hN, hA⟩
  have hl := lv_entry [.ref o, .int v1, .int v2] (n := 5) (Nat.le_of_ble_eq_true rfl)
  rw [lg_entry_eq]
  generalize (lg_sl [.ref o, .int v1, .int v2] ++ List.replicate (5 - (lg_sl [.ref o, .int v1, .int v2]).length) Slot.unset).toArray = ls at hl ⊢
  have hl : lv_has ls 5 [(0, .ref o), (1, .int v1), (2, .int v2)] := hl
  exact wX11_isAlive_0 X B.notSynchronized B.returns o v1 v2 _ _ _ _ (lv_sub hl [0, 1, 2] rfl) hW va_S.rf g

theorem dX11_backs_0 : decode cX11_backs 0 = .ok (.aload_n 0, 1) := by decide +kernel
theorem dX11_backs_1 : decode cX11_backs 1 = .ok (.getfield 73, 3) := by decide +kernel
theorem dX11_backs_4 : decode cX11_backs 4 = .ok (.iload_n 1, 1) := by decide +kernel
theorem dX11_backs_5 : decode cX11_backs 5 = .ok (.iaload, 1) := by decide +kernel
theorem dX11_backs_6 : decode cX11_backs 6 = .ok (.istore_n 2, 1) := by decide +kernel
theorem dX11_backs_7 : decode cX11_backs 7 = .ok (.aload_n 0, 1) := by decide +kernel
theorem dX11_backs_8 : decode cX11_backs 8 = .ok (.getfield 109, 3) := by decide +kernel
theorem dX11_backs_11 : decode cX11_backs 11 = .ok (.iload_n 2, 1) := by decide +kernel
theorem dX11_backs_12 : decode cX11_backs 12 = .ok (.iaload, 1) := by decide +kernel
theorem dX11_backs_13 : decode cX11_backs 13 = .ok (.ifCond .eq 4, 3) := by decide +kernel
theorem dX11_backs_16 : decode cX11_backs 16 = .ok (.return_, 1) := by decide +kernel
theorem dX11_backs_17 : decode cX11_backs 17 = .ok (.aload_n 0, 1) := by decide +kernel
theorem dX11_backs_18 : decode cX11_backs 18 = .ok (.getfield 115, 3) := by decide +kernel
theorem dX11_backs_21 : decode cX11_backs 21 = .ok (.iload_n 2, 1) := by decide +kernel
theorem dX11_backs_22 : decode cX11_backs 22 = .ok (.dup2, 1) := by decide +kernel
theorem dX11_backs_23 : decode cX11_backs 23 = .ok (.iaload, 1) := by decide +kernel
theorem dX11_backs_24 : decode cX11_backs 24 = .ok (.iconst 1, 1) := by decide +kernel
theorem dX11_backs_25 : decode cX11_backs 25 = .ok (.iadd, 1) := by decide +kernel
theorem dX11_backs_26 : decode cX11_backs 26 = .ok (.iastore, 1) := by decide +kernel
theorem dX11_backs_27 : decode cX11_backs 27 = .ok (.aload_n 0, 1) := by decide +kernel
theorem dX11_backs_28 : decode cX11_backs 28 = .ok (.getfield 118, 3) := by decide +kernel
theorem dX11_backs_31 : decode cX11_backs 31 = .ok (.iload_n 2, 1) := by decide +kernel
theorem dX11_backs_32 : decode cX11_backs 32 = .ok (.dup2, 1) := by decide +kernel
theorem dX11_backs_33 : decode cX11_backs 33 = .ok (.iaload, 1) := by decide +kernel
theorem dX11_backs_34 : decode cX11_backs 34 = .ok (.aload_n 0, 1) := by decide +kernel
theorem dX11_backs_35 : decode cX11_backs 35 = .ok (.getfield 76, 3) := by decide +kernel
theorem dX11_backs_38 : decode cX11_backs 38 = .ok (.iload_n 1, 1) := by decide +kernel
theorem dX11_backs_39 : decode cX11_backs 39 = .ok (.iaload, 1) := by decide +kernel
theorem dX11_backs_40 : decode cX11_backs 40 = .ok (.iadd, 1) := by decide +kernel
theorem dX11_backs_41 : decode cX11_backs 41 = .ok (.iastore, 1) := by decide +kernel
theorem dX11_backs_42 : decode cX11_backs 42 = .ok (.aload_n 0, 1) := by decide +kernel
theorem dX11_backs_43 : decode cX11_backs 43 = .ok (.getfield 115, 3) := by decide +kernel
theorem dX11_backs_46 : decode cX11_backs 46 = .ok (.iload_n 2, 1) := by decide +kernel
theorem dX11_backs_47 : decode cX11_backs 47 = .ok (.iaload, 1) := by decide +kernel
theorem dX11_backs_48 : decode cX11_backs 48 = .ok (.iconst 1, 1) := by decide +kernel
theorem dX11_backs_49 : decode cX11_backs 49 = .ok (.aload_n 0, 1) := by decide +kernel
theorem dX11_backs_50 : decode cX11_backs 50 = .ok (.getfield 118, 3) := by decide +kernel
theorem dX11_backs_53 : decode cX11_backs 53 = .ok (.iload_n 2, 1) := by decide +kernel
theorem dX11_backs_54 : decode cX11_backs 54 = .ok (.iaload, 1) := by decide +kernel
theorem dX11_backs_55 : decode cX11_backs 55 = .ok (.iadd, 1) := by decide +kernel
theorem dX11_backs_56 : decode cX11_backs 56 = .ok (.if_icmp .ge 4, 3) := by decide +kernel
theorem dX11_backs_59 : decode cX11_backs 59 = .ok (.return_, 1) := by decide +kernel
theorem dX11_backs_60 : decode cX11_backs 60 = .ok (.iconst 0, 1) := by decide +kernel
theorem dX11_backs_61 : decode cX11_backs 61 = .ok (.istore_n 3, 1) := by decide +kernel
theorem dX11_backs_62 : decode cX11_backs 62 = .ok (.iconst 0, 1) := by decide +kernel
theorem dX11_backs_63 : decode cX11_backs 63 = .ok (.istore 4, 2) := by decide +kernel
theorem dX11_backs_65 : decode cX11_backs 65 = .ok (.iload 4, 2) := by decide +kernel
theorem dX11_backs_67 : decode cX11_backs 67 = .ok (.bipush 8, 2) := by decide +kernel
theorem dX11_backs_69 : decode cX11_backs 69 = .ok (.if_icmp .ge 57, 3) := by decide +kernel
theorem dX11_backs_72 : decode cX11_backs 72 = .ok (.iload_n 3, 1) := by decide +kernel
theorem dX11_backs_73 : decode cX11_backs 73 = .ok (.ifCond .ne 41, 3) := by decide +kernel
theorem dX11_backs_76 : decode cX11_backs 76 = .ok (.aload_n 0, 1) := by decide +kernel
theorem dX11_backs_77 : decode cX11_backs 77 = .ok (.getfield 121, 3) := by decide +kernel
theorem dX11_backs_80 : decode cX11_backs 80 = .ok (.bipush 8, 2) := by decide +kernel
theorem dX11_backs_82 : decode cX11_backs 82 = .ok (.iload_n 2, 1) := by decide +kernel
theorem dX11_backs_83 : decode cX11_backs 83 = .ok (.imul, 1) := by decide +kernel
theorem dX11_backs_84 : decode cX11_backs 84 = .ok (.iload 4, 2) := by decide +kernel
theorem dX11_backs_86 : decode cX11_backs 86 = .ok (.iadd, 1) := by decide +kernel
theorem dX11_backs_87 : decode cX11_backs 87 = .ok (.iaload, 1) := by decide +kernel
theorem dX11_backs_88 : decode cX11_backs 88 = .ok (.iconst (-1), 1) := by decide +kernel
theorem dX11_backs_89 : decode cX11_backs 89 = .ok (.if_icmp .eq 29, 3) := by decide +kernel
theorem dX11_backs_92 : decode cX11_backs 92 = .ok (.aload_n 0, 1) := by decide +kernel
theorem dX11_backs_93 : decode cX11_backs 93 = .ok (.getfield 121, 3) := by decide +kernel
theorem dX11_backs_96 : decode cX11_backs 96 = .ok (.bipush 8, 2) := by decide +kernel
theorem dX11_backs_98 : decode cX11_backs 98 = .ok (.iload_n 2, 1) := by decide +kernel
theorem dX11_backs_99 : decode cX11_backs 99 = .ok (.imul, 1) := by decide +kernel
theorem dX11_backs_100 : decode cX11_backs 100 = .ok (.iload 4, 2) := by decide +kernel
theorem dX11_backs_102 : decode cX11_backs 102 = .ok (.iadd, 1) := by decide +kernel
theorem dX11_backs_103 : decode cX11_backs 103 = .ok (.iaload, 1) := by decide +kernel
theorem dX11_backs_104 : decode cX11_backs 104 = .ok (.aload_n 0, 1) := by decide +kernel
theorem dX11_backs_105 : decode cX11_backs 105 = .ok (.getfield 91, 3) := by decide +kernel
theorem dX11_backs_108 : decode cX11_backs 108 = .ok (.iload 4, 2) := by decide +kernel
theorem dX11_backs_110 : decode cX11_backs 110 = .ok (.iaload, 1) := by decide +kernel
theorem dX11_backs_111 : decode cX11_backs 111 = .ok (.if_icmp .eq 7, 3) := by decide +kernel
theorem dX11_backs_114 : decode cX11_backs 114 = .ok (.iconst 1, 1) := by decide +kernel
theorem dX11_backs_115 : decode cX11_backs 115 = .ok (.goto 4, 3) := by decide +kernel
theorem dX11_backs_118 : decode cX11_backs 118 = .ok (.iconst 0, 1) := by decide +kernel
theorem dX11_backs_119 : decode cX11_backs 119 = .ok (.istore_n 3, 1) := by decide +kernel
theorem dX11_backs_120 : decode cX11_backs 120 = .ok (.iinc 4 1, 3) := by decide +kernel
theorem dX11_backs_123 : decode cX11_backs 123 = .ok (.goto (-58), 3) := by decide +kernel
theorem dX11_backs_126 : decode cX11_backs 126 = .ok (.aload_n 0, 1) := by decide +kernel
theorem dX11_backs_127 : decode cX11_backs 127 = .ok (.getfield 112, 3) := by decide +kernel
theorem dX11_backs_130 : decode cX11_backs 130 = .ok (.iload_n 2, 1) := by decide +kernel
theorem dX11_backs_131 : decode cX11_backs 131 = .ok (.iaload, 1) := by decide +kernel
theorem dX11_backs_132 : decode cX11_backs 132 = .ok (.istore 4, 2) := by decide +kernel
theorem dX11_backs_134 : decode cX11_backs 134 = .ok (.iload_n 3, 1) := by decide +kernel
theorem dX11_backs_135 : decode cX11_backs 135 = .ok (.ifCond .eq 13, 3) := by decide +kernel
theorem dX11_backs_138 : decode cX11_backs 138 = .ok (.aload_n 0, 1) := by decide +kernel
theorem dX11_backs_139 : decode cX11_backs 139 = .ok (.getfield 109, 3) := by decide +kernel
theorem dX11_backs_142 : decode cX11_backs 142 = .ok (.iload_n 2, 1) := by decide +kernel
theorem dX11_backs_143 : decode cX11_backs 143 = .ok (.iconst 2, 1) := by decide +kernel
theorem dX11_backs_144 : decode cX11_backs 144 = .ok (.iastore, 1) := by decide +kernel
theorem dX11_backs_145 : decode cX11_backs 145 = .ok (.goto 54, 3) := by decide +kernel
theorem dX11_backs_148 : decode cX11_backs 148 = .ok (.aload_n 0, 1) := by decide +kernel
theorem dX11_backs_149 : decode cX11_backs 149 = .ok (.iload_n 2, 1) := by decide +kernel
theorem dX11_backs_150 : decode cX11_backs 150 = .ok (.iload 4, 2) := by decide +kernel
theorem dX11_backs_152 : decode cX11_backs 152 = .ok (.invokevirtual 252, 3) := by decide +kernel
theorem dX11_backs_155 : decode cX11_backs 155 = .ok (.ifCond .eq 13, 3) := by decide +kernel
theorem dX11_backs_158 : decode cX11_backs 158 = .ok (.aload_n 0, 1) := by decide +kernel
theorem dX11_backs_159 : decode cX11_backs 159 = .ok (.getfield 109, 3) := by decide +kernel
theorem dX11_backs_162 : decode cX11_backs 162 = .ok (.iload_n 2, 1) := by decide +kernel
theorem dX11_backs_163 : decode cX11_backs 163 = .ok (.iconst 1, 1) := by decide +kernel
theorem dX11_backs_164 : decode cX11_backs 164 = .ok (.iastore, 1) := by decide +kernel
theorem dX11_backs_165 : decode cX11_backs 165 = .ok (.goto 34, 3) := by decide +kernel
theorem dX11_backs_168 : decode cX11_backs 168 = .ok (.aload_n 0, 1) := by decide +kernel
theorem dX11_backs_169 : decode cX11_backs 169 = .ok (.getfield 109, 3) := by decide +kernel
theorem dX11_backs_172 : decode cX11_backs 172 = .ok (.iload_n 2, 1) := by decide +kernel
theorem dX11_backs_173 : decode cX11_backs 173 = .ok (.iconst 3, 1) := by decide +kernel
theorem dX11_backs_174 : decode cX11_backs 174 = .ok (.iastore, 1) := by decide +kernel
theorem dX11_backs_175 : decode cX11_backs 175 = .ok (.aload_n 0, 1) := by decide +kernel
theorem dX11_backs_176 : decode cX11_backs 176 = .ok (.getfield 35, 3) := by decide +kernel
theorem dX11_backs_179 : decode cX11_backs 179 = .ok (.iload 4, 2) := by decide +kernel
theorem dX11_backs_181 : decode cX11_backs 181 = .ok (.iconst 1, 1) := by decide +kernel
theorem dX11_backs_182 : decode cX11_backs 182 = .ok (.bastore, 1) := by decide +kernel
theorem dX11_backs_183 : decode cX11_backs 183 = .ok (.aload_n 0, 1) := by decide +kernel
theorem dX11_backs_184 : decode cX11_backs 184 = .ok (.getfield 91, 3) := by decide +kernel
theorem dX11_backs_187 : decode cX11_backs 187 = .ok (.aload_n 0, 1) := by decide +kernel
theorem dX11_backs_188 : decode cX11_backs 188 = .ok (.getfield 13, 3) := by decide +kernel
theorem dX11_backs_191 : decode cX11_backs 191 = .ok (.iload 4, 2) := by decide +kernel
theorem dX11_backs_193 : decode cX11_backs 193 = .ok (.iaload, 1) := by decide +kernel
theorem dX11_backs_194 : decode cX11_backs 194 = .ok (.dup2, 1) := by decide +kernel
theorem dX11_backs_195 : decode cX11_backs 195 = .ok (.iaload, 1) := by decide +kernel
theorem dX11_backs_196 : decode cX11_backs 196 = .ok (.iconst 1, 1) := by decide +kernel
theorem dX11_backs_197 : decode cX11_backs 197 = .ok (.iadd, 1) := by decide +kernel
theorem dX11_backs_198 : decode cX11_backs 198 = .ok (.iastore, 1) := by decide +kernel
theorem dX11_backs_199 : decode cX11_backs 199 = .ok (.return_, 1) := by decide +kernel
def fX11_backs_65 : Nat → Nat → Int32 → Int32 → Int32 → Hz → Option (Unit × Hz)
  | 0, _, _, _, _, _ => none
  | n + 1, o, v2, v3, v4, h => (if 8 ≤ v4 then (b1 (gA 11 38 o h) fun a2 => (b1 (xI 12 a2 v2 h) fun x3 => (if v3 = 0 then (b1 (tg 11 o h) fun _ => (b2 (fX11_isAlive o v2 x3 h) fun x6 s7 => (if x6 = 0 then (b1 (gA 11 37 o s7) fun a9 => (b1 (yI a9 v2 3 s7) fun s10 => (b1 (gA 11 8 o s10) fun a11 => (b1 (yZ a11 x3 1 s10) fun s12 => (b1 (gA 11 30 o s12) fun a13 => (b1 (gA 11 1 o s12) fun a14 => (b1 (xI 12 a14 x3 s12) fun x15 => (b1 (xI 12 a13 x15 s12) fun x16 => (b1 (yI a13 x15 (x16 + 1) s12) fun s17 => some ((), s17)))))))))) else (b1 (gA 11 37 o s7) fun a18 => (b1 (yI a18 v2 1 s7) fun s19 => some ((), s19)))))) else (b1 (gA 11 37 o h) fun a20 => (b1 (yI a20 v2 2 h) fun s21 => some ((), s21)))))) else (if v3 = 0 then (b1 (gA 11 41 o h) fun a23 => (b1 (xI 12 a23 ((8 * v2) + v4) h) fun x24 => (if x24 = (-1) then fX11_backs_65 n o v2 0 (v4 + 1) h else (b1 (gA 11 41 o h) fun a26 => (b1 (xI 12 a26 ((8 * v2) + v4) h) fun x27 => (b1 (gA 11 30 o h) fun a28 => (b1 (xI 12 a28 v4 h) fun x29 => (if x27 = x29 then fX11_backs_65 n o v2 0 (v4 + 1) h else fX11_backs_65 n o v2 1 (v4 + 1) h)))))))) else fX11_backs_65 n o v2 1 (v4 + 1) h))
set_option maxHeartbeats 4000000 in
set_option maxRecDepth 100000 in
theorem wX11_backs_65 {r0 : Unit} {h0 : Hz} (X : zX A D cy p s m args c cX11_backs RX11 5) (hlk : meth.locks = false) (hr : meth.sig.returnType = none) : ∀ (n : Nat) (o : Nat) (v2 : Int32) (v3 : Int32) (v4 : Int32) (h : Hz) (H : Heap) (locs : List Loc) (ls : Array Slot) (hl : lv_has ls 5 [(0, .ref o), (2, .int v2), (3, .int v3), (4, .int v4)]) (hW : zW A cy D h H) (hS : va_S A s.heap H locs) (h : fX11_backs_65 n o v2 v3 v4 h = some (r0, h0)), W p l e ({ frames := 3, cells := 0, slots := 0, locals := 73 } : Room) s m args below meth c H locs 0 0 (MQ below (va_Qv (fun u => u = h0) (zB A D cy) A) args s 0 0 A) (F0 m 65 ls []) := by
  obtain ⟨hx, hb, hts, hown, hK9, hml, hN9, hA9⟩ := id X
  intro n
  induction n with
  | zero =>
    intro o v2 v3 v4 h H locs ls hl hW hS h
    rw [fX11_backs_65] at h
    cases h
  | succ n ih =>
    intro o v2 v3 v4 h H locs ls hl hW hS h
    rw [fX11_backs_65] at h
    refine lv_iload hx hb dX11_backs_65 (lv_at hl 3 rfl) ?_
    refine lv_bipush (v := 8) hx hb dX11_backs_67 (by decide) ?_
    refine lv_icmp_ge (tgt := 126) hx hb dX11_backs_69 (by decide) (fun c1 => ?_) (fun c1 => ?_)
    · replace h := it_t h c1
      refine lv_aload_n hx hb dX11_backs_126 rfl (lv_at hl 0 rfl) ?_
      replace h := b1_some h
      obtain ⟨a2, ga2, h⟩ := h
      refine z_getA X hW ga2 kX11 (by decide) (by decide) kf_X11_112 dX11_backs_127 ?_
      refine lv_iload_n hx hb dX11_backs_130 rfl (lv_at hl 1 rfl) ?_
      replace h := b1_some h
      obtain ⟨x3, gx3, h⟩ := h
      refine z_aldI X hW gx3 dX11_backs_131 ?_
      refine lv_istore (lv' := [(4, .int x3), (0, .ref o), (2, .int v2), (3, .int v3)]) hx hb dX11_backs_132 hl (by decide) rfl (fun ls hl => ?_)
      refine lv_iload_n hx hb dX11_backs_134 rfl (lv_at hl 3 rfl) ?_
      refine lv_if_eq (tgt := 148) hx hb dX11_backs_135 (by decide) (fun c4 => ?_) (fun c4 => ?_)
      · replace h := it_t h c4
        refine lv_aload_n hx hb dX11_backs_148 rfl (lv_at hl 1 rfl) ?_
        refine lv_iload_n hx hb dX11_backs_149 rfl (lv_at hl 2 rfl) ?_
        refine lv_iload hx hb dX11_backs_150 (lv_at hl 0 rfl) ?_
        replace h := b1_some h
        obtain ⟨q5, gq5, h⟩ := h
        replace h := b2_some h
        obtain ⟨x6, s7, gs7, h⟩ := h
        refine z_callVi (rest := []) X hW hS (cX11_isAlive_met gs7) kb_X11_isAlive kv_X11_isAlive kl_X11_252 (it_v gq5).1 kX11 rfl rfl ⟨Nat.le_of_ble_eq_true rfl, Nat.le_of_ble_eq_true rfl⟩ rfl rfl (by decide) hl.1 dX11_backs_152 ⟨(by decide), (by decide)⟩ (fun H locs hW hS => ?_)
        refine lv_if_eq (tgt := 168) hx hb dX11_backs_155 (by decide) (fun c8 => ?_) (fun c8 => ?_)
        · replace h := it_t h c8
          refine lv_aload_n hx hb dX11_backs_168 rfl (lv_at hl 1 rfl) ?_
          replace h := b1_some h
          obtain ⟨a9, ga9, h⟩ := h
          refine z_getA X hW ga9 kX11 (by decide) (by decide) kf_X11_109 dX11_backs_169 ?_
          refine lv_iload_n hx hb dX11_backs_172 rfl (lv_at hl 2 rfl) ?_
          refine lv_iconst (v := 3) hx hb dX11_backs_173 (by decide) ?_
          replace h := b1_some h
          obtain ⟨s10, gs10, h⟩ := h
          refine z_astI X hW hS gs10 dX11_backs_174 (fun H locs hW hS => ?_)
          refine lv_aload_n hx hb dX11_backs_175 rfl (lv_at hl 1 rfl) ?_
          replace h := b1_some h
          obtain ⟨a11, ga11, h⟩ := h
          refine z_getA X hW ga11 kX11 (by decide) (by decide) kf_X11_35 dX11_backs_176 ?_
          refine lv_iload hx hb dX11_backs_179 (lv_at hl 0 rfl) ?_
          refine lv_iconst (v := 1) hx hb dX11_backs_181 (by decide) ?_
          replace h := b1_some h
          obtain ⟨s12, gs12, h⟩ := h
          refine z_astZ X hW hS gs12 dX11_backs_182 (fun H locs hW hS => ?_)
          refine lv_aload_n hx hb dX11_backs_183 rfl (lv_at hl 1 rfl) ?_
          replace h := b1_some h
          obtain ⟨a13, ga13, h⟩ := h
          refine z_getA X hW ga13 kX11 (by decide) (by decide) kf_X11_91 dX11_backs_184 ?_
          refine lv_aload_n hx hb dX11_backs_187 rfl (lv_at hl 1 rfl) ?_
          replace h := b1_some h
          obtain ⟨a14, ga14, h⟩ := h
          refine z_getA X hW ga14 kX11 (by decide) (by decide) kf_X11_13 dX11_backs_188 ?_
          refine lv_iload hx hb dX11_backs_191 (lv_at hl 0 rfl) ?_
          replace h := b1_some h
          obtain ⟨x15, gx15, h⟩ := h
          refine z_aldI X hW gx15 dX11_backs_193 ?_
          refine lv_dup2_11 hx hb dX11_backs_194 rfl rfl ?_
          replace h := b1_some h
          obtain ⟨x16, gx16, h⟩ := h
          refine z_aldI X hW gx16 dX11_backs_195 ?_
          refine lv_iconst (v := 1) hx hb dX11_backs_196 (by decide) ?_
          refine lv_iadd hx hb dX11_backs_197 ?_
          replace h := b1_some h
          obtain ⟨s17, gs17, h⟩ := h
          refine z_astI X hW hS gs17 dX11_backs_198 (fun H locs hW hS => ?_)
          exact z_etv X hlk hr hW hS h (by decide) (by decide) dX11_backs_199
        · replace h := it_f h c8
          refine lv_aload_n hx hb dX11_backs_158 rfl (lv_at hl 1 rfl) ?_
          replace h := b1_some h
          obtain ⟨a18, ga18, h⟩ := h
          refine z_getA X hW ga18 kX11 (by decide) (by decide) kf_X11_109 dX11_backs_159 ?_
          refine lv_iload_n hx hb dX11_backs_162 rfl (lv_at hl 2 rfl) ?_
          refine lv_iconst (v := 1) hx hb dX11_backs_163 (by decide) ?_
          replace h := b1_some h
          obtain ⟨s19, gs19, h⟩ := h
          refine z_astI X hW hS gs19 dX11_backs_164 (fun H locs hW hS => ?_)
          refine lv_goto (tgt := 199) hx hb dX11_backs_165 (by decide) ?_
          exact z_etv X hlk hr hW hS h (by decide) (by decide) dX11_backs_199
      · replace h := it_f h c4
        refine lv_aload_n hx hb dX11_backs_138 rfl (lv_at hl 1 rfl) ?_
        replace h := b1_some h
        obtain ⟨a20, ga20, h⟩ := h
        refine z_getA X hW ga20 kX11 (by decide) (by decide) kf_X11_109 dX11_backs_139 ?_
        refine lv_iload_n hx hb dX11_backs_142 rfl (lv_at hl 2 rfl) ?_
        refine lv_iconst (v := 2) hx hb dX11_backs_143 (by decide) ?_
        replace h := b1_some h
        obtain ⟨s21, gs21, h⟩ := h
        refine z_astI X hW hS gs21 dX11_backs_144 (fun H locs hW hS => ?_)
        refine lv_goto (tgt := 199) hx hb dX11_backs_145 (by decide) ?_
        exact z_etv X hlk hr hW hS h (by decide) (by decide) dX11_backs_199
    · replace h := it_f h c1
      refine lv_iload_n hx hb dX11_backs_72 rfl (lv_at hl 2 rfl) ?_
      refine lv_if_ne (tgt := 114) hx hb dX11_backs_73 (by decide) (fun c22 => ?_) (fun c22 => ?_)
      · replace h := it_f h c22
        refine lv_iconst (v := 1) hx hb dX11_backs_114 (by decide) ?_
        refine lv_goto (tgt := 119) hx hb dX11_backs_115 (by decide) ?_
        refine lv_istore_n (lv' := [(3, .int 1), (0, .ref o), (2, .int v2), (4, .int v4)]) hx hb dX11_backs_119 rfl hl (by decide) rfl (fun ls hl => ?_)
        refine lv_iinc (v := (v4 + 1)) (lv' := [(4, .int (v4 + 1)), (3, .int 1), (0, .ref o), (2, .int v2)]) hx hb dX11_backs_120 hl (k := 3) rfl rfl (by decide) rfl (fun ls hl => ?_)
        refine lv_goto (tgt := 65) hx hb dX11_backs_123 (by decide) ?_
        exact ih o v2 1 (v4 + 1) _ _ _ _ (lv_sub hl [2, 3, 1, 0] rfl) hW hS h
      · replace h := it_t h c22
        refine lv_aload_n hx hb dX11_backs_76 rfl (lv_at hl 0 rfl) ?_
        replace h := b1_some h
        obtain ⟨a23, ga23, h⟩ := h
        refine z_getA X hW ga23 kX11 (by decide) (by decide) kf_X11_121 dX11_backs_77 ?_
        refine lv_bipush (v := 8) hx hb dX11_backs_80 (by decide) ?_
        refine lv_iload_n hx hb dX11_backs_82 rfl (lv_at hl 1 rfl) ?_
        refine lv_imul hx hb dX11_backs_83 ?_
        refine lv_iload hx hb dX11_backs_84 (lv_at hl 3 rfl) ?_
        refine lv_iadd hx hb dX11_backs_86 ?_
        replace h := b1_some h
        obtain ⟨x24, gx24, h⟩ := h
        refine z_aldI X hW gx24 dX11_backs_87 ?_
        refine lv_iconst (v := (-1)) hx hb dX11_backs_88 (by decide) ?_
        refine lv_icmp_eq (tgt := 118) hx hb dX11_backs_89 (by decide) (fun c25 => ?_) (fun c25 => ?_)
        · replace h := it_t h c25
          refine lv_iconst (v := 0) hx hb dX11_backs_118 (by decide) ?_
          refine lv_istore_n (lv' := [(3, .int 0), (0, .ref o), (2, .int v2), (4, .int v4)]) hx hb dX11_backs_119 rfl hl (by decide) rfl (fun ls hl => ?_)
          refine lv_iinc (v := (v4 + 1)) (lv' := [(4, .int (v4 + 1)), (3, .int 0), (0, .ref o), (2, .int v2)]) hx hb dX11_backs_120 hl (k := 3) rfl rfl (by decide) rfl (fun ls hl => ?_)
          refine lv_goto (tgt := 65) hx hb dX11_backs_123 (by decide) ?_
          exact ih o v2 0 (v4 + 1) _ _ _ _ (lv_sub hl [2, 3, 1, 0] rfl) hW hS h
        · replace h := it_f h c25
          refine lv_aload_n hx hb dX11_backs_92 rfl (lv_at hl 0 rfl) ?_
          replace h := b1_some h
          obtain ⟨a26, ga26, h⟩ := h
          refine z_getA X hW ga26 kX11 (by decide) (by decide) kf_X11_121 dX11_backs_93 ?_
          refine lv_bipush (v := 8) hx hb dX11_backs_96 (by decide) ?_
          refine lv_iload_n hx hb dX11_backs_98 rfl (lv_at hl 1 rfl) ?_
          refine lv_imul hx hb dX11_backs_99 ?_
          refine lv_iload hx hb dX11_backs_100 (lv_at hl 3 rfl) ?_
          refine lv_iadd hx hb dX11_backs_102 ?_
          replace h := b1_some h
          obtain ⟨x27, gx27, h⟩ := h
          refine z_aldI X hW gx27 dX11_backs_103 ?_
          refine lv_aload_n hx hb dX11_backs_104 rfl (lv_at hl 0 rfl) ?_
          replace h := b1_some h
          obtain ⟨a28, ga28, h⟩ := h
          refine z_getA X hW ga28 kX11 (by decide) (by decide) kf_X11_91 dX11_backs_105 ?_
          refine lv_iload hx hb dX11_backs_108 (lv_at hl 3 rfl) ?_
          replace h := b1_some h
          obtain ⟨x29, gx29, h⟩ := h
          refine z_aldI X hW gx29 dX11_backs_110 ?_
          refine lv_icmp_eq (tgt := 118) hx hb dX11_backs_111 (by decide) (fun c30 => ?_) (fun c30 => ?_)
          · replace h := it_t h c30
            refine lv_iconst (v := 0) hx hb dX11_backs_118 (by decide) ?_
            refine lv_istore_n (lv' := [(3, .int 0), (0, .ref o), (2, .int v2), (4, .int v4)]) hx hb dX11_backs_119 rfl hl (by decide) rfl (fun ls hl => ?_)
            refine lv_iinc (v := (v4 + 1)) (lv' := [(4, .int (v4 + 1)), (3, .int 0), (0, .ref o), (2, .int v2)]) hx hb dX11_backs_120 hl (k := 3) rfl rfl (by decide) rfl (fun ls hl => ?_)
            refine lv_goto (tgt := 65) hx hb dX11_backs_123 (by decide) ?_
            exact ih o v2 0 (v4 + 1) _ _ _ _ (lv_sub hl [2, 3, 1, 0] rfl) hW hS h
          · replace h := it_f h c30
            refine lv_iconst (v := 1) hx hb dX11_backs_114 (by decide) ?_
            refine lv_goto (tgt := 119) hx hb dX11_backs_115 (by decide) ?_
            refine lv_istore_n (lv' := [(3, .int 1), (0, .ref o), (2, .int v2), (4, .int v4)]) hx hb dX11_backs_119 rfl hl (by decide) rfl (fun ls hl => ?_)
            refine lv_iinc (v := (v4 + 1)) (lv' := [(4, .int (v4 + 1)), (3, .int 1), (0, .ref o), (2, .int v2)]) hx hb dX11_backs_120 hl (k := 3) rfl rfl (by decide) rfl (fun ls hl => ?_)
            refine lv_goto (tgt := 65) hx hb dX11_backs_123 (by decide) ?_
            exact ih o v2 1 (v4 + 1) _ _ _ _ (lv_sub hl [2, 3, 1, 0] rfl) hW hS h

def fX11_backs (o : Nat) (v1 : Int32) (h : Hz) : Option (Unit × Hz) := (b1 (gA 11 21 o h) fun a1 => (b1 (xI 12 a1 v1 h) fun x2 => (b1 (gA 11 37 o h) fun a3 => (b1 (xI 12 a3 x2 h) fun x4 => (if x4 = 0 then (b1 (gA 11 39 o h) fun a6 => (b1 (xI 12 a6 x2 h) fun x7 => (b1 (yI a6 x2 (x7 + 1) h) fun s8 => (b1 (gA 11 40 o s8) fun a9 => (b1 (xI 12 a9 x2 s8) fun x10 => (b1 (gA 11 22 o s8) fun a11 => (b1 (xI 12 a11 v1 s8) fun x12 => (b1 (yI a9 x2 (x10 + x12) s8) fun s13 => (b1 (gA 11 39 o s13) fun a14 => (b1 (xI 12 a14 x2 s13) fun x15 => (b1 (gA 11 40 o s13) fun a16 => (b1 (xI 12 a16 x2 s13) fun x17 => (if (1 + x17) ≤ x15 then fX11_backs_65 100000 o x2 0 0 s13 else some ((), s13)))))))))))))) else some ((), h))))))
set_option maxHeartbeats 4000000 in
set_option maxRecDepth 100000 in
theorem wX11_backs_0 {r0 : Unit} {h0 : Hz} (X : zX A D cy p s m args c cX11_backs RX11 5) (hlk : meth.locks = false) (hr : meth.sig.returnType = none) (o : Nat) (v1 : Int32) (h : Hz) (H : Heap) (locs : List Loc) (ls : Array Slot) (hl : lv_has ls 5 [(0, .ref o), (1, .int v1)]) (hW : zW A cy D h H) (hS : va_S A s.heap H locs) (h : fX11_backs o v1 h = some (r0, h0)) : W p l e ({ frames := 3, cells := 0, slots := 0, locals := 73 } : Room) s m args below meth c H locs 0 0 (MQ below (va_Qv (fun u => u = h0) (zB A D cy) A) args s 0 0 A) (F0 m 0 ls []) := by
  obtain ⟨hx, hb, hts, hown, hK9, hml, hN9, hA9⟩ := id X
  unfold fX11_backs at h
  refine lv_aload_n hx hb dX11_backs_0 rfl (lv_at hl 0 rfl) ?_
  replace h := b1_some h
  obtain ⟨a1, ga1, h⟩ := h
  refine z_getA X hW ga1 kX11 (by decide) (by decide) kf_X11_73 dX11_backs_1 ?_
  refine lv_iload_n hx hb dX11_backs_4 rfl (lv_at hl 1 rfl) ?_
  replace h := b1_some h
  obtain ⟨x2, gx2, h⟩ := h
  refine z_aldI X hW gx2 dX11_backs_5 ?_
  refine lv_istore_n (lv' := [(2, .int x2), (0, .ref o), (1, .int v1)]) hx hb dX11_backs_6 rfl hl (by decide) rfl (fun ls hl => ?_)
  refine lv_aload_n hx hb dX11_backs_7 rfl (lv_at hl 1 rfl) ?_
  replace h := b1_some h
  obtain ⟨a3, ga3, h⟩ := h
  refine z_getA X hW ga3 kX11 (by decide) (by decide) kf_X11_109 dX11_backs_8 ?_
  refine lv_iload_n hx hb dX11_backs_11 rfl (lv_at hl 0 rfl) ?_
  replace h := b1_some h
  obtain ⟨x4, gx4, h⟩ := h
  refine z_aldI X hW gx4 dX11_backs_12 ?_
  refine lv_if_eq (tgt := 17) hx hb dX11_backs_13 (by decide) (fun c5 => ?_) (fun c5 => ?_)
  · replace h := it_t h c5
    refine lv_aload_n hx hb dX11_backs_17 rfl (lv_at hl 1 rfl) ?_
    replace h := b1_some h
    obtain ⟨a6, ga6, h⟩ := h
    refine z_getA X hW ga6 kX11 (by decide) (by decide) kf_X11_115 dX11_backs_18 ?_
    refine lv_iload_n hx hb dX11_backs_21 rfl (lv_at hl 0 rfl) ?_
    refine lv_dup2_11 hx hb dX11_backs_22 rfl rfl ?_
    replace h := b1_some h
    obtain ⟨x7, gx7, h⟩ := h
    refine z_aldI X hW gx7 dX11_backs_23 ?_
    refine lv_iconst (v := 1) hx hb dX11_backs_24 (by decide) ?_
    refine lv_iadd hx hb dX11_backs_25 ?_
    replace h := b1_some h
    obtain ⟨s8, gs8, h⟩ := h
    refine z_astI X hW hS gs8 dX11_backs_26 (fun H locs hW hS => ?_)
    refine lv_aload_n hx hb dX11_backs_27 rfl (lv_at hl 1 rfl) ?_
    replace h := b1_some h
    obtain ⟨a9, ga9, h⟩ := h
    refine z_getA X hW ga9 kX11 (by decide) (by decide) kf_X11_118 dX11_backs_28 ?_
    refine lv_iload_n hx hb dX11_backs_31 rfl (lv_at hl 0 rfl) ?_
    refine lv_dup2_11 hx hb dX11_backs_32 rfl rfl ?_
    replace h := b1_some h
    obtain ⟨x10, gx10, h⟩ := h
    refine z_aldI X hW gx10 dX11_backs_33 ?_
    refine lv_aload_n hx hb dX11_backs_34 rfl (lv_at hl 1 rfl) ?_
    replace h := b1_some h
    obtain ⟨a11, ga11, h⟩ := h
    refine z_getA X hW ga11 kX11 (by decide) (by decide) kf_X11_76 dX11_backs_35 ?_
    refine lv_iload_n hx hb dX11_backs_38 rfl (lv_at hl 2 rfl) ?_
    replace h := b1_some h
    obtain ⟨x12, gx12, h⟩ := h
    refine z_aldI X hW gx12 dX11_backs_39 ?_
    refine lv_iadd hx hb dX11_backs_40 ?_
    replace h := b1_some h
    obtain ⟨s13, gs13, h⟩ := h
    refine z_astI X hW hS gs13 dX11_backs_41 (fun H locs hW hS => ?_)
    refine lv_aload_n hx hb dX11_backs_42 rfl (lv_at hl 1 rfl) ?_
    replace h := b1_some h
    obtain ⟨a14, ga14, h⟩ := h
    refine z_getA X hW ga14 kX11 (by decide) (by decide) kf_X11_115 dX11_backs_43 ?_
    refine lv_iload_n hx hb dX11_backs_46 rfl (lv_at hl 0 rfl) ?_
    replace h := b1_some h
    obtain ⟨x15, gx15, h⟩ := h
    refine z_aldI X hW gx15 dX11_backs_47 ?_
    refine lv_iconst (v := 1) hx hb dX11_backs_48 (by decide) ?_
    refine lv_aload_n hx hb dX11_backs_49 rfl (lv_at hl 1 rfl) ?_
    replace h := b1_some h
    obtain ⟨a16, ga16, h⟩ := h
    refine z_getA X hW ga16 kX11 (by decide) (by decide) kf_X11_118 dX11_backs_50 ?_
    refine lv_iload_n hx hb dX11_backs_53 rfl (lv_at hl 0 rfl) ?_
    replace h := b1_some h
    obtain ⟨x17, gx17, h⟩ := h
    refine z_aldI X hW gx17 dX11_backs_54 ?_
    refine lv_iadd hx hb dX11_backs_55 ?_
    refine lv_icmp_ge (tgt := 60) hx hb dX11_backs_56 (by decide) (fun c18 => ?_) (fun c18 => ?_)
    · replace h := it_t h c18
      refine lv_iconst (v := 0) hx hb dX11_backs_60 (by decide) ?_
      refine lv_istore_n (lv' := [(3, .int 0), (2, .int x2), (0, .ref o), (1, .int v1)]) hx hb dX11_backs_61 rfl hl (by decide) rfl (fun ls hl => ?_)
      refine lv_iconst (v := 0) hx hb dX11_backs_62 (by decide) ?_
      refine lv_istore (lv' := [(4, .int 0), (3, .int 0), (2, .int x2), (0, .ref o), (1, .int v1)]) hx hb dX11_backs_63 hl (by decide) rfl (fun ls hl => ?_)
      exact wX11_backs_65 X hlk hr _ o x2 0 0 _ _ _ _ (lv_sub hl [3, 2, 1, 0] rfl) hW hS h
    · replace h := it_f h c18
      exact z_etv X hlk hr hW hS h (by decide) (by decide) dX11_backs_59
  · replace h := it_f h c5
    exact z_etv X hlk hr hW hS h (by decide) (by decide) dX11_backs_16

set_option maxHeartbeats 4000000 in
set_option maxRecDepth 100000 in
theorem cX11_backs_met {l : Launch} {A : Nat → Prop} {D : va_G} {cy : Nat → ClassId} {r0 : Unit} {h0 : Hz} {o : Nat} {v1 : Int32} {h : Hz} (g : fX11_backs o v1 h = some (r0, h0)) : Met l yX11_backs (Cond.code yX11_backs cX11_backs 5 none :: wT) ({ frames := 3, cells := 0, slots := 0, locals := 73 } : Room) (va_Pc [.ref o, .int v1] (zS A D cy h)) (va_Qv (fun u => u = h0) (zB A D cy) A) 0 0 A := by
  refine Met.ofW (cc := cX11_backs) (maxL := 5) (ret := none) (by decide) rfl ?_
  intro p e s m args below meth c s₁ B hml hv
  obtain ⟨rfl, hW, hK, hN, hA⟩ := hv
  have X : zX A D cy p s m _ c cX11_backs RX11 5 := ⟨B.exec, B.bytes, fun w hw => atoms_spec (ws := Cond.code yX11_backs cX11_backs 5 none :: wT) B.pre w (List.mem_cons_of_mem _ hw), findClass_of_methodNamed B.named, hK, hml, hN, hA⟩
  have hl := lv_entry [.ref o, .int v1] (n := 5) (Nat.le_of_ble_eq_true rfl)
  rw [lg_entry_eq]
  generalize (lg_sl [.ref o, .int v1] ++ List.replicate (5 - (lg_sl [.ref o, .int v1]).length) Slot.unset).toArray = ls at hl ⊢
  have hl : lv_has ls 5 [(0, .ref o), (1, .int v1)] := hl
  exact wX11_backs_0 X B.notSynchronized B.returns o v1 _ _ _ _ (lv_sub hl [0, 1] rfl) hW va_S.rf g

theorem dX11_given_0 : decode cX11_given 0 = .ok (.aload_n 0, 1) := by decide +kernel
theorem dX11_given_1 : decode cX11_given 1 = .ok (.iload_n 2, 1) := by decide +kernel
theorem dX11_given_2 : decode cX11_given 2 = .ok (.iload_n 1, 1) := by decide +kernel
theorem dX11_given_3 : decode cX11_given 3 = .ok (.invokevirtual 196, 3) := by decide +kernel
theorem dX11_given_6 : decode cX11_given 6 = .ok (.istore_n 3, 1) := by decide +kernel
theorem dX11_given_7 : decode cX11_given 7 = .ok (.aload_n 0, 1) := by decide +kernel
theorem dX11_given_8 : decode cX11_given 8 = .ok (.getfield 28, 3) := by decide +kernel
theorem dX11_given_11 : decode cX11_given 11 = .ok (.iload_n 3, 1) := by decide +kernel
theorem dX11_given_12 : decode cX11_given 12 = .ok (.dup2, 1) := by decide +kernel
theorem dX11_given_13 : decode cX11_given 13 = .ok (.iaload, 1) := by decide +kernel
theorem dX11_given_14 : decode cX11_given 14 = .ok (.bipush 64, 2) := by decide +kernel
theorem dX11_given_16 : decode cX11_given 16 = .ok (.iadd, 1) := by decide +kernel
theorem dX11_given_17 : decode cX11_given 17 = .ok (.iastore, 1) := by decide +kernel
theorem dX11_given_18 : decode cX11_given 18 = .ok (.iconst 0, 1) := by decide +kernel
theorem dX11_given_19 : decode cX11_given 19 = .ok (.istore 4, 2) := by decide +kernel
theorem dX11_given_21 : decode cX11_given 21 = .ok (.aload_n 0, 1) := by decide +kernel
theorem dX11_given_22 : decode cX11_given 22 = .ok (.getfield 82, 3) := by decide +kernel
theorem dX11_given_25 : decode cX11_given 25 = .ok (.iload 4, 2) := by decide +kernel
theorem dX11_given_27 : decode cX11_given 27 = .ok (.iaload, 1) := by decide +kernel
theorem dX11_given_28 : decode cX11_given 28 = .ok (.iload_n 3, 1) := by decide +kernel
theorem dX11_given_29 : decode cX11_given 29 = .ok (.if_icmp .eq 9, 3) := by decide +kernel
theorem dX11_given_32 : decode cX11_given 32 = .ok (.iinc 4 1, 3) := by decide +kernel
theorem dX11_given_35 : decode cX11_given 35 = .ok (.goto (-14), 3) := by decide +kernel
theorem dX11_given_38 : decode cX11_given 38 = .ok (.aload_n 0, 1) := by decide +kernel
theorem dX11_given_39 : decode cX11_given 39 = .ok (.getfield 85, 3) := by decide +kernel
theorem dX11_given_42 : decode cX11_given 42 = .ok (.iload 4, 2) := by decide +kernel
theorem dX11_given_44 : decode cX11_given 44 = .ok (.iaload, 1) := by decide +kernel
theorem dX11_given_45 : decode cX11_given 45 = .ok (.istore 5, 2) := by decide +kernel
theorem dX11_given_47 : decode cX11_given 47 = .ok (.aload_n 0, 1) := by decide +kernel
theorem dX11_given_48 : decode cX11_given 48 = .ok (.getfield 88, 3) := by decide +kernel
theorem dX11_given_51 : decode cX11_given 51 = .ok (.iload 4, 2) := by decide +kernel
theorem dX11_given_53 : decode cX11_given 53 = .ok (.iaload, 1) := by decide +kernel
theorem dX11_given_54 : decode cX11_given 54 = .ok (.istore 6, 2) := by decide +kernel
theorem dX11_given_56 : decode cX11_given 56 = .ok (.aload_n 0, 1) := by decide +kernel
theorem dX11_given_57 : decode cX11_given 57 = .ok (.dup, 1) := by decide +kernel
theorem dX11_given_58 : decode cX11_given 58 = .ok (.getfield 160, 3) := by decide +kernel
theorem dX11_given_61 : decode cX11_given 61 = .ok (.iconst 1, 1) := by decide +kernel
theorem dX11_given_62 : decode cX11_given 62 = .ok (.isub, 1) := by decide +kernel
theorem dX11_given_63 : decode cX11_given 63 = .ok (.putfield 160, 3) := by decide +kernel
theorem dX11_given_66 : decode cX11_given 66 = .ok (.iload 4, 2) := by decide +kernel
theorem dX11_given_68 : decode cX11_given 68 = .ok (.aload_n 0, 1) := by decide +kernel
theorem dX11_given_69 : decode cX11_given 69 = .ok (.getfield 160, 3) := by decide +kernel
theorem dX11_given_72 : decode cX11_given 72 = .ok (.if_icmp .ge 57, 3) := by decide +kernel
theorem dX11_given_75 : decode cX11_given 75 = .ok (.aload_n 0, 1) := by decide +kernel
theorem dX11_given_76 : decode cX11_given 76 = .ok (.getfield 82, 3) := by decide +kernel
theorem dX11_given_79 : decode cX11_given 79 = .ok (.iload 4, 2) := by decide +kernel
theorem dX11_given_81 : decode cX11_given 81 = .ok (.aload_n 0, 1) := by decide +kernel
theorem dX11_given_82 : decode cX11_given 82 = .ok (.getfield 82, 3) := by decide +kernel
theorem dX11_given_85 : decode cX11_given 85 = .ok (.iload 4, 2) := by decide +kernel
theorem dX11_given_87 : decode cX11_given 87 = .ok (.iconst 1, 1) := by decide +kernel
theorem dX11_given_88 : decode cX11_given 88 = .ok (.iadd, 1) := by decide +kernel
theorem dX11_given_89 : decode cX11_given 89 = .ok (.iaload, 1) := by decide +kernel
theorem dX11_given_90 : decode cX11_given 90 = .ok (.iastore, 1) := by decide +kernel
theorem dX11_given_91 : decode cX11_given 91 = .ok (.aload_n 0, 1) := by decide +kernel
theorem dX11_given_92 : decode cX11_given 92 = .ok (.getfield 85, 3) := by decide +kernel
theorem dX11_given_95 : decode cX11_given 95 = .ok (.iload 4, 2) := by decide +kernel
theorem dX11_given_97 : decode cX11_given 97 = .ok (.aload_n 0, 1) := by decide +kernel
theorem dX11_given_98 : decode cX11_given 98 = .ok (.getfield 85, 3) := by decide +kernel
theorem dX11_given_101 : decode cX11_given 101 = .ok (.iload 4, 2) := by decide +kernel
theorem dX11_given_103 : decode cX11_given 103 = .ok (.iconst 1, 1) := by decide +kernel
theorem dX11_given_104 : decode cX11_given 104 = .ok (.iadd, 1) := by decide +kernel
theorem dX11_given_105 : decode cX11_given 105 = .ok (.iaload, 1) := by decide +kernel
theorem dX11_given_106 : decode cX11_given 106 = .ok (.iastore, 1) := by decide +kernel
theorem dX11_given_107 : decode cX11_given 107 = .ok (.aload_n 0, 1) := by decide +kernel
theorem dX11_given_108 : decode cX11_given 108 = .ok (.getfield 88, 3) := by decide +kernel
theorem dX11_given_111 : decode cX11_given 111 = .ok (.iload 4, 2) := by decide +kernel
theorem dX11_given_113 : decode cX11_given 113 = .ok (.aload_n 0, 1) := by decide +kernel
theorem dX11_given_114 : decode cX11_given 114 = .ok (.getfield 88, 3) := by decide +kernel
theorem dX11_given_117 : decode cX11_given 117 = .ok (.iload 4, 2) := by decide +kernel
theorem dX11_given_119 : decode cX11_given 119 = .ok (.iconst 1, 1) := by decide +kernel
theorem dX11_given_120 : decode cX11_given 120 = .ok (.iadd, 1) := by decide +kernel
theorem dX11_given_121 : decode cX11_given 121 = .ok (.iaload, 1) := by decide +kernel
theorem dX11_given_122 : decode cX11_given 122 = .ok (.iastore, 1) := by decide +kernel
theorem dX11_given_123 : decode cX11_given 123 = .ok (.iinc 4 1, 3) := by decide +kernel
theorem dX11_given_126 : decode cX11_given 126 = .ok (.goto (-60), 3) := by decide +kernel
theorem dX11_given_129 : decode cX11_given 129 = .ok (.aload_n 0, 1) := by decide +kernel
theorem dX11_given_130 : decode cX11_given 130 = .ok (.iload_n 3, 1) := by decide +kernel
theorem dX11_given_131 : decode cX11_given 131 = .ok (.iload 5, 2) := by decide +kernel
theorem dX11_given_133 : decode cX11_given 133 = .ok (.iload 6, 2) := by decide +kernel
theorem dX11_given_135 : decode cX11_given 135 = .ok (.invokevirtual 209, 3) := by decide +kernel
theorem dX11_given_138 : decode cX11_given 138 = .ok (.pop, 1) := by decide +kernel
theorem dX11_given_139 : decode cX11_given 139 = .ok (.return_, 1) := by decide +kernel
def fX11_given_66 : Nat → Nat → Int32 → Int32 → Int32 → Int32 → Hz → Option (Unit × Hz)
  | 0, _, _, _, _, _, _ => none
  | n + 1, o, v3, v4, v5, v6, h => (b1 (gI 11 29 o h) fun x1 => (if x1 ≤ v4 then (b1 (tg 11 o h) fun _ => (b2 (fX11_half o v3 v5 v6 h) fun x4 s5 => some ((), s5))) else (b1 (gA 11 26 o h) fun a6 => (b1 (gA 11 26 o h) fun a7 => (b1 (xI 12 a7 (v4 + 1) h) fun x8 => (b1 (yI a6 v4 x8 h) fun s9 => (b1 (gA 11 27 o s9) fun a10 => (b1 (gA 11 27 o s9) fun a11 => (b1 (xI 12 a11 (v4 + 1) s9) fun x12 => (b1 (yI a10 v4 x12 s9) fun s13 => (b1 (gA 11 28 o s13) fun a14 => (b1 (gA 11 28 o s13) fun a15 => (b1 (xI 12 a15 (v4 + 1) s13) fun x16 => (b1 (yI a14 v4 x16 s13) fun s17 => fX11_given_66 n o v3 (v4 + 1) v5 v6 s17))))))))))))))
set_option maxHeartbeats 4000000 in
set_option maxRecDepth 100000 in
theorem wX11_given_66 {r0 : Unit} {h0 : Hz} (X : zX A D cy p s m args c cX11_given RX11 7) (hlk : meth.locks = false) (hr : meth.sig.returnType = none) : ∀ (n : Nat) (o : Nat) (v3 : Int32) (v4 : Int32) (v5 : Int32) (v6 : Int32) (h : Hz) (H : Heap) (locs : List Loc) (ls : Array Slot) (hl : lv_has ls 7 [(0, .ref o), (3, .int v3), (4, .int v4), (5, .int v5), (6, .int v6)]) (hW : zW A cy D h H) (hS : va_S A s.heap H locs) (h : fX11_given_66 n o v3 v4 v5 v6 h = some (r0, h0)), W p l e ({ frames := 3, cells := 0, slots := 0, locals := 76 } : Room) s m args below meth c H locs 0 0 (MQ below (va_Qv (fun u => u = h0) (zB A D cy) A) args s 0 0 A) (F0 m 66 ls []) := by
  obtain ⟨hx, hb, hts, hown, hK9, hml, hN9, hA9⟩ := id X
  intro n
  induction n with
  | zero =>
    intro o v3 v4 v5 v6 h H locs ls hl hW hS h
    rw [fX11_given_66] at h
    cases h
  | succ n ih =>
    intro o v3 v4 v5 v6 h H locs ls hl hW hS h
    rw [fX11_given_66] at h
    refine lv_iload hx hb dX11_given_66 (lv_at hl 2 rfl) ?_
    refine lv_aload_n hx hb dX11_given_68 rfl (lv_at hl 0 rfl) ?_
    replace h := b1_some h
    obtain ⟨x1, gx1, h⟩ := h
    refine z_getI X hW gx1 kX11 (by decide) (by decide) kf_X11_160 dX11_given_69 ?_
    refine lv_icmp_ge (tgt := 129) hx hb dX11_given_72 (by decide) (fun c2 => ?_) (fun c2 => ?_)
    · replace h := it_t h c2
      refine lv_aload_n hx hb dX11_given_129 rfl (lv_at hl 0 rfl) ?_
      refine lv_iload_n hx hb dX11_given_130 rfl (lv_at hl 1 rfl) ?_
      refine lv_iload hx hb dX11_given_131 (lv_at hl 3 rfl) ?_
      refine lv_iload hx hb dX11_given_133 (lv_at hl 4 rfl) ?_
      replace h := b1_some h
      obtain ⟨q3, gq3, h⟩ := h
      replace h := b2_some h
      obtain ⟨x4, s5, gs5, h⟩ := h
      refine z_callVi (rest := []) X hW hS (cX11_half_met gs5) kb_X11_half kv_X11_half kl_X11_209 (it_v gq3).1 kX11 rfl rfl ⟨Nat.le_of_ble_eq_true rfl, Nat.le_of_ble_eq_true rfl⟩ rfl rfl (by decide) hl.1 dX11_given_135 ⟨(by decide), (by decide)⟩ (fun H locs hW hS => ?_)
      refine lv_pop hx hb dX11_given_138 rfl ?_
      exact z_etv X hlk hr hW hS h (by decide) (by decide) dX11_given_139
    · replace h := it_f h c2
      refine lv_aload_n hx hb dX11_given_75 rfl (lv_at hl 0 rfl) ?_
      replace h := b1_some h
      obtain ⟨a6, ga6, h⟩ := h
      refine z_getA X hW ga6 kX11 (by decide) (by decide) kf_X11_82 dX11_given_76 ?_
      refine lv_iload hx hb dX11_given_79 (lv_at hl 2 rfl) ?_
      refine lv_aload_n hx hb dX11_given_81 rfl (lv_at hl 0 rfl) ?_
      replace h := b1_some h
      obtain ⟨a7, ga7, h⟩ := h
      refine z_getA X hW ga7 kX11 (by decide) (by decide) kf_X11_82 dX11_given_82 ?_
      refine lv_iload hx hb dX11_given_85 (lv_at hl 2 rfl) ?_
      refine lv_iconst (v := 1) hx hb dX11_given_87 (by decide) ?_
      refine lv_iadd hx hb dX11_given_88 ?_
      replace h := b1_some h
      obtain ⟨x8, gx8, h⟩ := h
      refine z_aldI X hW gx8 dX11_given_89 ?_
      replace h := b1_some h
      obtain ⟨s9, gs9, h⟩ := h
      refine z_astI X hW hS gs9 dX11_given_90 (fun H locs hW hS => ?_)
      refine lv_aload_n hx hb dX11_given_91 rfl (lv_at hl 0 rfl) ?_
      replace h := b1_some h
      obtain ⟨a10, ga10, h⟩ := h
      refine z_getA X hW ga10 kX11 (by decide) (by decide) kf_X11_85 dX11_given_92 ?_
      refine lv_iload hx hb dX11_given_95 (lv_at hl 2 rfl) ?_
      refine lv_aload_n hx hb dX11_given_97 rfl (lv_at hl 0 rfl) ?_
      replace h := b1_some h
      obtain ⟨a11, ga11, h⟩ := h
      refine z_getA X hW ga11 kX11 (by decide) (by decide) kf_X11_85 dX11_given_98 ?_
      refine lv_iload hx hb dX11_given_101 (lv_at hl 2 rfl) ?_
      refine lv_iconst (v := 1) hx hb dX11_given_103 (by decide) ?_
      refine lv_iadd hx hb dX11_given_104 ?_
      replace h := b1_some h
      obtain ⟨x12, gx12, h⟩ := h
      refine z_aldI X hW gx12 dX11_given_105 ?_
      replace h := b1_some h
      obtain ⟨s13, gs13, h⟩ := h
      refine z_astI X hW hS gs13 dX11_given_106 (fun H locs hW hS => ?_)
      refine lv_aload_n hx hb dX11_given_107 rfl (lv_at hl 0 rfl) ?_
      replace h := b1_some h
      obtain ⟨a14, ga14, h⟩ := h
      refine z_getA X hW ga14 kX11 (by decide) (by decide) kf_X11_88 dX11_given_108 ?_
      refine lv_iload hx hb dX11_given_111 (lv_at hl 2 rfl) ?_
      refine lv_aload_n hx hb dX11_given_113 rfl (lv_at hl 0 rfl) ?_
      replace h := b1_some h
      obtain ⟨a15, ga15, h⟩ := h
      refine z_getA X hW ga15 kX11 (by decide) (by decide) kf_X11_88 dX11_given_114 ?_
      refine lv_iload hx hb dX11_given_117 (lv_at hl 2 rfl) ?_
      refine lv_iconst (v := 1) hx hb dX11_given_119 (by decide) ?_
      refine lv_iadd hx hb dX11_given_120 ?_
      replace h := b1_some h
      obtain ⟨x16, gx16, h⟩ := h
      refine z_aldI X hW gx16 dX11_given_121 ?_
      replace h := b1_some h
      obtain ⟨s17, gs17, h⟩ := h
      refine z_astI X hW hS gs17 dX11_given_122 (fun H locs hW hS => ?_)
      refine lv_iinc (v := (v4 + 1)) (lv' := [(4, .int (v4 + 1)), (0, .ref o), (3, .int v3), (5, .int v5), (6, .int v6)]) hx hb dX11_given_123 hl (k := 2) rfl rfl (by decide) rfl (fun ls hl => ?_)
      refine lv_goto (tgt := 66) hx hb dX11_given_126 (by decide) ?_
      exact ih o v3 (v4 + 1) v5 v6 _ _ _ _ (lv_sub hl [1, 2, 0, 3, 4] rfl) hW hS h

def fX11_given_21 : Nat → Nat → Int32 → Int32 → Hz → Option (Unit × Hz)
  | 0, _, _, _, _ => none
  | n + 1, o, v3, v4, h => (b1 (gA 11 26 o h) fun a1 => (b1 (xI 12 a1 v4 h) fun x2 => (if x2 = v3 then (b1 (gA 11 27 o h) fun a4 => (b1 (xI 12 a4 v4 h) fun x5 => (b1 (gA 11 28 o h) fun a6 => (b1 (xI 12 a6 v4 h) fun x7 => (b1 (gI 11 29 o h) fun x8 => (b1 (pI 11 29 o (x8 - 1) h) fun s9 => fX11_given_66 100000 o v3 v4 x5 x7 s9)))))) else fX11_given_21 n o v3 (v4 + 1) h)))
set_option maxHeartbeats 4000000 in
set_option maxRecDepth 100000 in
theorem wX11_given_21 {r0 : Unit} {h0 : Hz} (X : zX A D cy p s m args c cX11_given RX11 7) (hlk : meth.locks = false) (hr : meth.sig.returnType = none) : ∀ (n : Nat) (o : Nat) (v3 : Int32) (v4 : Int32) (h : Hz) (H : Heap) (locs : List Loc) (ls : Array Slot) (hl : lv_has ls 7 [(0, .ref o), (3, .int v3), (4, .int v4)]) (hW : zW A cy D h H) (hS : va_S A s.heap H locs) (h : fX11_given_21 n o v3 v4 h = some (r0, h0)), W p l e ({ frames := 3, cells := 0, slots := 0, locals := 76 } : Room) s m args below meth c H locs 0 0 (MQ below (va_Qv (fun u => u = h0) (zB A D cy) A) args s 0 0 A) (F0 m 21 ls []) := by
  obtain ⟨hx, hb, hts, hown, hK9, hml, hN9, hA9⟩ := id X
  intro n
  induction n with
  | zero =>
    intro o v3 v4 h H locs ls hl hW hS h
    rw [fX11_given_21] at h
    cases h
  | succ n ih =>
    intro o v3 v4 h H locs ls hl hW hS h
    rw [fX11_given_21] at h
    refine lv_aload_n hx hb dX11_given_21 rfl (lv_at hl 0 rfl) ?_
    replace h := b1_some h
    obtain ⟨a1, ga1, h⟩ := h
    refine z_getA X hW ga1 kX11 (by decide) (by decide) kf_X11_82 dX11_given_22 ?_
    refine lv_iload hx hb dX11_given_25 (lv_at hl 2 rfl) ?_
    replace h := b1_some h
    obtain ⟨x2, gx2, h⟩ := h
    refine z_aldI X hW gx2 dX11_given_27 ?_
    refine lv_iload_n hx hb dX11_given_28 rfl (lv_at hl 1 rfl) ?_
    refine lv_icmp_eq (tgt := 38) hx hb dX11_given_29 (by decide) (fun c3 => ?_) (fun c3 => ?_)
    · replace h := it_t h c3
      refine lv_aload_n hx hb dX11_given_38 rfl (lv_at hl 0 rfl) ?_
      replace h := b1_some h
      obtain ⟨a4, ga4, h⟩ := h
      refine z_getA X hW ga4 kX11 (by decide) (by decide) kf_X11_85 dX11_given_39 ?_
      refine lv_iload hx hb dX11_given_42 (lv_at hl 2 rfl) ?_
      replace h := b1_some h
      obtain ⟨x5, gx5, h⟩ := h
      refine z_aldI X hW gx5 dX11_given_44 ?_
      refine lv_istore (lv' := [(5, .int x5), (0, .ref o), (3, .int v3), (4, .int v4)]) hx hb dX11_given_45 hl (by decide) rfl (fun ls hl => ?_)
      refine lv_aload_n hx hb dX11_given_47 rfl (lv_at hl 1 rfl) ?_
      replace h := b1_some h
      obtain ⟨a6, ga6, h⟩ := h
      refine z_getA X hW ga6 kX11 (by decide) (by decide) kf_X11_88 dX11_given_48 ?_
      refine lv_iload hx hb dX11_given_51 (lv_at hl 3 rfl) ?_
      replace h := b1_some h
      obtain ⟨x7, gx7, h⟩ := h
      refine z_aldI X hW gx7 dX11_given_53 ?_
      refine lv_istore (lv' := [(6, .int x7), (5, .int x5), (0, .ref o), (3, .int v3), (4, .int v4)]) hx hb dX11_given_54 hl (by decide) rfl (fun ls hl => ?_)
      refine lv_aload_n hx hb dX11_given_56 rfl (lv_at hl 2 rfl) ?_
      refine lv_dup hx hb dX11_given_57 rfl ?_
      replace h := b1_some h
      obtain ⟨x8, gx8, h⟩ := h
      refine z_getI X hW gx8 kX11 (by decide) (by decide) kf_X11_160 dX11_given_58 ?_
      refine lv_iconst (v := 1) hx hb dX11_given_61 (by decide) ?_
      refine lv_isub hx hb dX11_given_62 ?_
      replace h := b1_some h
      obtain ⟨s9, gs9, h⟩ := h
      refine z_putI X hW hS gs9 kX11 (by decide) (by decide) rfl (Or.inl rfl) kf_X11_160 dX11_given_63 (fun H locs hW hS => ?_)
      exact wX11_given_66 X hlk hr _ o v3 v4 x5 x7 _ _ _ _ (lv_sub hl [2, 3, 4, 1, 0] rfl) hW hS h
    · replace h := it_f h c3
      refine lv_iinc (v := (v4 + 1)) (lv' := [(4, .int (v4 + 1)), (0, .ref o), (3, .int v3)]) hx hb dX11_given_32 hl (k := 2) rfl rfl (by decide) rfl (fun ls hl => ?_)
      refine lv_goto (tgt := 21) hx hb dX11_given_35 (by decide) ?_
      exact ih o v3 (v4 + 1) _ _ _ _ (lv_sub hl [1, 2, 0] rfl) hW hS h

def fX11_given (o : Nat) (v1 : Int32) (v2 : Int32) (h : Hz) : Option (Unit × Hz) := (b1 (tg 11 o h) fun _ => (b2 (fX11_gateOf o v2 v1 h) fun x2 s3 => (b1 (gA 11 6 o s3) fun a4 => (b1 (xI 12 a4 x2 s3) fun x5 => (b1 (yI a4 x2 (x5 + 64) s3) fun s6 => fX11_given_21 100000 o x2 0 s6)))))
set_option maxHeartbeats 4000000 in
set_option maxRecDepth 100000 in
theorem wX11_given_0 {r0 : Unit} {h0 : Hz} (X : zX A D cy p s m args c cX11_given RX11 7) (hlk : meth.locks = false) (hr : meth.sig.returnType = none) (o : Nat) (v1 : Int32) (v2 : Int32) (h : Hz) (H : Heap) (locs : List Loc) (ls : Array Slot) (hl : lv_has ls 7 [(0, .ref o), (1, .int v1), (2, .int v2)]) (hW : zW A cy D h H) (hS : va_S A s.heap H locs) (h : fX11_given o v1 v2 h = some (r0, h0)) : W p l e ({ frames := 3, cells := 0, slots := 0, locals := 76 } : Room) s m args below meth c H locs 0 0 (MQ below (va_Qv (fun u => u = h0) (zB A D cy) A) args s 0 0 A) (F0 m 0 ls []) := by
  obtain ⟨hx, hb, hts, hown, hK9, hml, hN9, hA9⟩ := id X
  unfold fX11_given at h
  refine lv_aload_n hx hb dX11_given_0 rfl (lv_at hl 0 rfl) ?_
  refine lv_iload_n hx hb dX11_given_1 rfl (lv_at hl 2 rfl) ?_
  refine lv_iload_n hx hb dX11_given_2 rfl (lv_at hl 1 rfl) ?_
  replace h := b1_some h
  obtain ⟨q1, gq1, h⟩ := h
  replace h := b2_some h
  obtain ⟨x2, s3, gs3, h⟩ := h
  refine z_callVi (rest := []) X hW hS (cX11_gateOf_met gs3) kb_X11_gateOf kv_X11_gateOf kl_X11_196 (it_v gq1).1 kX11 rfl rfl ⟨Nat.le_of_ble_eq_true rfl, Nat.le_of_ble_eq_true rfl⟩ rfl rfl (by decide) hl.1 dX11_given_3 ⟨(by decide), (by decide)⟩ (fun H locs hW hS => ?_)
  refine lv_istore_n (lv' := [(3, .int x2), (0, .ref o), (1, .int v1), (2, .int v2)]) hx hb dX11_given_6 rfl hl (by decide) rfl (fun ls hl => ?_)
  refine lv_aload_n hx hb dX11_given_7 rfl (lv_at hl 1 rfl) ?_
  replace h := b1_some h
  obtain ⟨a4, ga4, h⟩ := h
  refine z_getA X hW ga4 kX11 (by decide) (by decide) kf_X11_28 dX11_given_8 ?_
  refine lv_iload_n hx hb dX11_given_11 rfl (lv_at hl 0 rfl) ?_
  refine lv_dup2_11 hx hb dX11_given_12 rfl rfl ?_
  replace h := b1_some h
  obtain ⟨x5, gx5, h⟩ := h
  refine z_aldI X hW gx5 dX11_given_13 ?_
  refine lv_bipush (v := 64) hx hb dX11_given_14 (by decide) ?_
  refine lv_iadd hx hb dX11_given_16 ?_
  replace h := b1_some h
  obtain ⟨s6, gs6, h⟩ := h
  refine z_astI X hW hS gs6 dX11_given_17 (fun H locs hW hS => ?_)
  refine lv_iconst (v := 0) hx hb dX11_given_18 (by decide) ?_
  refine lv_istore (lv' := [(4, .int 0), (3, .int x2), (0, .ref o), (1, .int v1), (2, .int v2)]) hx hb dX11_given_19 hl (by decide) rfl (fun ls hl => ?_)
  exact wX11_given_21 X hlk hr _ o x2 0 _ _ _ _ (lv_sub hl [2, 1, 0] rfl) hW hS h

set_option maxHeartbeats 4000000 in
set_option maxRecDepth 100000 in
theorem cX11_given_met {l : Launch} {A : Nat → Prop} {D : va_G} {cy : Nat → ClassId} {r0 : Unit} {h0 : Hz} {o : Nat} {v1 : Int32} {v2 : Int32} {h : Hz} (g : fX11_given o v1 v2 h = some (r0, h0)) : Met l yX11_given (Cond.code yX11_given cX11_given 7 none :: wT) ({ frames := 3, cells := 0, slots := 0, locals := 76 } : Room) (va_Pc [.ref o, .int v1, .int v2] (zS A D cy h)) (va_Qv (fun u => u = h0) (zB A D cy) A) 0 0 A := by
  refine Met.ofW (cc := cX11_given) (maxL := 7) (ret := none) (by decide) rfl ?_
  intro p e s m args below meth c s₁ B hml hv
  obtain ⟨rfl, hW, hK, hN, hA⟩ := hv
  have X : zX A D cy p s m _ c cX11_given RX11 7 := ⟨B.exec, B.bytes, fun w hw => atoms_spec (ws := Cond.code yX11_given cX11_given 7 none :: wT) B.pre w (List.mem_cons_of_mem _ hw), findClass_of_methodNamed B.named, hK, hml, hN, hA⟩
  have hl := lv_entry [.ref o, .int v1, .int v2] (n := 7) (Nat.le_of_ble_eq_true rfl)
  rw [lg_entry_eq]
  generalize (lg_sl [.ref o, .int v1, .int v2] ++ List.replicate (7 - (lg_sl [.ref o, .int v1, .int v2]).length) Slot.unset).toArray = ls at hl ⊢
  have hl : lv_has ls 7 [(0, .ref o), (1, .int v1), (2, .int v2)] := hl
  exact wX11_given_0 X B.notSynchronized B.returns o v1 v2 _ _ _ _ (lv_sub hl [0, 1, 2] rfl) hW va_S.rf g

theorem dX11_named_0 : decode cX11_named 0 = .ok (.iload_n 2, 1) := by decide +kernel
theorem dX11_named_1 : decode cX11_named 1 = .ok (.istore 4, 2) := by decide +kernel
theorem dX11_named_3 : decode cX11_named 3 = .ok (.aload_n 0, 1) := by decide +kernel
theorem dX11_named_4 : decode cX11_named 4 = .ok (.getfield 13, 3) := by decide +kernel
theorem dX11_named_7 : decode cX11_named 7 = .ok (.iload_n 2, 1) := by decide +kernel
theorem dX11_named_8 : decode cX11_named 8 = .ok (.iaload, 1) := by decide +kernel
theorem dX11_named_9 : decode cX11_named 9 = .ok (.iload_n 3, 1) := by decide +kernel
theorem dX11_named_10 : decode cX11_named 10 = .ok (.if_icmp .ne 17, 3) := by decide +kernel
theorem dX11_named_13 : decode cX11_named 13 = .ok (.aload_n 0, 1) := by decide +kernel
theorem dX11_named_14 : decode cX11_named 14 = .ok (.iload_n 2, 1) := by decide +kernel
theorem dX11_named_15 : decode cX11_named 15 = .ok (.aload_n 0, 1) := by decide +kernel
theorem dX11_named_16 : decode cX11_named 16 = .ok (.getfield 64, 3) := by decide +kernel
theorem dX11_named_19 : decode cX11_named 19 = .ok (.iload_n 1, 1) := by decide +kernel
theorem dX11_named_20 : decode cX11_named 20 = .ok (.iaload, 1) := by decide +kernel
theorem dX11_named_21 : decode cX11_named 21 = .ok (.invokevirtual 228, 3) := by decide +kernel
theorem dX11_named_24 : decode cX11_named 24 = .ok (.goto 50, 3) := by decide +kernel
theorem dX11_named_27 : decode cX11_named 27 = .ok (.aload_n 0, 1) := by decide +kernel
theorem dX11_named_28 : decode cX11_named 28 = .ok (.iload_n 3, 1) := by decide +kernel
theorem dX11_named_29 : decode cX11_named 29 = .ok (.iload_n 2, 1) := by decide +kernel
theorem dX11_named_30 : decode cX11_named 30 = .ok (.invokevirtual 196, 3) := by decide +kernel
theorem dX11_named_33 : decode cX11_named 33 = .ok (.istore 4, 2) := by decide +kernel
theorem dX11_named_35 : decode cX11_named 35 = .ok (.iload 4, 2) := by decide +kernel
theorem dX11_named_37 : decode cX11_named 37 = .ok (.iconst (-1), 1) := by decide +kernel
theorem dX11_named_38 : decode cX11_named 38 = .ok (.if_icmp .ne 20, 3) := by decide +kernel
theorem dX11_named_41 : decode cX11_named 41 = .ok (.aload_n 0, 1) := by decide +kernel
theorem dX11_named_42 : decode cX11_named 42 = .ok (.iconst 3, 1) := by decide +kernel
theorem dX11_named_43 : decode cX11_named 43 = .ok (.iload_n 3, 1) := by decide +kernel
theorem dX11_named_44 : decode cX11_named 44 = .ok (.iconst 0, 1) := by decide +kernel
theorem dX11_named_45 : decode cX11_named 45 = .ok (.invokevirtual 174, 3) := by decide +kernel
theorem dX11_named_48 : decode cX11_named 48 = .ok (.istore 4, 2) := by decide +kernel
theorem dX11_named_50 : decode cX11_named 50 = .ok (.aload_n 0, 1) := by decide +kernel
theorem dX11_named_51 : decode cX11_named 51 = .ok (.getfield 25, 3) := by decide +kernel
theorem dX11_named_54 : decode cX11_named 54 = .ok (.iload 4, 2) := by decide +kernel
theorem dX11_named_56 : decode cX11_named 56 = .ok (.iload_n 2, 1) := by decide +kernel
theorem dX11_named_57 : decode cX11_named 57 = .ok (.iastore, 1) := by decide +kernel
theorem dX11_named_58 : decode cX11_named 58 = .ok (.aload_n 0, 1) := by decide +kernel
theorem dX11_named_59 : decode cX11_named 59 = .ok (.getfield 28, 3) := by decide +kernel
theorem dX11_named_62 : decode cX11_named 62 = .ok (.iload 4, 2) := by decide +kernel
theorem dX11_named_64 : decode cX11_named 64 = .ok (.dup2, 1) := by decide +kernel
theorem dX11_named_65 : decode cX11_named 65 = .ok (.iaload, 1) := by decide +kernel
theorem dX11_named_66 : decode cX11_named 66 = .ok (.aload_n 0, 1) := by decide +kernel
theorem dX11_named_67 : decode cX11_named 67 = .ok (.getfield 64, 3) := by decide +kernel
theorem dX11_named_70 : decode cX11_named 70 = .ok (.iload_n 1, 1) := by decide +kernel
theorem dX11_named_71 : decode cX11_named 71 = .ok (.iaload, 1) := by decide +kernel
theorem dX11_named_72 : decode cX11_named 72 = .ok (.iadd, 1) := by decide +kernel
theorem dX11_named_73 : decode cX11_named 73 = .ok (.iastore, 1) := by decide +kernel
theorem dX11_named_74 : decode cX11_named 74 = .ok (.aload_n 0, 1) := by decide +kernel
theorem dX11_named_75 : decode cX11_named 75 = .ok (.aload_n 0, 1) := by decide +kernel
theorem dX11_named_76 : decode cX11_named 76 = .ok (.getfield 67, 3) := by decide +kernel
theorem dX11_named_79 : decode cX11_named 79 = .ok (.iload_n 1, 1) := by decide +kernel
theorem dX11_named_80 : decode cX11_named 80 = .ok (.iaload, 1) := by decide +kernel
theorem dX11_named_81 : decode cX11_named 81 = .ok (.aload_n 0, 1) := by decide +kernel
theorem dX11_named_82 : decode cX11_named 82 = .ok (.getfield 70, 3) := by decide +kernel
theorem dX11_named_85 : decode cX11_named 85 = .ok (.iload_n 1, 1) := by decide +kernel
theorem dX11_named_86 : decode cX11_named 86 = .ok (.iaload, 1) := by decide +kernel
theorem dX11_named_87 : decode cX11_named 87 = .ok (.iload 4, 2) := by decide +kernel
theorem dX11_named_89 : decode cX11_named 89 = .ok (.invokevirtual 188, 3) := by decide +kernel
theorem dX11_named_92 : decode cX11_named 92 = .ok (.return_, 1) := by decide +kernel
def fX11_named_74 (o : Nat) (v1 : Int32) (v4 : Int32) (h : Hz) : Option (Unit × Hz) := (b1 (gA 11 19 o h) fun a1 => (b1 (xI 12 a1 v1 h) fun x2 => (b1 (gA 11 20 o h) fun a3 => (b1 (xI 12 a3 v1 h) fun x4 => (b1 (tg 11 o h) fun _ => (b2 (fX11_lay o x2 x4 v4 h) fun _ s7 => some ((), s7)))))))
set_option maxHeartbeats 4000000 in
set_option maxRecDepth 100000 in
theorem wX11_named_74 {r0 : Unit} {h0 : Hz} (X : zX A D cy p s m args c cX11_named RX11 5) (hlk : meth.locks = false) (hr : meth.sig.returnType = none) (o : Nat) (v1 : Int32) (v4 : Int32) (h : Hz) (H : Heap) (locs : List Loc) (ls : Array Slot) (hl : lv_has ls 5 [(0, .ref o), (1, .int v1), (4, .int v4)]) (hW : zW A cy D h H) (hS : va_S A s.heap H locs) (h : fX11_named_74 o v1 v4 h = some (r0, h0)) : W p l e ({ frames := 1, cells := 0, slots := 0, locals := 24 } : Room) s m args below meth c H locs 0 0 (MQ below (va_Qv (fun u => u = h0) (zB A D cy) A) args s 0 0 A) (F0 m 74 ls []) := by
  obtain ⟨hx, hb, hts, hown, hK9, hml, hN9, hA9⟩ := id X
  unfold fX11_named_74 at h
  refine lv_aload_n hx hb dX11_named_74 rfl (lv_at hl 0 rfl) ?_
  refine lv_aload_n hx hb dX11_named_75 rfl (lv_at hl 0 rfl) ?_
  replace h := b1_some h
  obtain ⟨a1, ga1, h⟩ := h
  refine z_getA X hW ga1 kX11 (by decide) (by decide) kf_X11_67 dX11_named_76 ?_
  refine lv_iload_n hx hb dX11_named_79 rfl (lv_at hl 1 rfl) ?_
  replace h := b1_some h
  obtain ⟨x2, gx2, h⟩ := h
  refine z_aldI X hW gx2 dX11_named_80 ?_
  refine lv_aload_n hx hb dX11_named_81 rfl (lv_at hl 0 rfl) ?_
  replace h := b1_some h
  obtain ⟨a3, ga3, h⟩ := h
  refine z_getA X hW ga3 kX11 (by decide) (by decide) kf_X11_70 dX11_named_82 ?_
  refine lv_iload_n hx hb dX11_named_85 rfl (lv_at hl 1 rfl) ?_
  replace h := b1_some h
  obtain ⟨x4, gx4, h⟩ := h
  refine z_aldI X hW gx4 dX11_named_86 ?_
  refine lv_iload hx hb dX11_named_87 (lv_at hl 2 rfl) ?_
  replace h := b1_some h
  obtain ⟨q5, gq5, h⟩ := h
  replace h := b2_some h
  obtain ⟨_ur6, s7, gs7, h⟩ := h
  refine z_callVv (rest := []) X hW hS (cX11_lay_met gs7) kb_X11_lay kv_X11_lay kl_X11_188 (it_v gq5).1 kX11 rfl rfl ⟨Nat.le_of_ble_eq_true rfl, Nat.le_of_ble_eq_true rfl⟩ rfl rfl (by decide) hl.1 dX11_named_89 ⟨(by decide), (by decide)⟩ (fun H locs hW hS => ?_)
  exact z_etv X hlk hr hW hS h (by decide) (by decide) dX11_named_92

def fX11_named_58 (o : Nat) (v1 : Int32) (v4 : Int32) (h : Hz) : Option (Unit × Hz) := (b1 (gA 11 6 o h) fun a1 => (b1 (xI 12 a1 v4 h) fun x2 => (b1 (gA 11 18 o h) fun a3 => (b1 (xI 12 a3 v1 h) fun x4 => (b1 (yI a1 v4 (x2 + x4) h) fun s5 => fX11_named_74 o v1 v4 s5)))))
set_option maxHeartbeats 4000000 in
set_option maxRecDepth 100000 in
theorem wX11_named_58 {r0 : Unit} {h0 : Hz} (X : zX A D cy p s m args c cX11_named RX11 5) (hlk : meth.locks = false) (hr : meth.sig.returnType = none) (o : Nat) (v1 : Int32) (v4 : Int32) (h : Hz) (H : Heap) (locs : List Loc) (ls : Array Slot) (hl : lv_has ls 5 [(0, .ref o), (1, .int v1), (4, .int v4)]) (hW : zW A cy D h H) (hS : va_S A s.heap H locs) (h : fX11_named_58 o v1 v4 h = some (r0, h0)) : W p l e ({ frames := 1, cells := 0, slots := 0, locals := 24 } : Room) s m args below meth c H locs 0 0 (MQ below (va_Qv (fun u => u = h0) (zB A D cy) A) args s 0 0 A) (F0 m 58 ls []) := by
  obtain ⟨hx, hb, hts, hown, hK9, hml, hN9, hA9⟩ := id X
  unfold fX11_named_58 at h
  refine lv_aload_n hx hb dX11_named_58 rfl (lv_at hl 0 rfl) ?_
  replace h := b1_some h
  obtain ⟨a1, ga1, h⟩ := h
  refine z_getA X hW ga1 kX11 (by decide) (by decide) kf_X11_28 dX11_named_59 ?_
  refine lv_iload hx hb dX11_named_62 (lv_at hl 2 rfl) ?_
  refine lv_dup2_11 hx hb dX11_named_64 rfl rfl ?_
  replace h := b1_some h
  obtain ⟨x2, gx2, h⟩ := h
  refine z_aldI X hW gx2 dX11_named_65 ?_
  refine lv_aload_n hx hb dX11_named_66 rfl (lv_at hl 0 rfl) ?_
  replace h := b1_some h
  obtain ⟨a3, ga3, h⟩ := h
  refine z_getA X hW ga3 kX11 (by decide) (by decide) kf_X11_64 dX11_named_67 ?_
  refine lv_iload_n hx hb dX11_named_70 rfl (lv_at hl 1 rfl) ?_
  replace h := b1_some h
  obtain ⟨x4, gx4, h⟩ := h
  refine z_aldI X hW gx4 dX11_named_71 ?_
  refine lv_iadd hx hb dX11_named_72 ?_
  replace h := b1_some h
  obtain ⟨s5, gs5, h⟩ := h
  refine z_astI X hW hS gs5 dX11_named_73 (fun H locs hW hS => ?_)
  exact wX11_named_74 X hlk hr o v1 v4 _ _ _ _ (lv_sub hl [0, 1, 2] rfl) hW hS h

def fX11_named (o : Nat) (v1 : Int32) (v2 : Int32) (v3 : Int32) (h : Hz) : Option (Unit × Hz) := (b1 (gA 11 1 o h) fun a1 => (b1 (xI 12 a1 v2 h) fun x2 => (if x2 = v3 then (b1 (gA 11 18 o h) fun a13 => (b1 (xI 12 a13 v1 h) fun x14 => (b1 (tg 11 o h) fun _ => (b2 (fX11_takes o v2 x14 h) fun _ s17 => fX11_named_74 o v1 v2 s17)))) else (b1 (tg 11 o h) fun _ => (b2 (fX11_gateOf o v3 v2 h) fun x5 s6 => (if x5 = (-1) then (b1 (tg 11 o s6) fun _ => (b2 (fX11_make o 3 v3 0 s6) fun x9 s10 => (b1 (gA 11 5 o s10) fun a11 => (b1 (yI a11 x9 v2 s10) fun s12 => fX11_named_58 o v1 x9 s12)))) else fX11_named_58 o v1 x5 s6))))))
set_option maxHeartbeats 4000000 in
set_option maxRecDepth 100000 in
theorem wX11_named_0 {r0 : Unit} {h0 : Hz} (X : zX A D cy p s m args c cX11_named RX11 5) (hlk : meth.locks = false) (hr : meth.sig.returnType = none) (o : Nat) (v1 : Int32) (v2 : Int32) (v3 : Int32) (h : Hz) (H : Heap) (locs : List Loc) (ls : Array Slot) (hl : lv_has ls 5 [(0, .ref o), (1, .int v1), (2, .int v2), (3, .int v3)]) (hW : zW A cy D h H) (hS : va_S A s.heap H locs) (h : fX11_named o v1 v2 v3 h = some (r0, h0)) : W p l e ({ frames := 1, cells := 0, slots := 0, locals := 24 } : Room) s m args below meth c H locs 0 0 (MQ below (va_Qv (fun u => u = h0) (zB A D cy) A) args s 0 0 A) (F0 m 0 ls []) := by
  obtain ⟨hx, hb, hts, hown, hK9, hml, hN9, hA9⟩ := id X
  unfold fX11_named at h
  refine lv_iload_n hx hb dX11_named_0 rfl (lv_at hl 2 rfl) ?_
  refine lv_istore (lv' := [(4, .int v2), (0, .ref o), (1, .int v1), (2, .int v2), (3, .int v3)]) hx hb dX11_named_1 hl (by decide) rfl (fun ls hl => ?_)
  refine lv_aload_n hx hb dX11_named_3 rfl (lv_at hl 1 rfl) ?_
  replace h := b1_some h
  obtain ⟨a1, ga1, h⟩ := h
  refine z_getA X hW ga1 kX11 (by decide) (by decide) kf_X11_13 dX11_named_4 ?_
  refine lv_iload_n hx hb dX11_named_7 rfl (lv_at hl 3 rfl) ?_
  replace h := b1_some h
  obtain ⟨x2, gx2, h⟩ := h
  refine z_aldI X hW gx2 dX11_named_8 ?_
  refine lv_iload_n hx hb dX11_named_9 rfl (lv_at hl 4 rfl) ?_
  refine lv_icmp_ne (tgt := 27) hx hb dX11_named_10 (by decide) (fun c3 => ?_) (fun c3 => ?_)
  · replace h := it_f h c3
    refine lv_aload_n hx hb dX11_named_27 rfl (lv_at hl 1 rfl) ?_
    refine lv_iload_n hx hb dX11_named_28 rfl (lv_at hl 4 rfl) ?_
    refine lv_iload_n hx hb dX11_named_29 rfl (lv_at hl 3 rfl) ?_
    replace h := b1_some h
    obtain ⟨q4, gq4, h⟩ := h
    replace h := b2_some h
    obtain ⟨x5, s6, gs6, h⟩ := h
    refine z_callVi (rest := []) X hW hS (cX11_gateOf_met gs6) kb_X11_gateOf kv_X11_gateOf kl_X11_196 (it_v gq4).1 kX11 rfl rfl ⟨Nat.le_of_ble_eq_true rfl, Nat.le_of_ble_eq_true rfl⟩ rfl rfl (by decide) hl.1 dX11_named_30 ⟨(by decide), (by decide)⟩ (fun H locs hW hS => ?_)
    refine lv_istore (lv' := [(4, .int x5), (0, .ref o), (1, .int v1), (2, .int v2), (3, .int v3)]) hx hb dX11_named_33 hl (by decide) rfl (fun ls hl => ?_)
    refine lv_iload hx hb dX11_named_35 (lv_at hl 0 rfl) ?_
    refine lv_iconst (v := (-1)) hx hb dX11_named_37 (by decide) ?_
    refine lv_icmp_ne (tgt := 58) hx hb dX11_named_38 (by decide) (fun c7 => ?_) (fun c7 => ?_)
    · replace h := it_f h c7
      exact wX11_named_58 X hlk hr o v1 x5 _ _ _ _ (lv_sub hl [1, 2, 0] rfl) hW hS h
    · replace h := it_t h c7
      refine lv_aload_n hx hb dX11_named_41 rfl (lv_at hl 1 rfl) ?_
      refine lv_iconst (v := 3) hx hb dX11_named_42 (by decide) ?_
      refine lv_iload_n hx hb dX11_named_43 rfl (lv_at hl 4 rfl) ?_
      refine lv_iconst (v := 0) hx hb dX11_named_44 (by decide) ?_
      replace h := b1_some h
      obtain ⟨q8, gq8, h⟩ := h
      replace h := b2_some h
      obtain ⟨x9, s10, gs10, h⟩ := h
      refine z_callVi (rest := []) X hW hS (cX11_make_met gs10) kb_X11_make kv_X11_make kl_X11_174 (it_v gq8).1 kX11 rfl rfl ⟨Nat.le_of_ble_eq_true rfl, Nat.le_of_ble_eq_true rfl⟩ rfl rfl (by decide) hl.1 dX11_named_45 ⟨(by decide), (by decide)⟩ (fun H locs hW hS => ?_)
      refine lv_istore (lv' := [(4, .int x9), (0, .ref o), (1, .int v1), (2, .int v2), (3, .int v3)]) hx hb dX11_named_48 hl (by decide) rfl (fun ls hl => ?_)
      refine lv_aload_n hx hb dX11_named_50 rfl (lv_at hl 1 rfl) ?_
      replace h := b1_some h
      obtain ⟨a11, ga11, h⟩ := h
      refine z_getA X hW ga11 kX11 (by decide) (by decide) kf_X11_25 dX11_named_51 ?_
      refine lv_iload hx hb dX11_named_54 (lv_at hl 0 rfl) ?_
      refine lv_iload_n hx hb dX11_named_56 rfl (lv_at hl 3 rfl) ?_
      replace h := b1_some h
      obtain ⟨s12, gs12, h⟩ := h
      refine z_astI X hW hS gs12 dX11_named_57 (fun H locs hW hS => ?_)
      exact wX11_named_58 X hlk hr o v1 x9 _ _ _ _ (lv_sub hl [1, 2, 0] rfl) hW hS h
  · replace h := it_t h c3
    refine lv_aload_n hx hb dX11_named_13 rfl (lv_at hl 1 rfl) ?_
    refine lv_iload_n hx hb dX11_named_14 rfl (lv_at hl 3 rfl) ?_
    refine lv_aload_n hx hb dX11_named_15 rfl (lv_at hl 1 rfl) ?_
    replace h := b1_some h
    obtain ⟨a13, ga13, h⟩ := h
    refine z_getA X hW ga13 kX11 (by decide) (by decide) kf_X11_64 dX11_named_16 ?_
    refine lv_iload_n hx hb dX11_named_19 rfl (lv_at hl 2 rfl) ?_
    replace h := b1_some h
    obtain ⟨x14, gx14, h⟩ := h
    refine z_aldI X hW gx14 dX11_named_20 ?_
    replace h := b1_some h
    obtain ⟨q15, gq15, h⟩ := h
    replace h := b2_some h
    obtain ⟨_ur16, s17, gs17, h⟩ := h
    refine z_callVv (rest := []) X hW hS (cX11_takes_met gs17) kb_X11_takes kv_X11_takes kl_X11_228 (it_v gq15).1 kX11 rfl rfl ⟨Nat.le_of_ble_eq_true rfl, Nat.le_of_ble_eq_true rfl⟩ rfl rfl (by decide) hl.1 dX11_named_21 ⟨(by decide), (by decide)⟩ (fun H locs hW hS => ?_)
    refine lv_goto (tgt := 74) hx hb dX11_named_24 (by decide) ?_
    exact wX11_named_74 X hlk hr o v1 v2 _ _ _ _ (lv_sub hl [1, 2, 0] rfl) hW hS h

set_option maxHeartbeats 4000000 in
set_option maxRecDepth 100000 in
theorem cX11_named_met {l : Launch} {A : Nat → Prop} {D : va_G} {cy : Nat → ClassId} {r0 : Unit} {h0 : Hz} {o : Nat} {v1 : Int32} {v2 : Int32} {v3 : Int32} {h : Hz} (g : fX11_named o v1 v2 v3 h = some (r0, h0)) : Met l yX11_named (Cond.code yX11_named cX11_named 5 none :: wT) ({ frames := 1, cells := 0, slots := 0, locals := 24 } : Room) (va_Pc [.ref o, .int v1, .int v2, .int v3] (zS A D cy h)) (va_Qv (fun u => u = h0) (zB A D cy) A) 0 0 A := by
  refine Met.ofW (cc := cX11_named) (maxL := 5) (ret := none) (by decide) rfl ?_
  intro p e s m args below meth c s₁ B hml hv
  obtain ⟨rfl, hW, hK, hN, hA⟩ := hv
  have X : zX A D cy p s m _ c cX11_named RX11 5 := ⟨B.exec, B.bytes, fun w hw => atoms_spec (ws := Cond.code yX11_named cX11_named 5 none :: wT) B.pre w (List.mem_cons_of_mem _ hw), findClass_of_methodNamed B.named, hK, hml, hN, hA⟩
  have hl := lv_entry [.ref o, .int v1, .int v2, .int v3] (n := 5) (Nat.le_of_ble_eq_true rfl)
  rw [lg_entry_eq]
  generalize (lg_sl [.ref o, .int v1, .int v2, .int v3] ++ List.replicate (5 - (lg_sl [.ref o, .int v1, .int v2, .int v3]).length) Slot.unset).toArray = ls at hl ⊢
  have hl : lv_has ls 5 [(0, .ref o), (1, .int v1), (2, .int v2), (3, .int v3)] := hl
  exact wX11_named_0 X B.notSynchronized B.returns o v1 v2 v3 _ _ _ _ (lv_sub hl [0, 1, 2, 3] rfl) hW va_S.rf g

theorem dX11_note_0 : decode cX11_note 0 = .ok (.sipush 300, 3) := by decide +kernel
theorem dX11_note_3 : decode cX11_note 3 = .ok (.iload_n 1, 1) := by decide +kernel
theorem dX11_note_4 : decode cX11_note 4 = .ok (.imul, 1) := by decide +kernel
theorem dX11_note_5 : decode cX11_note 5 = .ok (.iload_n 2, 1) := by decide +kernel
theorem dX11_note_6 : decode cX11_note 6 = .ok (.iadd, 1) := by decide +kernel
theorem dX11_note_7 : decode cX11_note 7 = .ok (.istore_n 3, 1) := by decide +kernel
theorem dX11_note_8 : decode cX11_note 8 = .ok (.aload_n 0, 1) := by decide +kernel
theorem dX11_note_9 : decode cX11_note 9 = .ok (.getfield 124, 3) := by decide +kernel
theorem dX11_note_12 : decode cX11_note 12 = .ok (.iload_n 3, 1) := by decide +kernel
theorem dX11_note_13 : decode cX11_note 13 = .ok (.iconst 1, 1) := by decide +kernel
theorem dX11_note_14 : decode cX11_note 14 = .ok (.bastore, 1) := by decide +kernel
theorem dX11_note_15 : decode cX11_note 15 = .ok (.aload_n 0, 1) := by decide +kernel
theorem dX11_note_16 : decode cX11_note 16 = .ok (.getfield 130, 3) := by decide +kernel
theorem dX11_note_19 : decode cX11_note 19 = .ok (.iload_n 3, 1) := by decide +kernel
theorem dX11_note_20 : decode cX11_note 20 = .ok (.aload_n 0, 1) := by decide +kernel
theorem dX11_note_21 : decode cX11_note 21 = .ok (.getfield 9, 3) := by decide +kernel
theorem dX11_note_24 : decode cX11_note 24 = .ok (.iload_n 2, 1) := by decide +kernel
theorem dX11_note_25 : decode cX11_note 25 = .ok (.iaload, 1) := by decide +kernel
theorem dX11_note_26 : decode cX11_note 26 = .ok (.iconst 3, 1) := by decide +kernel
theorem dX11_note_27 : decode cX11_note 27 = .ok (.if_icmp .ne 12, 3) := by decide +kernel
theorem dX11_note_30 : decode cX11_note 30 = .ok (.aload_n 0, 1) := by decide +kernel
theorem dX11_note_31 : decode cX11_note 31 = .ok (.getfield 28, 3) := by decide +kernel
theorem dX11_note_34 : decode cX11_note 34 = .ok (.iload_n 2, 1) := by decide +kernel
theorem dX11_note_35 : decode cX11_note 35 = .ok (.iaload, 1) := by decide +kernel
theorem dX11_note_36 : decode cX11_note 36 = .ok (.goto 9, 3) := by decide +kernel
theorem dX11_note_39 : decode cX11_note 39 = .ok (.aload_n 0, 1) := by decide +kernel
theorem dX11_note_40 : decode cX11_note 40 = .ok (.getfield 22, 3) := by decide +kernel
theorem dX11_note_43 : decode cX11_note 43 = .ok (.iload_n 2, 1) := by decide +kernel
theorem dX11_note_44 : decode cX11_note 44 = .ok (.iaload, 1) := by decide +kernel
theorem dX11_note_45 : decode cX11_note 45 = .ok (.iastore, 1) := by decide +kernel
theorem dX11_note_46 : decode cX11_note 46 = .ok (.aload_n 0, 1) := by decide +kernel
theorem dX11_note_47 : decode cX11_note 47 = .ok (.getfield 127, 3) := by decide +kernel
theorem dX11_note_50 : decode cX11_note 50 = .ok (.iload_n 3, 1) := by decide +kernel
theorem dX11_note_51 : decode cX11_note 51 = .ok (.aload_n 0, 1) := by decide +kernel
theorem dX11_note_52 : decode cX11_note 52 = .ok (.iload_n 2, 1) := by decide +kernel
theorem dX11_note_53 : decode cX11_note 53 = .ok (.invokevirtual 246, 3) := by decide +kernel
theorem dX11_note_56 : decode cX11_note 56 = .ok (.bastore, 1) := by decide +kernel
theorem dX11_note_57 : decode cX11_note 57 = .ok (.iconst 0, 1) := by decide +kernel
theorem dX11_note_58 : decode cX11_note 58 = .ok (.istore 4, 2) := by decide +kernel
theorem dX11_note_60 : decode cX11_note 60 = .ok (.iload 4, 2) := by decide +kernel
theorem dX11_note_62 : decode cX11_note 62 = .ok (.aload_n 0, 1) := by decide +kernel
theorem dX11_note_63 : decode cX11_note 63 = .ok (.getfield 145, 3) := by decide +kernel
theorem dX11_note_66 : decode cX11_note 66 = .ok (.if_icmp .ge 83, 3) := by decide +kernel
theorem dX11_note_69 : decode cX11_note 69 = .ok (.iload 4, 2) := by decide +kernel
theorem dX11_note_71 : decode cX11_note 71 = .ok (.iload_n 2, 1) := by decide +kernel
theorem dX11_note_72 : decode cX11_note 72 = .ok (.if_icmp .eq 71, 3) := by decide +kernel
theorem dX11_note_75 : decode cX11_note 75 = .ok (.aload_n 0, 1) := by decide +kernel
theorem dX11_note_76 : decode cX11_note 76 = .ok (.getfield 13, 3) := by decide +kernel
theorem dX11_note_79 : decode cX11_note 79 = .ok (.iload 4, 2) := by decide +kernel
theorem dX11_note_81 : decode cX11_note 81 = .ok (.iaload, 1) := by decide +kernel
theorem dX11_note_82 : decode cX11_note 82 = .ok (.aload_n 0, 1) := by decide +kernel
theorem dX11_note_83 : decode cX11_note 83 = .ok (.getfield 13, 3) := by decide +kernel
theorem dX11_note_86 : decode cX11_note 86 = .ok (.iload_n 2, 1) := by decide +kernel
theorem dX11_note_87 : decode cX11_note 87 = .ok (.iaload, 1) := by decide +kernel
theorem dX11_note_88 : decode cX11_note 88 = .ok (.if_icmp .ne 55, 3) := by decide +kernel
theorem dX11_note_91 : decode cX11_note 91 = .ok (.aload_n 0, 1) := by decide +kernel
theorem dX11_note_92 : decode cX11_note 92 = .ok (.iload 4, 2) := by decide +kernel
theorem dX11_note_94 : decode cX11_note 94 = .ok (.invokevirtual 237, 3) := by decide +kernel
theorem dX11_note_97 : decode cX11_note 97 = .ok (.ifCond .ne 6, 3) := by decide +kernel
theorem dX11_note_100 : decode cX11_note 100 = .ok (.goto 43, 3) := by decide +kernel
theorem dX11_note_103 : decode cX11_note 103 = .ok (.aload_n 0, 1) := by decide +kernel
theorem dX11_note_104 : decode cX11_note 104 = .ok (.invokevirtual 153, 3) := by decide +kernel
theorem dX11_note_107 : decode cX11_note 107 = .ok (.aload_n 0, 1) := by decide +kernel
theorem dX11_note_108 : decode cX11_note 108 = .ok (.iload 4, 2) := by decide +kernel
theorem dX11_note_110 : decode cX11_note 110 = .ok (.invokevirtual 156, 3) := by decide +kernel
theorem dX11_note_113 : decode cX11_note 113 = .ok (.aload_n 0, 1) := by decide +kernel
theorem dX11_note_114 : decode cX11_note 114 = .ok (.getfield 100, 3) := by decide +kernel
theorem dX11_note_117 : decode cX11_note 117 = .ok (.iload_n 2, 1) := by decide +kernel
theorem dX11_note_118 : decode cX11_note 118 = .ok (.baload, 1) := by decide +kernel
theorem dX11_note_119 : decode cX11_note 119 = .ok (.ifCond .eq 24, 3) := by decide +kernel
theorem dX11_note_122 : decode cX11_note 122 = .ok (.aload_n 0, 1) := by decide +kernel
theorem dX11_note_123 : decode cX11_note 123 = .ok (.getfield 133, 3) := by decide +kernel
theorem dX11_note_126 : decode cX11_note 126 = .ok (.iconst 5, 1) := by decide +kernel
theorem dX11_note_127 : decode cX11_note 127 = .ok (.iload_n 3, 1) := by decide +kernel
theorem dX11_note_128 : decode cX11_note 128 = .ok (.imul, 1) := by decide +kernel
theorem dX11_note_129 : decode cX11_note 129 = .ok (.iload 4, 2) := by decide +kernel
theorem dX11_note_131 : decode cX11_note 131 = .ok (.bipush 6, 2) := by decide +kernel
theorem dX11_note_133 : decode cX11_note 133 = .ok (.ishr, 1) := by decide +kernel
theorem dX11_note_134 : decode cX11_note 134 = .ok (.iadd, 1) := by decide +kernel
theorem dX11_note_135 : decode cX11_note 135 = .ok (.dup2, 1) := by decide +kernel
theorem dX11_note_136 : decode cX11_note 136 = .ok (.laload, 1) := by decide +kernel
theorem dX11_note_137 : decode cX11_note 137 = .ok (.lconst 1, 1) := by decide +kernel
theorem dX11_note_138 : decode cX11_note 138 = .ok (.iload 4, 2) := by decide +kernel
theorem dX11_note_140 : decode cX11_note 140 = .ok (.lshl, 1) := by decide +kernel
theorem dX11_note_141 : decode cX11_note 141 = .ok (.lor, 1) := by decide +kernel
theorem dX11_note_142 : decode cX11_note 142 = .ok (.lastore, 1) := by decide +kernel
theorem dX11_note_143 : decode cX11_note 143 = .ok (.iinc 4 1, 3) := by decide +kernel
theorem dX11_note_146 : decode cX11_note 146 = .ok (.goto (-86), 3) := by decide +kernel
theorem dX11_note_149 : decode cX11_note 149 = .ok (.return_, 1) := by decide +kernel
def fX11_note_60 : Nat → Nat → Int32 → Int32 → Int32 → Hz → Option (Unit × Hz)
  | 0, _, _, _, _, _ => none
  | n + 1, o, v2, v3, v4, h => (b1 (gI 11 9 o h) fun x1 => (if x1 ≤ v4 then some ((), h) else (if v4 = v2 then fX11_note_60 n o v2 v3 (v4 + 1) h else (b1 (gA 11 1 o h) fun a4 => (b1 (xI 12 a4 v4 h) fun x5 => (b1 (gA 11 1 o h) fun a6 => (b1 (xI 12 a6 v2 h) fun x7 => (if x5 = x7 then (b1 (tg 11 o h) fun _ => (b2 (fX11_holdsOut o v4 h) fun x10 s11 => (if x10 = 0 then fX11_note_60 n o v2 v3 (v4 + 1) s11 else (b1 (tg 11 o s11) fun _ => (b2 (fX11_noLeads o s11) fun _ s15 => (b1 (tg 11 o s15) fun _ => (b2 (fX11_lead o v4 s15) fun _ s18 => (b1 (gA 11 34 o s18) fun a19 => (b1 (xI 14 a19 v2 s18) fun x20 => (if x20 = 0 then fX11_note_60 n o v2 v3 (v4 + 1) s18 else (b1 (gA 11 45 o s18) fun a22 => (b1 (xL a22 ((5 * v3) + ((v4 >>> ((6 : Int32) &&& 31)) : Int32)) s18) fun x23 => (b1 (yL a22 ((5 * v3) + ((v4 >>> ((6 : Int32) &&& 31)) : Int32)) (x23 ||| (((1 : Int64) <<< (v4.toInt64 &&& 63)) : Int64)) s18) fun s24 => fX11_note_60 n o v2 v3 (v4 + 1) s24))))))))))))) else fX11_note_60 n o v2 v3 (v4 + 1) h))))))))
set_option maxHeartbeats 4000000 in
set_option maxRecDepth 100000 in
theorem wX11_note_60 {r0 : Unit} {h0 : Hz} (X : zX A D cy p s m args c cX11_note RX11 5) (hlk : meth.locks = false) (hr : meth.sig.returnType = none) : ∀ (n : Nat) (o : Nat) (v2 : Int32) (v3 : Int32) (v4 : Int32) (h : Hz) (H : Heap) (locs : List Loc) (ls : Array Slot) (hl : lv_has ls 5 [(0, .ref o), (2, .int v2), (3, .int v3), (4, .int v4)]) (hW : zW A cy D h H) (hS : va_S A s.heap H locs) (h : fX11_note_60 n o v2 v3 v4 h = some (r0, h0)), W p l e ({ frames := 3, cells := 0, slots := 0, locals := 68 } : Room) s m args below meth c H locs 0 0 (MQ below (va_Qv (fun u => u = h0) (zB A D cy) A) args s 0 0 A) (F0 m 60 ls []) := by
  obtain ⟨hx, hb, hts, hown, hK9, hml, hN9, hA9⟩ := id X
  intro n
  induction n with
  | zero =>
    intro o v2 v3 v4 h H locs ls hl hW hS h
    rw [fX11_note_60] at h
    cases h
  | succ n ih =>
    intro o v2 v3 v4 h H locs ls hl hW hS h
    rw [fX11_note_60] at h
    refine lv_iload hx hb dX11_note_60 (lv_at hl 3 rfl) ?_
    refine lv_aload_n hx hb dX11_note_62 rfl (lv_at hl 0 rfl) ?_
    replace h := b1_some h
    obtain ⟨x1, gx1, h⟩ := h
    refine z_getI X hW gx1 kX11 (by decide) (by decide) kf_X11_145 dX11_note_63 ?_
    refine lv_icmp_ge (tgt := 149) hx hb dX11_note_66 (by decide) (fun c2 => ?_) (fun c2 => ?_)
    · replace h := it_t h c2
      exact z_etv X hlk hr hW hS h (by decide) (by decide) dX11_note_149
    · replace h := it_f h c2
      refine lv_iload hx hb dX11_note_69 (lv_at hl 3 rfl) ?_
      refine lv_iload_n hx hb dX11_note_71 rfl (lv_at hl 1 rfl) ?_
      refine lv_icmp_eq (tgt := 143) hx hb dX11_note_72 (by decide) (fun c3 => ?_) (fun c3 => ?_)
      · replace h := it_t h c3
        refine lv_iinc (v := (v4 + 1)) (lv' := [(4, .int (v4 + 1)), (0, .ref o), (2, .int v2), (3, .int v3)]) hx hb dX11_note_143 hl (k := 3) rfl rfl (by decide) rfl (fun ls hl => ?_)
        refine lv_goto (tgt := 60) hx hb dX11_note_146 (by decide) ?_
        exact ih o v2 v3 (v4 + 1) _ _ _ _ (lv_sub hl [1, 2, 3, 0] rfl) hW hS h
      · replace h := it_f h c3
        refine lv_aload_n hx hb dX11_note_75 rfl (lv_at hl 0 rfl) ?_
        replace h := b1_some h
        obtain ⟨a4, ga4, h⟩ := h
        refine z_getA X hW ga4 kX11 (by decide) (by decide) kf_X11_13 dX11_note_76 ?_
        refine lv_iload hx hb dX11_note_79 (lv_at hl 3 rfl) ?_
        replace h := b1_some h
        obtain ⟨x5, gx5, h⟩ := h
        refine z_aldI X hW gx5 dX11_note_81 ?_
        refine lv_aload_n hx hb dX11_note_82 rfl (lv_at hl 0 rfl) ?_
        replace h := b1_some h
        obtain ⟨a6, ga6, h⟩ := h
        refine z_getA X hW ga6 kX11 (by decide) (by decide) kf_X11_13 dX11_note_83 ?_
        refine lv_iload_n hx hb dX11_note_86 rfl (lv_at hl 1 rfl) ?_
        replace h := b1_some h
        obtain ⟨x7, gx7, h⟩ := h
        refine z_aldI X hW gx7 dX11_note_87 ?_
        refine lv_icmp_ne (tgt := 143) hx hb dX11_note_88 (by decide) (fun c8 => ?_) (fun c8 => ?_)
        · replace h := it_f h c8
          refine lv_iinc (v := (v4 + 1)) (lv' := [(4, .int (v4 + 1)), (0, .ref o), (2, .int v2), (3, .int v3)]) hx hb dX11_note_143 hl (k := 3) rfl rfl (by decide) rfl (fun ls hl => ?_)
          refine lv_goto (tgt := 60) hx hb dX11_note_146 (by decide) ?_
          exact ih o v2 v3 (v4 + 1) _ _ _ _ (lv_sub hl [1, 2, 3, 0] rfl) hW hS h
        · replace h := it_t h c8
          refine lv_aload_n hx hb dX11_note_91 rfl (lv_at hl 0 rfl) ?_
          refine lv_iload hx hb dX11_note_92 (lv_at hl 3 rfl) ?_
          replace h := b1_some h
          obtain ⟨q9, gq9, h⟩ := h
          replace h := b2_some h
          obtain ⟨x10, s11, gs11, h⟩ := h
          refine z_callVi (rest := []) X hW hS (cX11_holdsOut_met gs11) kb_X11_holdsOut kv_X11_holdsOut kl_X11_237 (it_v gq9).1 kX11 rfl rfl ⟨Nat.le_of_ble_eq_true rfl, Nat.le_of_ble_eq_true rfl⟩ rfl rfl (by decide) hl.1 dX11_note_94 ⟨(by decide), (by decide)⟩ (fun H locs hW hS => ?_)
          refine lv_if_ne (tgt := 103) hx hb dX11_note_97 (by decide) (fun c12 => ?_) (fun c12 => ?_)
          · replace h := it_f h c12
            refine lv_aload_n hx hb dX11_note_103 rfl (lv_at hl 0 rfl) ?_
            replace h := b1_some h
            obtain ⟨q13, gq13, h⟩ := h
            replace h := b2_some h
            obtain ⟨_ur14, s15, gs15, h⟩ := h
            refine z_callVv (rest := []) X hW hS (cX11_noLeads_met gs15) kb_X11_noLeads kv_X11_noLeads kl_X11_153 (it_v gq13).1 kX11 rfl rfl ⟨Nat.le_of_ble_eq_true rfl, Nat.le_of_ble_eq_true rfl⟩ rfl rfl (by decide) hl.1 dX11_note_104 ⟨(by decide), (by decide)⟩ (fun H locs hW hS => ?_)
            refine lv_aload_n hx hb dX11_note_107 rfl (lv_at hl 0 rfl) ?_
            refine lv_iload hx hb dX11_note_108 (lv_at hl 3 rfl) ?_
            replace h := b1_some h
            obtain ⟨q16, gq16, h⟩ := h
            replace h := b2_some h
            obtain ⟨_ur17, s18, gs18, h⟩ := h
            refine z_callVv (rest := []) X hW hS (cX11_lead_met gs18) kb_X11_lead kv_X11_lead kl_X11_156 (it_v gq16).1 kX11 rfl rfl ⟨Nat.le_of_ble_eq_true rfl, Nat.le_of_ble_eq_true rfl⟩ rfl rfl (by decide) hl.1 dX11_note_110 ⟨(by decide), (by decide)⟩ (fun H locs hW hS => ?_)
            refine lv_aload_n hx hb dX11_note_113 rfl (lv_at hl 0 rfl) ?_
            replace h := b1_some h
            obtain ⟨a19, ga19, h⟩ := h
            refine z_getA X hW ga19 kX11 (by decide) (by decide) kf_X11_100 dX11_note_114 ?_
            refine lv_iload_n hx hb dX11_note_117 rfl (lv_at hl 1 rfl) ?_
            replace h := b1_some h
            obtain ⟨x20, gx20, h⟩ := h
            refine z_aldZ X hW gx20 dX11_note_118 ?_
            refine lv_if_eq (tgt := 143) hx hb dX11_note_119 (by decide) (fun c21 => ?_) (fun c21 => ?_)
            · replace h := it_t h c21
              refine lv_iinc (v := (v4 + 1)) (lv' := [(4, .int (v4 + 1)), (0, .ref o), (2, .int v2), (3, .int v3)]) hx hb dX11_note_143 hl (k := 3) rfl rfl (by decide) rfl (fun ls hl => ?_)
              refine lv_goto (tgt := 60) hx hb dX11_note_146 (by decide) ?_
              exact ih o v2 v3 (v4 + 1) _ _ _ _ (lv_sub hl [1, 2, 3, 0] rfl) hW hS h
            · replace h := it_f h c21
              refine lv_aload_n hx hb dX11_note_122 rfl (lv_at hl 0 rfl) ?_
              replace h := b1_some h
              obtain ⟨a22, ga22, h⟩ := h
              refine z_getA X hW ga22 kX11 (by decide) (by decide) kf_X11_133 dX11_note_123 ?_
              refine lv_iconst (v := 5) hx hb dX11_note_126 (by decide) ?_
              refine lv_iload_n hx hb dX11_note_127 rfl (lv_at hl 2 rfl) ?_
              refine lv_imul hx hb dX11_note_128 ?_
              refine lv_iload hx hb dX11_note_129 (lv_at hl 3 rfl) ?_
              refine lv_bipush (v := 6) hx hb dX11_note_131 (by decide) ?_
              refine lv_ishr hx hb dX11_note_133 ?_
              refine lv_iadd hx hb dX11_note_134 ?_
              refine lv_dup2_11 hx hb dX11_note_135 rfl rfl ?_
              replace h := b1_some h
              obtain ⟨x23, gx23, h⟩ := h
              refine z_aldL X hW gx23 dX11_note_136 ?_
              refine lv_lconst (v := 1) hx hb dX11_note_137 (by decide) ?_
              refine lv_iload hx hb dX11_note_138 (lv_at hl 3 rfl) ?_
              refine lv_lshl (v := (((1 : Int64) <<< (v4.toInt64 &&& 63)) : Int64)) hx hb dX11_note_140 rfl ?_
              refine lv_lor hx hb dX11_note_141 ?_
              replace h := b1_some h
              obtain ⟨s24, gs24, h⟩ := h
              refine z_astL X hW hS gs24 dX11_note_142 (fun H locs hW hS => ?_)
              refine lv_iinc (v := (v4 + 1)) (lv' := [(4, .int (v4 + 1)), (0, .ref o), (2, .int v2), (3, .int v3)]) hx hb dX11_note_143 hl (k := 3) rfl rfl (by decide) rfl (fun ls hl => ?_)
              refine lv_goto (tgt := 60) hx hb dX11_note_146 (by decide) ?_
              exact ih o v2 v3 (v4 + 1) _ _ _ _ (lv_sub hl [1, 2, 3, 0] rfl) hW hS h
          · replace h := it_t h c12
            refine lv_goto (tgt := 143) hx hb dX11_note_100 (by decide) ?_
            refine lv_iinc (v := (v4 + 1)) (lv' := [(4, .int (v4 + 1)), (0, .ref o), (2, .int v2), (3, .int v3)]) hx hb dX11_note_143 hl (k := 3) rfl rfl (by decide) rfl (fun ls hl => ?_)
            refine lv_goto (tgt := 60) hx hb dX11_note_146 (by decide) ?_
            exact ih o v2 v3 (v4 + 1) _ _ _ _ (lv_sub hl [1, 2, 3, 0] rfl) hW hS h

def fX11_note_45 (o : Nat) (v2 : Int32) (v3 : Int32) (w0 : Int32) (w1 : Int32) (w2 : Nat) (h : Hz) : Option (Unit × Hz) := (b1 (yI w2 w1 w0 h) fun s1 => (b1 (gA 11 43 o s1) fun a2 => (b1 (tg 11 o s1) fun _ => (b2 (fX11_isRooted o v2 s1) fun x4 s5 => (b1 (yZ a2 v3 x4 s5) fun s6 => fX11_note_60 100000 o v2 v3 0 s6)))))
set_option maxHeartbeats 4000000 in
set_option maxRecDepth 100000 in
theorem wX11_note_45 {r0 : Unit} {h0 : Hz} (X : zX A D cy p s m args c cX11_note RX11 5) (hlk : meth.locks = false) (hr : meth.sig.returnType = none) (o : Nat) (v2 : Int32) (v3 : Int32) (w0 : Int32) (w1 : Int32) (w2 : Nat) (h : Hz) (H : Heap) (locs : List Loc) (ls : Array Slot) (hl : lv_has ls 5 [(0, .ref o), (2, .int v2), (3, .int v3)]) (hW : zW A cy D h H) (hS : va_S A s.heap H locs) (h : fX11_note_45 o v2 v3 w0 w1 w2 h = some (r0, h0)) : W p l e ({ frames := 3, cells := 0, slots := 0, locals := 68 } : Room) s m args below meth c H locs 0 0 (MQ below (va_Qv (fun u => u = h0) (zB A D cy) A) args s 0 0 A) (F0 m 45 ls [.int w0, .int w1, .ref w2]) := by
  obtain ⟨hx, hb, hts, hown, hK9, hml, hN9, hA9⟩ := id X
  unfold fX11_note_45 at h
  replace h := b1_some h
  obtain ⟨s1, gs1, h⟩ := h
  refine z_astI X hW hS gs1 dX11_note_45 (fun H locs hW hS => ?_)
  refine lv_aload_n hx hb dX11_note_46 rfl (lv_at hl 0 rfl) ?_
  replace h := b1_some h
  obtain ⟨a2, ga2, h⟩ := h
  refine z_getA X hW ga2 kX11 (by decide) (by decide) kf_X11_127 dX11_note_47 ?_
  refine lv_iload_n hx hb dX11_note_50 rfl (lv_at hl 2 rfl) ?_
  refine lv_aload_n hx hb dX11_note_51 rfl (lv_at hl 0 rfl) ?_
  refine lv_iload_n hx hb dX11_note_52 rfl (lv_at hl 1 rfl) ?_
  replace h := b1_some h
  obtain ⟨q3, gq3, h⟩ := h
  replace h := b2_some h
  obtain ⟨x4, s5, gs5, h⟩ := h
  refine z_callVi (rest := [.int v3, .ref a2]) X hW hS (cX11_isRooted_met gs5) kb_X11_isRooted kv_X11_isRooted kl_X11_246 (it_v gq3).1 kX11 rfl rfl ⟨Nat.le_of_ble_eq_true rfl, Nat.le_of_ble_eq_true rfl⟩ rfl rfl (Nat.le_of_ble_eq_true rfl) hl.1 dX11_note_53 ⟨(by decide), (by decide)⟩ (fun H locs hW hS => ?_)
  replace h := b1_some h
  obtain ⟨s6, gs6, h⟩ := h
  refine z_astZ X hW hS gs6 dX11_note_56 (fun H locs hW hS => ?_)
  refine lv_iconst (v := 0) hx hb dX11_note_57 (by decide) ?_
  refine lv_istore (lv' := [(4, .int 0), (0, .ref o), (2, .int v2), (3, .int v3)]) hx hb dX11_note_58 hl (by decide) rfl (fun ls hl => ?_)
  exact wX11_note_60 X hlk hr _ o v2 v3 0 _ _ _ _ (lv_sub hl [1, 2, 3, 0] rfl) hW hS h

def fX11_note (o : Nat) (v1 : Int32) (v2 : Int32) (h : Hz) : Option (Unit × Hz) := (b1 (gA 11 42 o h) fun a1 => (b1 (yZ a1 ((300 * v1) + v2) 1 h) fun s2 => (b1 (gA 11 44 o s2) fun a3 => (b1 (gA 11 0 o s2) fun a4 => (b1 (xI 12 a4 v2 s2) fun x5 => (if x5 = 3 then (b1 (gA 11 6 o s2) fun a9 => (b1 (xI 12 a9 v2 s2) fun x10 => fX11_note_45 o v2 ((300 * v1) + v2) x10 ((300 * v1) + v2) a3 s2)) else (b1 (gA 11 4 o s2) fun a7 => (b1 (xI 12 a7 v2 s2) fun x8 => fX11_note_45 o v2 ((300 * v1) + v2) x8 ((300 * v1) + v2) a3 s2))))))))
set_option maxHeartbeats 4000000 in
set_option maxRecDepth 100000 in
theorem wX11_note_0 {r0 : Unit} {h0 : Hz} (X : zX A D cy p s m args c cX11_note RX11 5) (hlk : meth.locks = false) (hr : meth.sig.returnType = none) (o : Nat) (v1 : Int32) (v2 : Int32) (h : Hz) (H : Heap) (locs : List Loc) (ls : Array Slot) (hl : lv_has ls 5 [(0, .ref o), (1, .int v1), (2, .int v2)]) (hW : zW A cy D h H) (hS : va_S A s.heap H locs) (h : fX11_note o v1 v2 h = some (r0, h0)) : W p l e ({ frames := 3, cells := 0, slots := 0, locals := 68 } : Room) s m args below meth c H locs 0 0 (MQ below (va_Qv (fun u => u = h0) (zB A D cy) A) args s 0 0 A) (F0 m 0 ls []) := by
  obtain ⟨hx, hb, hts, hown, hK9, hml, hN9, hA9⟩ := id X
  unfold fX11_note at h
  refine lv_sipush (v := 300) hx hb dX11_note_0 (by decide) ?_
  refine lv_iload_n hx hb dX11_note_3 rfl (lv_at hl 1 rfl) ?_
  refine lv_imul hx hb dX11_note_4 ?_
  refine lv_iload_n hx hb dX11_note_5 rfl (lv_at hl 2 rfl) ?_
  refine lv_iadd hx hb dX11_note_6 ?_
  refine lv_istore_n (lv' := [(3, .int ((300 * v1) + v2)), (0, .ref o), (1, .int v1), (2, .int v2)]) hx hb dX11_note_7 rfl hl (by decide) rfl (fun ls hl => ?_)
  refine lv_aload_n hx hb dX11_note_8 rfl (lv_at hl 1 rfl) ?_
  replace h := b1_some h
  obtain ⟨a1, ga1, h⟩ := h
  refine z_getA X hW ga1 kX11 (by decide) (by decide) kf_X11_124 dX11_note_9 ?_
  refine lv_iload_n hx hb dX11_note_12 rfl (lv_at hl 0 rfl) ?_
  refine lv_iconst (v := 1) hx hb dX11_note_13 (by decide) ?_
  replace h := b1_some h
  obtain ⟨s2, gs2, h⟩ := h
  refine z_astZ X hW hS gs2 dX11_note_14 (fun H locs hW hS => ?_)
  refine lv_aload_n hx hb dX11_note_15 rfl (lv_at hl 1 rfl) ?_
  replace h := b1_some h
  obtain ⟨a3, ga3, h⟩ := h
  refine z_getA X hW ga3 kX11 (by decide) (by decide) kf_X11_130 dX11_note_16 ?_
  refine lv_iload_n hx hb dX11_note_19 rfl (lv_at hl 0 rfl) ?_
  refine lv_aload_n hx hb dX11_note_20 rfl (lv_at hl 1 rfl) ?_
  replace h := b1_some h
  obtain ⟨a4, ga4, h⟩ := h
  refine z_getA X hW ga4 kX11 (by decide) (by decide) kf_X11_9 dX11_note_21 ?_
  refine lv_iload_n hx hb dX11_note_24 rfl (lv_at hl 3 rfl) ?_
  replace h := b1_some h
  obtain ⟨x5, gx5, h⟩ := h
  refine z_aldI X hW gx5 dX11_note_25 ?_
  refine lv_iconst (v := 3) hx hb dX11_note_26 (by decide) ?_
  refine lv_icmp_ne (tgt := 39) hx hb dX11_note_27 (by decide) (fun c6 => ?_) (fun c6 => ?_)
  · replace h := it_f h c6
    refine lv_aload_n hx hb dX11_note_39 rfl (lv_at hl 1 rfl) ?_
    replace h := b1_some h
    obtain ⟨a7, ga7, h⟩ := h
    refine z_getA X hW ga7 kX11 (by decide) (by decide) kf_X11_22 dX11_note_40 ?_
    refine lv_iload_n hx hb dX11_note_43 rfl (lv_at hl 3 rfl) ?_
    replace h := b1_some h
    obtain ⟨x8, gx8, h⟩ := h
    refine z_aldI X hW gx8 dX11_note_44 ?_
    exact wX11_note_45 X hlk hr o v2 ((300 * v1) + v2) x8 ((300 * v1) + v2) a3 _ _ _ _ (lv_sub hl [1, 3, 0] rfl) hW hS h
  · replace h := it_t h c6
    refine lv_aload_n hx hb dX11_note_30 rfl (lv_at hl 1 rfl) ?_
    replace h := b1_some h
    obtain ⟨a9, ga9, h⟩ := h
    refine z_getA X hW ga9 kX11 (by decide) (by decide) kf_X11_28 dX11_note_31 ?_
    refine lv_iload_n hx hb dX11_note_34 rfl (lv_at hl 3 rfl) ?_
    replace h := b1_some h
    obtain ⟨x10, gx10, h⟩ := h
    refine z_aldI X hW gx10 dX11_note_35 ?_
    refine lv_goto (tgt := 45) hx hb dX11_note_36 (by decide) ?_
    exact wX11_note_45 X hlk hr o v2 ((300 * v1) + v2) x10 ((300 * v1) + v2) a3 _ _ _ _ (lv_sub hl [1, 3, 0] rfl) hW hS h

set_option maxHeartbeats 4000000 in
set_option maxRecDepth 100000 in
theorem cX11_note_met {l : Launch} {A : Nat → Prop} {D : va_G} {cy : Nat → ClassId} {r0 : Unit} {h0 : Hz} {o : Nat} {v1 : Int32} {v2 : Int32} {h : Hz} (g : fX11_note o v1 v2 h = some (r0, h0)) : Met l yX11_note (Cond.code yX11_note cX11_note 5 none :: wT) ({ frames := 3, cells := 0, slots := 0, locals := 68 } : Room) (va_Pc [.ref o, .int v1, .int v2] (zS A D cy h)) (va_Qv (fun u => u = h0) (zB A D cy) A) 0 0 A := by
  refine Met.ofW (cc := cX11_note) (maxL := 5) (ret := none) (by decide) rfl ?_
  intro p e s m args below meth c s₁ B hml hv
  obtain ⟨rfl, hW, hK, hN, hA⟩ := hv
  have X : zX A D cy p s m _ c cX11_note RX11 5 := ⟨B.exec, B.bytes, fun w hw => atoms_spec (ws := Cond.code yX11_note cX11_note 5 none :: wT) B.pre w (List.mem_cons_of_mem _ hw), findClass_of_methodNamed B.named, hK, hml, hN, hA⟩
  have hl := lv_entry [.ref o, .int v1, .int v2] (n := 5) (Nat.le_of_ble_eq_true rfl)
  rw [lg_entry_eq]
  generalize (lg_sl [.ref o, .int v1, .int v2] ++ List.replicate (5 - (lg_sl [.ref o, .int v1, .int v2]).length) Slot.unset).toArray = ls at hl ⊢
  have hl : lv_has ls 5 [(0, .ref o), (1, .int v1), (2, .int v2)] := hl
  exact wX11_note_0 X B.notSynchronized B.returns o v1 v2 _ _ _ _ (lv_sub hl [0, 1, 2] rfl) hW va_S.rf g

theorem dX11_stepped_0 : decode cX11_stepped 0 = .ok (.aload_n 0, 1) := by decide +kernel
theorem dX11_stepped_1 : decode cX11_stepped 1 = .ok (.getfield 73, 3) := by decide +kernel
theorem dX11_stepped_4 : decode cX11_stepped 4 = .ok (.iload_n 1, 1) := by decide +kernel
theorem dX11_stepped_5 : decode cX11_stepped 5 = .ok (.iaload, 1) := by decide +kernel
theorem dX11_stepped_6 : decode cX11_stepped 6 = .ok (.istore_n 2, 1) := by decide +kernel
theorem dX11_stepped_7 : decode cX11_stepped 7 = .ok (.aload_n 0, 1) := by decide +kernel
theorem dX11_stepped_8 : decode cX11_stepped 8 = .ok (.getfield 61, 3) := by decide +kernel
theorem dX11_stepped_11 : decode cX11_stepped 11 = .ok (.iload_n 1, 1) := by decide +kernel
theorem dX11_stepped_12 : decode cX11_stepped 12 = .ok (.iaload, 1) := by decide +kernel
theorem dX11_stepped_13 : decode cX11_stepped 13 = .ok (.istore_n 3, 1) := by decide +kernel
theorem dX11_stepped_14 : decode cX11_stepped 14 = .ok (.aload_n 0, 1) := by decide +kernel
theorem dX11_stepped_15 : decode cX11_stepped 15 = .ok (.getfield 109, 3) := by decide +kernel
theorem dX11_stepped_18 : decode cX11_stepped 18 = .ok (.iload_n 2, 1) := by decide +kernel
theorem dX11_stepped_19 : decode cX11_stepped 19 = .ok (.iaload, 1) := by decide +kernel
theorem dX11_stepped_20 : decode cX11_stepped 20 = .ok (.ifCond .eq 4, 3) := by decide +kernel
theorem dX11_stepped_23 : decode cX11_stepped 23 = .ok (.return_, 1) := by decide +kernel
theorem dX11_stepped_24 : decode cX11_stepped 24 = .ok (.aload_n 0, 1) := by decide +kernel
theorem dX11_stepped_25 : decode cX11_stepped 25 = .ok (.getfield 55, 3) := by decide +kernel
theorem dX11_stepped_28 : decode cX11_stepped 28 = .ok (.iload_n 1, 1) := by decide +kernel
theorem dX11_stepped_29 : decode cX11_stepped 29 = .ok (.iaload, 1) := by decide +kernel
theorem dX11_stepped_30 : decode cX11_stepped 30 = .ok (.istore 4, 2) := by decide +kernel
theorem dX11_stepped_32 : decode cX11_stepped 32 = .ok (.aload_n 0, 1) := by decide +kernel
theorem dX11_stepped_33 : decode cX11_stepped 33 = .ok (.iload_n 2, 1) := by decide +kernel
theorem dX11_stepped_34 : decode cX11_stepped 34 = .ok (.iload_n 3, 1) := by decide +kernel
theorem dX11_stepped_35 : decode cX11_stepped 35 = .ok (.invokevirtual 212, 3) := by decide +kernel
theorem dX11_stepped_38 : decode cX11_stepped 38 = .ok (.istore 5, 2) := by decide +kernel
theorem dX11_stepped_40 : decode cX11_stepped 40 = .ok (.aload_n 0, 1) := by decide +kernel
theorem dX11_stepped_41 : decode cX11_stepped 41 = .ok (.getfield 31, 3) := by decide +kernel
theorem dX11_stepped_44 : decode cX11_stepped 44 = .ok (.iload_n 3, 1) := by decide +kernel
theorem dX11_stepped_45 : decode cX11_stepped 45 = .ok (.baload, 1) := by decide +kernel
theorem dX11_stepped_46 : decode cX11_stepped 46 = .ok (.ifCond .ne 134, 3) := by decide +kernel
theorem dX11_stepped_49 : decode cX11_stepped 49 = .ok (.aload_n 0, 1) := by decide +kernel
theorem dX11_stepped_50 : decode cX11_stepped 50 = .ok (.getfield 124, 3) := by decide +kernel
theorem dX11_stepped_53 : decode cX11_stepped 53 = .ok (.sipush 300, 3) := by decide +kernel
theorem dX11_stepped_56 : decode cX11_stepped 56 = .ok (.iload_n 2, 1) := by decide +kernel
theorem dX11_stepped_57 : decode cX11_stepped 57 = .ok (.imul, 1) := by decide +kernel
theorem dX11_stepped_58 : decode cX11_stepped 58 = .ok (.iload_n 3, 1) := by decide +kernel
theorem dX11_stepped_59 : decode cX11_stepped 59 = .ok (.iadd, 1) := by decide +kernel
theorem dX11_stepped_60 : decode cX11_stepped 60 = .ok (.baload, 1) := by decide +kernel
theorem dX11_stepped_61 : decode cX11_stepped 61 = .ok (.ifCond .ne 119, 3) := by decide +kernel
theorem dX11_stepped_64 : decode cX11_stepped 64 = .ok (.aload_n 0, 1) := by decide +kernel
theorem dX11_stepped_65 : decode cX11_stepped 65 = .ok (.getfield 121, 3) := by decide +kernel
theorem dX11_stepped_68 : decode cX11_stepped 68 = .ok (.bipush 8, 2) := by decide +kernel
theorem dX11_stepped_70 : decode cX11_stepped 70 = .ok (.iload_n 2, 1) := by decide +kernel
theorem dX11_stepped_71 : decode cX11_stepped 71 = .ok (.imul, 1) := by decide +kernel
theorem dX11_stepped_72 : decode cX11_stepped 72 = .ok (.iload 4, 2) := by decide +kernel
theorem dX11_stepped_74 : decode cX11_stepped 74 = .ok (.iadd, 1) := by decide +kernel
theorem dX11_stepped_75 : decode cX11_stepped 75 = .ok (.iaload, 1) := by decide +kernel
theorem dX11_stepped_76 : decode cX11_stepped 76 = .ok (.iconst (-1), 1) := by decide +kernel
theorem dX11_stepped_77 : decode cX11_stepped 77 = .ok (.if_icmp .ne 22, 3) := by decide +kernel
theorem dX11_stepped_80 : decode cX11_stepped 80 = .ok (.aload_n 0, 1) := by decide +kernel
theorem dX11_stepped_81 : decode cX11_stepped 81 = .ok (.getfield 121, 3) := by decide +kernel
theorem dX11_stepped_84 : decode cX11_stepped 84 = .ok (.bipush 8, 2) := by decide +kernel
theorem dX11_stepped_86 : decode cX11_stepped 86 = .ok (.iload_n 2, 1) := by decide +kernel
theorem dX11_stepped_87 : decode cX11_stepped 87 = .ok (.imul, 1) := by decide +kernel
theorem dX11_stepped_88 : decode cX11_stepped 88 = .ok (.iload 4, 2) := by decide +kernel
theorem dX11_stepped_90 : decode cX11_stepped 90 = .ok (.iadd, 1) := by decide +kernel
theorem dX11_stepped_91 : decode cX11_stepped 91 = .ok (.aload_n 0, 1) := by decide +kernel
theorem dX11_stepped_92 : decode cX11_stepped 92 = .ok (.getfield 91, 3) := by decide +kernel
theorem dX11_stepped_95 : decode cX11_stepped 95 = .ok (.iload 4, 2) := by decide +kernel
theorem dX11_stepped_97 : decode cX11_stepped 97 = .ok (.iaload, 1) := by decide +kernel
theorem dX11_stepped_98 : decode cX11_stepped 98 = .ok (.iastore, 1) := by decide +kernel
theorem dX11_stepped_99 : decode cX11_stepped 99 = .ok (.aload_n 0, 1) := by decide +kernel
theorem dX11_stepped_100 : decode cX11_stepped 100 = .ok (.iload_n 2, 1) := by decide +kernel
theorem dX11_stepped_101 : decode cX11_stepped 101 = .ok (.iload_n 3, 1) := by decide +kernel
theorem dX11_stepped_102 : decode cX11_stepped 102 = .ok (.invokevirtual 249, 3) := by decide +kernel
theorem dX11_stepped_105 : decode cX11_stepped 105 = .ok (.iconst 0, 1) := by decide +kernel
theorem dX11_stepped_106 : decode cX11_stepped 106 = .ok (.istore 6, 2) := by decide +kernel
theorem dX11_stepped_108 : decode cX11_stepped 108 = .ok (.iload 6, 2) := by decide +kernel
theorem dX11_stepped_110 : decode cX11_stepped 110 = .ok (.aload_n 0, 1) := by decide +kernel
theorem dX11_stepped_111 : decode cX11_stepped 111 = .ok (.getfield 145, 3) := by decide +kernel
theorem dX11_stepped_114 : decode cX11_stepped 114 = .ok (.if_icmp .ge 66, 3) := by decide +kernel
theorem dX11_stepped_117 : decode cX11_stepped 117 = .ok (.aload_n 0, 1) := by decide +kernel
theorem dX11_stepped_118 : decode cX11_stepped 118 = .ok (.getfield 139, 3) := by decide +kernel
theorem dX11_stepped_121 : decode cX11_stepped 121 = .ok (.iload 6, 2) := by decide +kernel
theorem dX11_stepped_123 : decode cX11_stepped 123 = .ok (.baload, 1) := by decide +kernel
theorem dX11_stepped_124 : decode cX11_stepped 124 = .ok (.ifCond .ne 6, 3) := by decide +kernel
theorem dX11_stepped_127 : decode cX11_stepped 127 = .ok (.goto 47, 3) := by decide +kernel
theorem dX11_stepped_130 : decode cX11_stepped 130 = .ok (.aload_n 0, 1) := by decide +kernel
theorem dX11_stepped_131 : decode cX11_stepped 131 = .ok (.iload_n 2, 1) := by decide +kernel
theorem dX11_stepped_132 : decode cX11_stepped 132 = .ok (.iload 6, 2) := by decide +kernel
theorem dX11_stepped_134 : decode cX11_stepped 134 = .ok (.invokevirtual 249, 3) := by decide +kernel
theorem dX11_stepped_137 : decode cX11_stepped 137 = .ok (.aload_n 0, 1) := by decide +kernel
theorem dX11_stepped_138 : decode cX11_stepped 138 = .ok (.iconst 4, 1) := by decide +kernel
theorem dX11_stepped_139 : decode cX11_stepped 139 = .ok (.aload_n 0, 1) := by decide +kernel
theorem dX11_stepped_140 : decode cX11_stepped 140 = .ok (.getfield 13, 3) := by decide +kernel
theorem dX11_stepped_143 : decode cX11_stepped 143 = .ok (.aload_n 0, 1) := by decide +kernel
theorem dX11_stepped_144 : decode cX11_stepped 144 = .ok (.getfield 25, 3) := by decide +kernel
theorem dX11_stepped_147 : decode cX11_stepped 147 = .ok (.iload 6, 2) := by decide +kernel
theorem dX11_stepped_149 : decode cX11_stepped 149 = .ok (.iaload, 1) := by decide +kernel
theorem dX11_stepped_150 : decode cX11_stepped 150 = .ok (.iaload, 1) := by decide +kernel
theorem dX11_stepped_151 : decode cX11_stepped 151 = .ok (.iload 4, 2) := by decide +kernel
theorem dX11_stepped_153 : decode cX11_stepped 153 = .ok (.aload_n 0, 1) := by decide +kernel
theorem dX11_stepped_154 : decode cX11_stepped 154 = .ok (.getfield 25, 3) := by decide +kernel
theorem dX11_stepped_157 : decode cX11_stepped 157 = .ok (.iload 6, 2) := by decide +kernel
theorem dX11_stepped_159 : decode cX11_stepped 159 = .ok (.iaload, 1) := by decide +kernel
theorem dX11_stepped_160 : decode cX11_stepped 160 = .ok (.iconst 0, 1) := by decide +kernel
theorem dX11_stepped_161 : decode cX11_stepped 161 = .ok (.invokevirtual 202, 3) := by decide +kernel
theorem dX11_stepped_164 : decode cX11_stepped 164 = .ok (.istore 7, 2) := by decide +kernel
theorem dX11_stepped_166 : decode cX11_stepped 166 = .ok (.aload_n 0, 1) := by decide +kernel
theorem dX11_stepped_167 : decode cX11_stepped 167 = .ok (.getfield 73, 3) := by decide +kernel
theorem dX11_stepped_170 : decode cX11_stepped 170 = .ok (.iload 7, 2) := by decide +kernel
theorem dX11_stepped_172 : decode cX11_stepped 172 = .ok (.iload_n 2, 1) := by decide +kernel
theorem dX11_stepped_173 : decode cX11_stepped 173 = .ok (.iastore, 1) := by decide +kernel
theorem dX11_stepped_174 : decode cX11_stepped 174 = .ok (.iinc 6 1, 3) := by decide +kernel
theorem dX11_stepped_177 : decode cX11_stepped 177 = .ok (.goto (-69), 3) := by decide +kernel
theorem dX11_stepped_180 : decode cX11_stepped 180 = .ok (.aload_n 0, 1) := by decide +kernel
theorem dX11_stepped_181 : decode cX11_stepped 181 = .ok (.iconst 5, 1) := by decide +kernel
theorem dX11_stepped_182 : decode cX11_stepped 182 = .ok (.aload_n 0, 1) := by decide +kernel
theorem dX11_stepped_183 : decode cX11_stepped 183 = .ok (.getfield 13, 3) := by decide +kernel
theorem dX11_stepped_186 : decode cX11_stepped 186 = .ok (.aload_n 0, 1) := by decide +kernel
theorem dX11_stepped_187 : decode cX11_stepped 187 = .ok (.getfield 112, 3) := by decide +kernel
theorem dX11_stepped_190 : decode cX11_stepped 190 = .ok (.iload_n 2, 1) := by decide +kernel
theorem dX11_stepped_191 : decode cX11_stepped 191 = .ok (.iaload, 1) := by decide +kernel
theorem dX11_stepped_192 : decode cX11_stepped 192 = .ok (.iaload, 1) := by decide +kernel
theorem dX11_stepped_193 : decode cX11_stepped 193 = .ok (.iload 4, 2) := by decide +kernel
theorem dX11_stepped_195 : decode cX11_stepped 195 = .ok (.iload_n 3, 1) := by decide +kernel
theorem dX11_stepped_196 : decode cX11_stepped 196 = .ok (.iconst 0, 1) := by decide +kernel
theorem dX11_stepped_197 : decode cX11_stepped 197 = .ok (.invokevirtual 202, 3) := by decide +kernel
theorem dX11_stepped_200 : decode cX11_stepped 200 = .ok (.istore 6, 2) := by decide +kernel
theorem dX11_stepped_202 : decode cX11_stepped 202 = .ok (.aload_n 0, 1) := by decide +kernel
theorem dX11_stepped_203 : decode cX11_stepped 203 = .ok (.getfield 73, 3) := by decide +kernel
theorem dX11_stepped_206 : decode cX11_stepped 206 = .ok (.iload 6, 2) := by decide +kernel
theorem dX11_stepped_208 : decode cX11_stepped 208 = .ok (.iload_n 2, 1) := by decide +kernel
theorem dX11_stepped_209 : decode cX11_stepped 209 = .ok (.iastore, 1) := by decide +kernel
theorem dX11_stepped_210 : decode cX11_stepped 210 = .ok (.aload_n 0, 1) := by decide +kernel
theorem dX11_stepped_211 : decode cX11_stepped 211 = .ok (.getfield 76, 3) := by decide +kernel
theorem dX11_stepped_214 : decode cX11_stepped 214 = .ok (.iload 6, 2) := by decide +kernel
theorem dX11_stepped_216 : decode cX11_stepped 216 = .ok (.iload 5, 2) := by decide +kernel
theorem dX11_stepped_218 : decode cX11_stepped 218 = .ok (.iastore, 1) := by decide +kernel
theorem dX11_stepped_219 : decode cX11_stepped 219 = .ok (.return_, 1) := by decide +kernel
def fX11_stepped_180 (o : Nat) (v2 : Int32) (v3 : Int32) (v4 : Int32) (v5 : Int32) (h : Hz) : Option (Unit × Hz) := (b1 (gA 11 1 o h) fun a1 => (b1 (gA 11 38 o h) fun a2 => (b1 (xI 12 a2 v2 h) fun x3 => (b1 (xI 12 a1 x3 h) fun x4 => (b1 (tg 11 o h) fun _ => (b2 (fX11_letter o 5 x4 v4 v3 0 h) fun x6 s7 => (b1 (gA 11 21 o s7) fun a8 => (b1 (yI a8 x6 v2 s7) fun s9 => (b1 (gA 11 22 o s9) fun a10 => (b1 (yI a10 x6 v5 s9) fun s11 => some ((), s11)))))))))))
set_option maxHeartbeats 4000000 in
set_option maxRecDepth 100000 in
theorem wX11_stepped_180 {r0 : Unit} {h0 : Hz} (X : zX A D cy p s m args c cX11_stepped RX11 8) (hlk : meth.locks = false) (hr : meth.sig.returnType = none) (o : Nat) (v2 : Int32) (v3 : Int32) (v4 : Int32) (v5 : Int32) (h : Hz) (H : Heap) (locs : List Loc) (ls : Array Slot) (hl : lv_has ls 8 [(0, .ref o), (2, .int v2), (3, .int v3), (4, .int v4), (5, .int v5)]) (hW : zW A cy D h H) (hS : va_S A s.heap H locs) (h : fX11_stepped_180 o v2 v3 v4 v5 h = some (r0, h0)) : W p l e ({ frames := 4, cells := 0, slots := 0, locals := 92 } : Room) s m args below meth c H locs 0 0 (MQ below (va_Qv (fun u => u = h0) (zB A D cy) A) args s 0 0 A) (F0 m 180 ls []) := by
  obtain ⟨hx, hb, hts, hown, hK9, hml, hN9, hA9⟩ := id X
  unfold fX11_stepped_180 at h
  refine lv_aload_n hx hb dX11_stepped_180 rfl (lv_at hl 0 rfl) ?_
  refine lv_iconst (v := 5) hx hb dX11_stepped_181 (by decide) ?_
  refine lv_aload_n hx hb dX11_stepped_182 rfl (lv_at hl 0 rfl) ?_
  replace h := b1_some h
  obtain ⟨a1, ga1, h⟩ := h
  refine z_getA X hW ga1 kX11 (by decide) (by decide) kf_X11_13 dX11_stepped_183 ?_
  refine lv_aload_n hx hb dX11_stepped_186 rfl (lv_at hl 0 rfl) ?_
  replace h := b1_some h
  obtain ⟨a2, ga2, h⟩ := h
  refine z_getA X hW ga2 kX11 (by decide) (by decide) kf_X11_112 dX11_stepped_187 ?_
  refine lv_iload_n hx hb dX11_stepped_190 rfl (lv_at hl 1 rfl) ?_
  replace h := b1_some h
  obtain ⟨x3, gx3, h⟩ := h
  refine z_aldI X hW gx3 dX11_stepped_191 ?_
  replace h := b1_some h
  obtain ⟨x4, gx4, h⟩ := h
  refine z_aldI X hW gx4 dX11_stepped_192 ?_
  refine lv_iload hx hb dX11_stepped_193 (lv_at hl 3 rfl) ?_
  refine lv_iload_n hx hb dX11_stepped_195 rfl (lv_at hl 2 rfl) ?_
  refine lv_iconst (v := 0) hx hb dX11_stepped_196 (by decide) ?_
  replace h := b1_some h
  obtain ⟨q5, gq5, h⟩ := h
  replace h := b2_some h
  obtain ⟨x6, s7, gs7, h⟩ := h
  refine z_callVi (rest := []) X hW hS (cX11_letter_met gs7) kb_X11_letter kv_X11_letter kl_X11_202 (it_v gq5).1 kX11 rfl rfl ⟨Nat.le_of_ble_eq_true rfl, Nat.le_of_ble_eq_true rfl⟩ rfl rfl (by decide) hl.1 dX11_stepped_197 ⟨(by decide), (by decide)⟩ (fun H locs hW hS => ?_)
  refine lv_istore (lv' := [(6, .int x6), (0, .ref o), (2, .int v2), (3, .int v3), (4, .int v4), (5, .int v5)]) hx hb dX11_stepped_200 hl (by decide) rfl (fun ls hl => ?_)
  refine lv_aload_n hx hb dX11_stepped_202 rfl (lv_at hl 1 rfl) ?_
  replace h := b1_some h
  obtain ⟨a8, ga8, h⟩ := h
  refine z_getA X hW ga8 kX11 (by decide) (by decide) kf_X11_73 dX11_stepped_203 ?_
  refine lv_iload hx hb dX11_stepped_206 (lv_at hl 0 rfl) ?_
  refine lv_iload_n hx hb dX11_stepped_208 rfl (lv_at hl 2 rfl) ?_
  replace h := b1_some h
  obtain ⟨s9, gs9, h⟩ := h
  refine z_astI X hW hS gs9 dX11_stepped_209 (fun H locs hW hS => ?_)
  refine lv_aload_n hx hb dX11_stepped_210 rfl (lv_at hl 1 rfl) ?_
  replace h := b1_some h
  obtain ⟨a10, ga10, h⟩ := h
  refine z_getA X hW ga10 kX11 (by decide) (by decide) kf_X11_76 dX11_stepped_211 ?_
  refine lv_iload hx hb dX11_stepped_214 (lv_at hl 0 rfl) ?_
  refine lv_iload hx hb dX11_stepped_216 (lv_at hl 5 rfl) ?_
  replace h := b1_some h
  obtain ⟨s11, gs11, h⟩ := h
  refine z_astI X hW hS gs11 dX11_stepped_218 (fun H locs hW hS => ?_)
  exact z_etv X hlk hr hW hS h (by decide) (by decide) dX11_stepped_219

def fX11_stepped_108 : Nat → Nat → Int32 → Int32 → Int32 → Int32 → Int32 → Hz → Option (Unit × Hz)
  | 0, _, _, _, _, _, _, _ => none
  | n + 1, o, v2, v3, v4, v5, v6, h => (b1 (gI 11 9 o h) fun x1 => (if x1 ≤ v6 then fX11_stepped_180 o v2 v3 v4 v5 h else (b1 (gA 11 48 o h) fun a3 => (b1 (xI 14 a3 v6 h) fun x4 => (if x4 = 0 then fX11_stepped_108 n o v2 v3 v4 v5 (v6 + 1) h else (b1 (tg 11 o h) fun _ => (b2 (fX11_note o v2 v6 h) fun _ s8 => (b1 (gA 11 1 o s8) fun a9 => (b1 (gA 11 5 o s8) fun a10 => (b1 (xI 12 a10 v6 s8) fun x11 => (b1 (xI 12 a9 x11 s8) fun x12 => (b1 (gA 11 5 o s8) fun a13 => (b1 (xI 12 a13 v6 s8) fun x14 => (b1 (tg 11 o s8) fun _ => (b2 (fX11_letter o 4 x12 v4 x14 0 s8) fun x16 s17 => (b1 (gA 11 21 o s17) fun a18 => (b1 (yI a18 x16 v2 s17) fun s19 => fX11_stepped_108 n o v2 v3 v4 v5 (v6 + 1) s19)))))))))))))))))
set_option maxHeartbeats 4000000 in
set_option maxRecDepth 100000 in
theorem wX11_stepped_108 {r0 : Unit} {h0 : Hz} (X : zX A D cy p s m args c cX11_stepped RX11 8) (hlk : meth.locks = false) (hr : meth.sig.returnType = none) : ∀ (n : Nat) (o : Nat) (v2 : Int32) (v3 : Int32) (v4 : Int32) (v5 : Int32) (v6 : Int32) (h : Hz) (H : Heap) (locs : List Loc) (ls : Array Slot) (hl : lv_has ls 8 [(0, .ref o), (2, .int v2), (3, .int v3), (4, .int v4), (5, .int v5), (6, .int v6)]) (hW : zW A cy D h H) (hS : va_S A s.heap H locs) (h : fX11_stepped_108 n o v2 v3 v4 v5 v6 h = some (r0, h0)), W p l e ({ frames := 4, cells := 0, slots := 0, locals := 92 } : Room) s m args below meth c H locs 0 0 (MQ below (va_Qv (fun u => u = h0) (zB A D cy) A) args s 0 0 A) (F0 m 108 ls []) := by
  obtain ⟨hx, hb, hts, hown, hK9, hml, hN9, hA9⟩ := id X
  intro n
  induction n with
  | zero =>
    intro o v2 v3 v4 v5 v6 h H locs ls hl hW hS h
    rw [fX11_stepped_108] at h
    cases h
  | succ n ih =>
    intro o v2 v3 v4 v5 v6 h H locs ls hl hW hS h
    rw [fX11_stepped_108] at h
    refine lv_iload hx hb dX11_stepped_108 (lv_at hl 5 rfl) ?_
    refine lv_aload_n hx hb dX11_stepped_110 rfl (lv_at hl 0 rfl) ?_
    replace h := b1_some h
    obtain ⟨x1, gx1, h⟩ := h
    refine z_getI X hW gx1 kX11 (by decide) (by decide) kf_X11_145 dX11_stepped_111 ?_
    refine lv_icmp_ge (tgt := 180) hx hb dX11_stepped_114 (by decide) (fun c2 => ?_) (fun c2 => ?_)
    · replace h := it_t h c2
      exact wX11_stepped_180 X hlk hr o v2 v3 v4 v5 _ _ _ _ (lv_sub hl [0, 1, 2, 3, 4] rfl) hW hS h
    · replace h := it_f h c2
      refine lv_aload_n hx hb dX11_stepped_117 rfl (lv_at hl 0 rfl) ?_
      replace h := b1_some h
      obtain ⟨a3, ga3, h⟩ := h
      refine z_getA X hW ga3 kX11 (by decide) (by decide) kf_X11_139 dX11_stepped_118 ?_
      refine lv_iload hx hb dX11_stepped_121 (lv_at hl 5 rfl) ?_
      replace h := b1_some h
      obtain ⟨x4, gx4, h⟩ := h
      refine z_aldZ X hW gx4 dX11_stepped_123 ?_
      refine lv_if_ne (tgt := 130) hx hb dX11_stepped_124 (by decide) (fun c5 => ?_) (fun c5 => ?_)
      · replace h := it_f h c5
        refine lv_aload_n hx hb dX11_stepped_130 rfl (lv_at hl 0 rfl) ?_
        refine lv_iload_n hx hb dX11_stepped_131 rfl (lv_at hl 1 rfl) ?_
        refine lv_iload hx hb dX11_stepped_132 (lv_at hl 5 rfl) ?_
        replace h := b1_some h
        obtain ⟨q6, gq6, h⟩ := h
        replace h := b2_some h
        obtain ⟨_ur7, s8, gs8, h⟩ := h
        refine z_callVv (rest := []) X hW hS (cX11_note_met gs8) kb_X11_note kv_X11_note kl_X11_249 (it_v gq6).1 kX11 rfl rfl ⟨Nat.le_of_ble_eq_true rfl, Nat.le_of_ble_eq_true rfl⟩ rfl rfl (by decide) hl.1 dX11_stepped_134 ⟨(by decide), (by decide)⟩ (fun H locs hW hS => ?_)
        refine lv_aload_n hx hb dX11_stepped_137 rfl (lv_at hl 0 rfl) ?_
        refine lv_iconst (v := 4) hx hb dX11_stepped_138 (by decide) ?_
        refine lv_aload_n hx hb dX11_stepped_139 rfl (lv_at hl 0 rfl) ?_
        replace h := b1_some h
        obtain ⟨a9, ga9, h⟩ := h
        refine z_getA X hW ga9 kX11 (by decide) (by decide) kf_X11_13 dX11_stepped_140 ?_
        refine lv_aload_n hx hb dX11_stepped_143 rfl (lv_at hl 0 rfl) ?_
        replace h := b1_some h
        obtain ⟨a10, ga10, h⟩ := h
        refine z_getA X hW ga10 kX11 (by decide) (by decide) kf_X11_25 dX11_stepped_144 ?_
        refine lv_iload hx hb dX11_stepped_147 (lv_at hl 5 rfl) ?_
        replace h := b1_some h
        obtain ⟨x11, gx11, h⟩ := h
        refine z_aldI X hW gx11 dX11_stepped_149 ?_
        replace h := b1_some h
        obtain ⟨x12, gx12, h⟩ := h
        refine z_aldI X hW gx12 dX11_stepped_150 ?_
        refine lv_iload hx hb dX11_stepped_151 (lv_at hl 3 rfl) ?_
        refine lv_aload_n hx hb dX11_stepped_153 rfl (lv_at hl 0 rfl) ?_
        replace h := b1_some h
        obtain ⟨a13, ga13, h⟩ := h
        refine z_getA X hW ga13 kX11 (by decide) (by decide) kf_X11_25 dX11_stepped_154 ?_
        refine lv_iload hx hb dX11_stepped_157 (lv_at hl 5 rfl) ?_
        replace h := b1_some h
        obtain ⟨x14, gx14, h⟩ := h
        refine z_aldI X hW gx14 dX11_stepped_159 ?_
        refine lv_iconst (v := 0) hx hb dX11_stepped_160 (by decide) ?_
        replace h := b1_some h
        obtain ⟨q15, gq15, h⟩ := h
        replace h := b2_some h
        obtain ⟨x16, s17, gs17, h⟩ := h
        refine z_callVi (rest := []) X hW hS (cX11_letter_met gs17) kb_X11_letter kv_X11_letter kl_X11_202 (it_v gq15).1 kX11 rfl rfl ⟨Nat.le_of_ble_eq_true rfl, Nat.le_of_ble_eq_true rfl⟩ rfl rfl (by decide) hl.1 dX11_stepped_161 ⟨(by decide), (by decide)⟩ (fun H locs hW hS => ?_)
        refine lv_istore (lv' := [(7, .int x16), (0, .ref o), (2, .int v2), (3, .int v3), (4, .int v4), (5, .int v5), (6, .int v6)]) hx hb dX11_stepped_164 hl (by decide) rfl (fun ls hl => ?_)
        refine lv_aload_n hx hb dX11_stepped_166 rfl (lv_at hl 1 rfl) ?_
        replace h := b1_some h
        obtain ⟨a18, ga18, h⟩ := h
        refine z_getA X hW ga18 kX11 (by decide) (by decide) kf_X11_73 dX11_stepped_167 ?_
        refine lv_iload hx hb dX11_stepped_170 (lv_at hl 0 rfl) ?_
        refine lv_iload_n hx hb dX11_stepped_172 rfl (lv_at hl 2 rfl) ?_
        replace h := b1_some h
        obtain ⟨s19, gs19, h⟩ := h
        refine z_astI X hW hS gs19 dX11_stepped_173 (fun H locs hW hS => ?_)
        refine lv_iinc (v := (v6 + 1)) (lv' := [(6, .int (v6 + 1)), (7, .int x16), (0, .ref o), (2, .int v2), (3, .int v3), (4, .int v4), (5, .int v5)]) hx hb dX11_stepped_174 hl (k := 6) rfl rfl (by decide) rfl (fun ls hl => ?_)
        refine lv_goto (tgt := 108) hx hb dX11_stepped_177 (by decide) ?_
        exact ih o v2 v3 v4 v5 (v6 + 1) _ _ _ _ (lv_sub hl [2, 3, 4, 5, 6, 0] rfl) hW hS h
      · replace h := it_t h c5
        refine lv_goto (tgt := 174) hx hb dX11_stepped_127 (by decide) ?_
        refine lv_iinc (v := (v6 + 1)) (lv' := [(6, .int (v6 + 1)), (0, .ref o), (2, .int v2), (3, .int v3), (4, .int v4), (5, .int v5)]) hx hb dX11_stepped_174 hl (k := 5) rfl rfl (by decide) rfl (fun ls hl => ?_)
        refine lv_goto (tgt := 108) hx hb dX11_stepped_177 (by decide) ?_
        exact ih o v2 v3 v4 v5 (v6 + 1) _ _ _ _ (lv_sub hl [1, 2, 3, 4, 5, 0] rfl) hW hS h

def fX11_stepped_99 (o : Nat) (v2 : Int32) (v3 : Int32) (v4 : Int32) (v5 : Int32) (h : Hz) : Option (Unit × Hz) := (b1 (tg 11 o h) fun _ => (b2 (fX11_note o v2 v3 h) fun _ s3 => fX11_stepped_108 100000 o v2 v3 v4 v5 0 s3))
set_option maxHeartbeats 4000000 in
set_option maxRecDepth 100000 in
theorem wX11_stepped_99 {r0 : Unit} {h0 : Hz} (X : zX A D cy p s m args c cX11_stepped RX11 8) (hlk : meth.locks = false) (hr : meth.sig.returnType = none) (o : Nat) (v2 : Int32) (v3 : Int32) (v4 : Int32) (v5 : Int32) (h : Hz) (H : Heap) (locs : List Loc) (ls : Array Slot) (hl : lv_has ls 8 [(0, .ref o), (2, .int v2), (3, .int v3), (4, .int v4), (5, .int v5)]) (hW : zW A cy D h H) (hS : va_S A s.heap H locs) (h : fX11_stepped_99 o v2 v3 v4 v5 h = some (r0, h0)) : W p l e ({ frames := 4, cells := 0, slots := 0, locals := 92 } : Room) s m args below meth c H locs 0 0 (MQ below (va_Qv (fun u => u = h0) (zB A D cy) A) args s 0 0 A) (F0 m 99 ls []) := by
  obtain ⟨hx, hb, hts, hown, hK9, hml, hN9, hA9⟩ := id X
  unfold fX11_stepped_99 at h
  refine lv_aload_n hx hb dX11_stepped_99 rfl (lv_at hl 0 rfl) ?_
  refine lv_iload_n hx hb dX11_stepped_100 rfl (lv_at hl 1 rfl) ?_
  refine lv_iload_n hx hb dX11_stepped_101 rfl (lv_at hl 2 rfl) ?_
  replace h := b1_some h
  obtain ⟨q1, gq1, h⟩ := h
  replace h := b2_some h
  obtain ⟨_ur2, s3, gs3, h⟩ := h
  refine z_callVv (rest := []) X hW hS (cX11_note_met gs3) kb_X11_note kv_X11_note kl_X11_249 (it_v gq1).1 kX11 rfl rfl ⟨Nat.le_of_ble_eq_true rfl, Nat.le_of_ble_eq_true rfl⟩ rfl rfl (by decide) hl.1 dX11_stepped_102 ⟨(by decide), (by decide)⟩ (fun H locs hW hS => ?_)
  refine lv_iconst (v := 0) hx hb dX11_stepped_105 (by decide) ?_
  refine lv_istore (lv' := [(6, .int 0), (0, .ref o), (2, .int v2), (3, .int v3), (4, .int v4), (5, .int v5)]) hx hb dX11_stepped_106 hl (by decide) rfl (fun ls hl => ?_)
  exact wX11_stepped_108 X hlk hr _ o v2 v3 v4 v5 0 _ _ _ _ (lv_sub hl [1, 2, 3, 4, 5, 0] rfl) hW hS h

def fX11_stepped (o : Nat) (v1 : Int32) (h : Hz) : Option (Unit × Hz) := (b1 (gA 11 21 o h) fun a1 => (b1 (xI 12 a1 v1 h) fun x2 => (b1 (gA 11 17 o h) fun a3 => (b1 (xI 12 a3 v1 h) fun x4 => (b1 (gA 11 37 o h) fun a5 => (b1 (xI 12 a5 x2 h) fun x6 => (if x6 = 0 then (b1 (gA 11 15 o h) fun a8 => (b1 (xI 12 a8 v1 h) fun x9 => (b1 (tg 11 o h) fun _ => (b2 (fX11_gatesToMeet o x2 x4 h) fun x11 s12 => (b1 (gA 11 7 o s12) fun a13 => (b1 (xI 14 a13 x4 s12) fun x14 => (if x14 = 0 then (b1 (gA 11 42 o s12) fun a16 => (b1 (xI 14 a16 ((300 * x2) + x4) s12) fun x17 => (if x17 = 0 then (b1 (gA 11 41 o s12) fun a19 => (b1 (xI 12 a19 ((8 * x2) + x9) s12) fun x20 => (if x20 = (-1) then (b1 (gA 11 41 o s12) fun a22 => (b1 (gA 11 30 o s12) fun a23 => (b1 (xI 12 a23 x9 s12) fun x24 => (b1 (yI a22 ((8 * x2) + x9) x24 s12) fun s25 => fX11_stepped_99 o x2 x4 x9 x11 s25)))) else fX11_stepped_99 o x2 x4 x9 x11 s12))) else fX11_stepped_180 o x2 x4 x9 x11 s12))) else fX11_stepped_180 o x2 x4 x9 x11 s12))))))) else some ((), h))))))))
set_option maxHeartbeats 4000000 in
set_option maxRecDepth 100000 in
theorem wX11_stepped_0 {r0 : Unit} {h0 : Hz} (X : zX A D cy p s m args c cX11_stepped RX11 8) (hlk : meth.locks = false) (hr : meth.sig.returnType = none) (o : Nat) (v1 : Int32) (h : Hz) (H : Heap) (locs : List Loc) (ls : Array Slot) (hl : lv_has ls 8 [(0, .ref o), (1, .int v1)]) (hW : zW A cy D h H) (hS : va_S A s.heap H locs) (h : fX11_stepped o v1 h = some (r0, h0)) : W p l e ({ frames := 4, cells := 0, slots := 0, locals := 92 } : Room) s m args below meth c H locs 0 0 (MQ below (va_Qv (fun u => u = h0) (zB A D cy) A) args s 0 0 A) (F0 m 0 ls []) := by
  obtain ⟨hx, hb, hts, hown, hK9, hml, hN9, hA9⟩ := id X
  unfold fX11_stepped at h
  refine lv_aload_n hx hb dX11_stepped_0 rfl (lv_at hl 0 rfl) ?_
  replace h := b1_some h
  obtain ⟨a1, ga1, h⟩ := h
  refine z_getA X hW ga1 kX11 (by decide) (by decide) kf_X11_73 dX11_stepped_1 ?_
  refine lv_iload_n hx hb dX11_stepped_4 rfl (lv_at hl 1 rfl) ?_
  replace h := b1_some h
  obtain ⟨x2, gx2, h⟩ := h
  refine z_aldI X hW gx2 dX11_stepped_5 ?_
  refine lv_istore_n (lv' := [(2, .int x2), (0, .ref o), (1, .int v1)]) hx hb dX11_stepped_6 rfl hl (by decide) rfl (fun ls hl => ?_)
  refine lv_aload_n hx hb dX11_stepped_7 rfl (lv_at hl 1 rfl) ?_
  replace h := b1_some h
  obtain ⟨a3, ga3, h⟩ := h
  refine z_getA X hW ga3 kX11 (by decide) (by decide) kf_X11_61 dX11_stepped_8 ?_
  refine lv_iload_n hx hb dX11_stepped_11 rfl (lv_at hl 2 rfl) ?_
  replace h := b1_some h
  obtain ⟨x4, gx4, h⟩ := h
  refine z_aldI X hW gx4 dX11_stepped_12 ?_
  refine lv_istore_n (lv' := [(3, .int x4), (2, .int x2), (0, .ref o), (1, .int v1)]) hx hb dX11_stepped_13 rfl hl (by decide) rfl (fun ls hl => ?_)
  refine lv_aload_n hx hb dX11_stepped_14 rfl (lv_at hl 2 rfl) ?_
  replace h := b1_some h
  obtain ⟨a5, ga5, h⟩ := h
  refine z_getA X hW ga5 kX11 (by decide) (by decide) kf_X11_109 dX11_stepped_15 ?_
  refine lv_iload_n hx hb dX11_stepped_18 rfl (lv_at hl 1 rfl) ?_
  replace h := b1_some h
  obtain ⟨x6, gx6, h⟩ := h
  refine z_aldI X hW gx6 dX11_stepped_19 ?_
  refine lv_if_eq (tgt := 24) hx hb dX11_stepped_20 (by decide) (fun c7 => ?_) (fun c7 => ?_)
  · replace h := it_t h c7
    refine lv_aload_n hx hb dX11_stepped_24 rfl (lv_at hl 2 rfl) ?_
    replace h := b1_some h
    obtain ⟨a8, ga8, h⟩ := h
    refine z_getA X hW ga8 kX11 (by decide) (by decide) kf_X11_55 dX11_stepped_25 ?_
    refine lv_iload_n hx hb dX11_stepped_28 rfl (lv_at hl 3 rfl) ?_
    replace h := b1_some h
    obtain ⟨x9, gx9, h⟩ := h
    refine z_aldI X hW gx9 dX11_stepped_29 ?_
    refine lv_istore (lv' := [(4, .int x9), (3, .int x4), (2, .int x2), (0, .ref o), (1, .int v1)]) hx hb dX11_stepped_30 hl (by decide) rfl (fun ls hl => ?_)
    refine lv_aload_n hx hb dX11_stepped_32 rfl (lv_at hl 3 rfl) ?_
    refine lv_iload_n hx hb dX11_stepped_33 rfl (lv_at hl 2 rfl) ?_
    refine lv_iload_n hx hb dX11_stepped_34 rfl (lv_at hl 1 rfl) ?_
    replace h := b1_some h
    obtain ⟨q10, gq10, h⟩ := h
    replace h := b2_some h
    obtain ⟨x11, s12, gs12, h⟩ := h
    refine z_callVi (rest := []) X hW hS (cX11_gatesToMeet_met gs12) kb_X11_gatesToMeet kv_X11_gatesToMeet kl_X11_212 (it_v gq10).1 kX11 rfl rfl ⟨Nat.le_of_ble_eq_true rfl, Nat.le_of_ble_eq_true rfl⟩ rfl rfl (by decide) hl.1 dX11_stepped_35 ⟨(by decide), (by decide)⟩ (fun H locs hW hS => ?_)
    refine lv_istore (lv' := [(5, .int x11), (4, .int x9), (3, .int x4), (2, .int x2), (0, .ref o), (1, .int v1)]) hx hb dX11_stepped_38 hl (by decide) rfl (fun ls hl => ?_)
    refine lv_aload_n hx hb dX11_stepped_40 rfl (lv_at hl 4 rfl) ?_
    replace h := b1_some h
    obtain ⟨a13, ga13, h⟩ := h
    refine z_getA X hW ga13 kX11 (by decide) (by decide) kf_X11_31 dX11_stepped_41 ?_
    refine lv_iload_n hx hb dX11_stepped_44 rfl (lv_at hl 2 rfl) ?_
    replace h := b1_some h
    obtain ⟨x14, gx14, h⟩ := h
    refine z_aldZ X hW gx14 dX11_stepped_45 ?_
    refine lv_if_ne (tgt := 180) hx hb dX11_stepped_46 (by decide) (fun c15 => ?_) (fun c15 => ?_)
    · replace h := it_f h c15
      exact wX11_stepped_180 X hlk hr o x2 x4 x9 x11 _ _ _ _ (lv_sub hl [4, 3, 2, 1, 0] rfl) hW hS h
    · replace h := it_t h c15
      refine lv_aload_n hx hb dX11_stepped_49 rfl (lv_at hl 4 rfl) ?_
      replace h := b1_some h
      obtain ⟨a16, ga16, h⟩ := h
      refine z_getA X hW ga16 kX11 (by decide) (by decide) kf_X11_124 dX11_stepped_50 ?_
      refine lv_sipush (v := 300) hx hb dX11_stepped_53 (by decide) ?_
      refine lv_iload_n hx hb dX11_stepped_56 rfl (lv_at hl 3 rfl) ?_
      refine lv_imul hx hb dX11_stepped_57 ?_
      refine lv_iload_n hx hb dX11_stepped_58 rfl (lv_at hl 2 rfl) ?_
      refine lv_iadd hx hb dX11_stepped_59 ?_
      replace h := b1_some h
      obtain ⟨x17, gx17, h⟩ := h
      refine z_aldZ X hW gx17 dX11_stepped_60 ?_
      refine lv_if_ne (tgt := 180) hx hb dX11_stepped_61 (by decide) (fun c18 => ?_) (fun c18 => ?_)
      · replace h := it_f h c18
        exact wX11_stepped_180 X hlk hr o x2 x4 x9 x11 _ _ _ _ (lv_sub hl [4, 3, 2, 1, 0] rfl) hW hS h
      · replace h := it_t h c18
        refine lv_aload_n hx hb dX11_stepped_64 rfl (lv_at hl 4 rfl) ?_
        replace h := b1_some h
        obtain ⟨a19, ga19, h⟩ := h
        refine z_getA X hW ga19 kX11 (by decide) (by decide) kf_X11_121 dX11_stepped_65 ?_
        refine lv_bipush (v := 8) hx hb dX11_stepped_68 (by decide) ?_
        refine lv_iload_n hx hb dX11_stepped_70 rfl (lv_at hl 3 rfl) ?_
        refine lv_imul hx hb dX11_stepped_71 ?_
        refine lv_iload hx hb dX11_stepped_72 (lv_at hl 1 rfl) ?_
        refine lv_iadd hx hb dX11_stepped_74 ?_
        replace h := b1_some h
        obtain ⟨x20, gx20, h⟩ := h
        refine z_aldI X hW gx20 dX11_stepped_75 ?_
        refine lv_iconst (v := (-1)) hx hb dX11_stepped_76 (by decide) ?_
        refine lv_icmp_ne (tgt := 99) hx hb dX11_stepped_77 (by decide) (fun c21 => ?_) (fun c21 => ?_)
        · replace h := it_f h c21
          exact wX11_stepped_99 X hlk hr o x2 x4 x9 x11 _ _ _ _ (lv_sub hl [4, 3, 2, 1, 0] rfl) hW hS h
        · replace h := it_t h c21
          refine lv_aload_n hx hb dX11_stepped_80 rfl (lv_at hl 4 rfl) ?_
          replace h := b1_some h
          obtain ⟨a22, ga22, h⟩ := h
          refine z_getA X hW ga22 kX11 (by decide) (by decide) kf_X11_121 dX11_stepped_81 ?_
          refine lv_bipush (v := 8) hx hb dX11_stepped_84 (by decide) ?_
          refine lv_iload_n hx hb dX11_stepped_86 rfl (lv_at hl 3 rfl) ?_
          refine lv_imul hx hb dX11_stepped_87 ?_
          refine lv_iload hx hb dX11_stepped_88 (lv_at hl 1 rfl) ?_
          refine lv_iadd hx hb dX11_stepped_90 ?_
          refine lv_aload_n hx hb dX11_stepped_91 rfl (lv_at hl 4 rfl) ?_
          replace h := b1_some h
          obtain ⟨a23, ga23, h⟩ := h
          refine z_getA X hW ga23 kX11 (by decide) (by decide) kf_X11_91 dX11_stepped_92 ?_
          refine lv_iload hx hb dX11_stepped_95 (lv_at hl 1 rfl) ?_
          replace h := b1_some h
          obtain ⟨x24, gx24, h⟩ := h
          refine z_aldI X hW gx24 dX11_stepped_97 ?_
          replace h := b1_some h
          obtain ⟨s25, gs25, h⟩ := h
          refine z_astI X hW hS gs25 dX11_stepped_98 (fun H locs hW hS => ?_)
          exact wX11_stepped_99 X hlk hr o x2 x4 x9 x11 _ _ _ _ (lv_sub hl [4, 3, 2, 1, 0] rfl) hW hS h
  · replace h := it_f h c7
    exact z_etv X hlk hr hW hS h (by decide) (by decide) dX11_stepped_23

set_option maxHeartbeats 4000000 in
set_option maxRecDepth 100000 in
theorem cX11_stepped_met {l : Launch} {A : Nat → Prop} {D : va_G} {cy : Nat → ClassId} {r0 : Unit} {h0 : Hz} {o : Nat} {v1 : Int32} {h : Hz} (g : fX11_stepped o v1 h = some (r0, h0)) : Met l yX11_stepped (Cond.code yX11_stepped cX11_stepped 8 none :: wT) ({ frames := 4, cells := 0, slots := 0, locals := 92 } : Room) (va_Pc [.ref o, .int v1] (zS A D cy h)) (va_Qv (fun u => u = h0) (zB A D cy) A) 0 0 A := by
  refine Met.ofW (cc := cX11_stepped) (maxL := 8) (ret := none) (by decide) rfl ?_
  intro p e s m args below meth c s₁ B hml hv
  obtain ⟨rfl, hW, hK, hN, hA⟩ := hv
  have X : zX A D cy p s m _ c cX11_stepped RX11 8 := ⟨B.exec, B.bytes, fun w hw => atoms_spec (ws := Cond.code yX11_stepped cX11_stepped 8 none :: wT) B.pre w (List.mem_cons_of_mem _ hw), findClass_of_methodNamed B.named, hK, hml, hN, hA⟩
  have hl := lv_entry [.ref o, .int v1] (n := 8) (Nat.le_of_ble_eq_true rfl)
  rw [lg_entry_eq]
  generalize (lg_sl [.ref o, .int v1] ++ List.replicate (8 - (lg_sl [.ref o, .int v1]).length) Slot.unset).toArray = ls at hl ⊢
  have hl : lv_has ls 8 [(0, .ref o), (1, .int v1)] := hl
  exact wX11_stepped_0 X B.notSynchronized B.returns o v1 _ _ _ _ (lv_sub hl [0, 1] rfl) hW va_S.rf g

end Z12_modelc
