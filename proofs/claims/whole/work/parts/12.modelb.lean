section Z12_modelb
variable {p : Program} {l : Launch} {e : Env} {s : State} {m : MethodId} {args : Array Value} {below : List Frame} {meth : Method} {c : Code} {A : Nat → Prop} {D : va_G} {cy : Nat → ClassId}
theorem dX11_row_0 : decode cX11_row 0 = .ok (.aload_n 0, 1) := by decide +kernel
theorem dX11_row_1 : decode cX11_row 1 = .ok (.iload_n 1, 1) := by decide +kernel
theorem dX11_row_2 : decode cX11_row 2 = .ok (.invokevirtual 178, 3) := by decide +kernel
theorem dX11_row_5 : decode cX11_row 5 = .ok (.ifCond .ne 9, 3) := by decide +kernel
theorem dX11_row_8 : decode cX11_row 8 = .ok (.aload_n 0, 1) := by decide +kernel
theorem dX11_row_9 : decode cX11_row 9 = .ok (.iconst (-1), 1) := by decide +kernel
theorem dX11_row_10 : decode cX11_row 10 = .ok (.invokevirtual 170, 3) := by decide +kernel
theorem dX11_row_13 : decode cX11_row 13 = .ok (.ireturn, 1) := by decide +kernel
theorem dX11_row_14 : decode cX11_row 14 = .ok (.aload_n 0, 1) := by decide +kernel
theorem dX11_row_15 : decode cX11_row 15 = .ok (.iload_n 1, 1) := by decide +kernel
theorem dX11_row_16 : decode cX11_row 16 = .ok (.invokevirtual 181, 3) := by decide +kernel
theorem dX11_row_19 : decode cX11_row 19 = .ok (.ifCond .eq 11, 3) := by decide +kernel
theorem dX11_row_22 : decode cX11_row 22 = .ok (.iload_n 3, 1) := by decide +kernel
theorem dX11_row_23 : decode cX11_row 23 = .ok (.iconst 4, 1) := by decide +kernel
theorem dX11_row_24 : decode cX11_row 24 = .ok (.invokestatic 149, 3) := by decide +kernel
theorem dX11_row_27 : decode cX11_row 27 = .ok (.ifCond .ne 10, 3) := by decide +kernel
theorem dX11_row_30 : decode cX11_row 30 = .ok (.aload_n 0, 1) := by decide +kernel
theorem dX11_row_31 : decode cX11_row 31 = .ok (.bipush (-2), 2) := by decide +kernel
theorem dX11_row_33 : decode cX11_row 33 = .ok (.invokevirtual 170, 3) := by decide +kernel
theorem dX11_row_36 : decode cX11_row 36 = .ok (.ireturn, 1) := by decide +kernel
theorem dX11_row_37 : decode cX11_row 37 = .ok (.iload_n 2, 1) := by decide +kernel
theorem dX11_row_38 : decode cX11_row 38 = .ok (.aload_n 0, 1) := by decide +kernel
theorem dX11_row_39 : decode cX11_row 39 = .ok (.getfield 19, 3) := by decide +kernel
theorem dX11_row_42 : decode cX11_row 42 = .ok (.iload_n 1, 1) := by decide +kernel
theorem dX11_row_43 : decode cX11_row 43 = .ok (.iaload, 1) := by decide +kernel
theorem dX11_row_44 : decode cX11_row 44 = .ok (.invokestatic 149, 3) := by decide +kernel
theorem dX11_row_47 : decode cX11_row 47 = .ok (.ifCond .ne 10, 3) := by decide +kernel
theorem dX11_row_50 : decode cX11_row 50 = .ok (.aload_n 0, 1) := by decide +kernel
theorem dX11_row_51 : decode cX11_row 51 = .ok (.bipush (-3), 2) := by decide +kernel
theorem dX11_row_53 : decode cX11_row 53 = .ok (.invokevirtual 170, 3) := by decide +kernel
theorem dX11_row_56 : decode cX11_row 56 = .ok (.ireturn, 1) := by decide +kernel
theorem dX11_row_57 : decode cX11_row 57 = .ok (.iload 4, 2) := by decide +kernel
theorem dX11_row_59 : decode cX11_row 59 = .ok (.ifCond .ge 10, 3) := by decide +kernel
theorem dX11_row_62 : decode cX11_row 62 = .ok (.aload_n 0, 1) := by decide +kernel
theorem dX11_row_63 : decode cX11_row 63 = .ok (.bipush (-4), 2) := by decide +kernel
theorem dX11_row_65 : decode cX11_row 65 = .ok (.invokevirtual 170, 3) := by decide +kernel
theorem dX11_row_68 : decode cX11_row 68 = .ok (.ireturn, 1) := by decide +kernel
theorem dX11_row_69 : decode cX11_row 69 = .ok (.aload_n 0, 1) := by decide +kernel
theorem dX11_row_70 : decode cX11_row 70 = .ok (.iload_n 1, 1) := by decide +kernel
theorem dX11_row_71 : decode cX11_row 71 = .ok (.invokevirtual 167, 3) := by decide +kernel
theorem dX11_row_74 : decode cX11_row 74 = .ok (.ifCond .ne 10, 3) := by decide +kernel
theorem dX11_row_77 : decode cX11_row 77 = .ok (.aload_n 0, 1) := by decide +kernel
theorem dX11_row_78 : decode cX11_row 78 = .ok (.bipush (-5), 2) := by decide +kernel
theorem dX11_row_80 : decode cX11_row 80 = .ok (.invokevirtual 170, 3) := by decide +kernel
theorem dX11_row_83 : decode cX11_row 83 = .ok (.ireturn, 1) := by decide +kernel
theorem dX11_row_84 : decode cX11_row 84 = .ok (.iload 4, 2) := by decide +kernel
theorem dX11_row_86 : decode cX11_row 86 = .ok (.bipush 32, 2) := by decide +kernel
theorem dX11_row_88 : decode cX11_row 88 = .ok (.if_icmp .le 10, 3) := by decide +kernel
theorem dX11_row_91 : decode cX11_row 91 = .ok (.aload_n 0, 1) := by decide +kernel
theorem dX11_row_92 : decode cX11_row 92 = .ok (.bipush (-6), 2) := by decide +kernel
theorem dX11_row_94 : decode cX11_row 94 = .ok (.invokevirtual 170, 3) := by decide +kernel
theorem dX11_row_97 : decode cX11_row 97 = .ok (.ireturn, 1) := by decide +kernel
theorem dX11_row_98 : decode cX11_row 98 = .ok (.bipush 8, 2) := by decide +kernel
theorem dX11_row_100 : decode cX11_row 100 = .ok (.iload_n 1, 1) := by decide +kernel
theorem dX11_row_101 : decode cX11_row 101 = .ok (.imul, 1) := by decide +kernel
theorem dX11_row_102 : decode cX11_row 102 = .ok (.iload_n 2, 1) := by decide +kernel
theorem dX11_row_103 : decode cX11_row 103 = .ok (.iadd, 1) := by decide +kernel
theorem dX11_row_104 : decode cX11_row 104 = .ok (.istore 5, 2) := by decide +kernel
theorem dX11_row_106 : decode cX11_row 106 = .ok (.aload_n 0, 1) := by decide +kernel
theorem dX11_row_107 : decode cX11_row 107 = .ok (.getfield 38, 3) := by decide +kernel
theorem dX11_row_110 : decode cX11_row 110 = .ok (.iload 5, 2) := by decide +kernel
theorem dX11_row_112 : decode cX11_row 112 = .ok (.iconst 2, 1) := by decide +kernel
theorem dX11_row_113 : decode cX11_row 113 = .ok (.iastore, 1) := by decide +kernel
theorem dX11_row_114 : decode cX11_row 114 = .ok (.aload_n 0, 1) := by decide +kernel
theorem dX11_row_115 : decode cX11_row 115 = .ok (.getfield 41, 3) := by decide +kernel
theorem dX11_row_118 : decode cX11_row 118 = .ok (.iload 5, 2) := by decide +kernel
theorem dX11_row_120 : decode cX11_row 120 = .ok (.iload_n 3, 1) := by decide +kernel
theorem dX11_row_121 : decode cX11_row 121 = .ok (.iastore, 1) := by decide +kernel
theorem dX11_row_122 : decode cX11_row 122 = .ok (.aload_n 0, 1) := by decide +kernel
theorem dX11_row_123 : decode cX11_row 123 = .ok (.getfield 44, 3) := by decide +kernel
theorem dX11_row_126 : decode cX11_row 126 = .ok (.iload 5, 2) := by decide +kernel
theorem dX11_row_128 : decode cX11_row 128 = .ok (.iload 4, 2) := by decide +kernel
theorem dX11_row_130 : decode cX11_row 130 = .ok (.iastore, 1) := by decide +kernel
theorem dX11_row_131 : decode cX11_row 131 = .ok (.iconst 0, 1) := by decide +kernel
theorem dX11_row_132 : decode cX11_row 132 = .ok (.istore 6, 2) := by decide +kernel
theorem dX11_row_134 : decode cX11_row 134 = .ok (.iload 6, 2) := by decide +kernel
theorem dX11_row_136 : decode cX11_row 136 = .ok (.iload 4, 2) := by decide +kernel
theorem dX11_row_138 : decode cX11_row 138 = .ok (.if_icmp .ge 23, 3) := by decide +kernel
theorem dX11_row_141 : decode cX11_row 141 = .ok (.aload_n 0, 1) := by decide +kernel
theorem dX11_row_142 : decode cX11_row 142 = .ok (.getfield 48, 3) := by decide +kernel
theorem dX11_row_145 : decode cX11_row 145 = .ok (.bipush 32, 2) := by decide +kernel
theorem dX11_row_147 : decode cX11_row 147 = .ok (.iload 5, 2) := by decide +kernel
theorem dX11_row_149 : decode cX11_row 149 = .ok (.imul, 1) := by decide +kernel
theorem dX11_row_150 : decode cX11_row 150 = .ok (.iload 6, 2) := by decide +kernel
theorem dX11_row_152 : decode cX11_row 152 = .ok (.iadd, 1) := by decide +kernel
theorem dX11_row_153 : decode cX11_row 153 = .ok (.lconst 0, 1) := by decide +kernel
theorem dX11_row_154 : decode cX11_row 154 = .ok (.lastore, 1) := by decide +kernel
theorem dX11_row_155 : decode cX11_row 155 = .ok (.iinc 6 1, 3) := by decide +kernel
theorem dX11_row_158 : decode cX11_row 158 = .ok (.goto (-24), 3) := by decide +kernel
theorem dX11_row_161 : decode cX11_row 161 = .ok (.aload_n 0, 1) := by decide +kernel
theorem dX11_row_162 : decode cX11_row 162 = .ok (.getfield 91, 3) := by decide +kernel
theorem dX11_row_165 : decode cX11_row 165 = .ok (.aload_n 0, 1) := by decide +kernel
theorem dX11_row_166 : decode cX11_row 166 = .ok (.getfield 13, 3) := by decide +kernel
theorem dX11_row_169 : decode cX11_row 169 = .ok (.iload_n 1, 1) := by decide +kernel
theorem dX11_row_170 : decode cX11_row 170 = .ok (.iaload, 1) := by decide +kernel
theorem dX11_row_171 : decode cX11_row 171 = .ok (.dup2, 1) := by decide +kernel
theorem dX11_row_172 : decode cX11_row 172 = .ok (.iaload, 1) := by decide +kernel
theorem dX11_row_173 : decode cX11_row 173 = .ok (.iconst 1, 1) := by decide +kernel
theorem dX11_row_174 : decode cX11_row 174 = .ok (.iadd, 1) := by decide +kernel
theorem dX11_row_175 : decode cX11_row 175 = .ok (.iastore, 1) := by decide +kernel
theorem dX11_row_176 : decode cX11_row 176 = .ok (.iconst 1, 1) := by decide +kernel
theorem dX11_row_177 : decode cX11_row 177 = .ok (.ireturn, 1) := by decide +kernel
def fX11_row_30 (o : Nat) (h : Hz) : Option (Int32 × Hz) := (b1 (tg 11 o h) fun _ => (b2 (fX11_refuse o (-2) h) fun x2 s3 => some (x2, s3)))
set_option maxHeartbeats 4000000 in
set_option maxRecDepth 100000 in
theorem wX11_row_30 {r0 : Int32} {h0 : Hz} (X : zX A D cy p s m args c cX11_row RX11 7) (hlk : meth.locks = false) (hr : meth.sig.returnType = (some .int)) (o : Nat) (h : Hz) (H : Heap) (locs : List Loc) (ls : Array Slot) (hl : lv_has ls 7 [(0, .ref o)]) (hW : zW A cy D h H) (hS : va_S A s.heap H locs) (h : fX11_row_30 o h = some (r0, h0)) : W p l e ({ frames := 2, cells := 0, slots := 0, locals := 47 } : Room) s m args below meth c H locs 0 0 (MQ below (va_Qi (fun r1 u => r1 = r0 ∧ u = h0) (zB A D cy) A) args s 0 0 A) (F0 m 30 ls []) := by
  obtain ⟨hx, hb, hts, hown, hK9, hml, hN9, hA9⟩ := id X
  unfold fX11_row_30 at h
  refine lv_aload_n hx hb dX11_row_30 rfl (lv_at hl 0 rfl) ?_
  refine lv_bipush (v := (-2)) hx hb dX11_row_31 (by decide) ?_
  replace h := b1_some h
  obtain ⟨q1, gq1, h⟩ := h
  replace h := b2_some h
  obtain ⟨x2, s3, gs3, h⟩ := h
  refine z_callVi (rest := []) X hW hS (cX11_refuse_met gs3) kb_X11_refuse kv_X11_refuse kl_X11_170 (it_v gq1).1 kX11 rfl rfl ⟨Nat.le_of_ble_eq_true rfl, Nat.le_of_ble_eq_true rfl⟩ rfl rfl (by decide) hl.1 dX11_row_33 ⟨(by decide), (by decide)⟩ (fun H locs hW hS => ?_)
  exact z_eti X hlk hr hW hS h (by decide) (by decide) dX11_row_36

def fX11_row_134 : Nat → Nat → Int32 → Int32 → Int32 → Int32 → Hz → Option (Int32 × Hz)
  | 0, _, _, _, _, _, _ => none
  | n + 1, o, v1, v4, v5, v6, h => (if v4 ≤ v6 then (b1 (gA 11 30 o h) fun a2 => (b1 (gA 11 1 o h) fun a3 => (b1 (xI 12 a3 v1 h) fun x4 => (b1 (xI 12 a2 x4 h) fun x5 => (b1 (yI a2 x4 (x5 + 1) h) fun s6 => some (1, s6)))))) else (b1 (gA 11 13 o h) fun a7 => (b1 (yL a7 ((32 * v5) + v6) 0 h) fun s8 => fX11_row_134 n o v1 v4 v5 (v6 + 1) s8)))
set_option maxHeartbeats 4000000 in
set_option maxRecDepth 100000 in
theorem wX11_row_134 {r0 : Int32} {h0 : Hz} (X : zX A D cy p s m args c cX11_row RX11 7) (hlk : meth.locks = false) (hr : meth.sig.returnType = (some .int)) : ∀ (n : Nat) (o : Nat) (v1 : Int32) (v4 : Int32) (v5 : Int32) (v6 : Int32) (h : Hz) (H : Heap) (locs : List Loc) (ls : Array Slot) (hl : lv_has ls 7 [(0, .ref o), (1, .int v1), (4, .int v4), (5, .int v5), (6, .int v6)]) (hW : zW A cy D h H) (hS : va_S A s.heap H locs) (h : fX11_row_134 n o v1 v4 v5 v6 h = some (r0, h0)), W p l e ({ frames := 2, cells := 0, slots := 0, locals := 47 } : Room) s m args below meth c H locs 0 0 (MQ below (va_Qi (fun r1 u => r1 = r0 ∧ u = h0) (zB A D cy) A) args s 0 0 A) (F0 m 134 ls []) := by
  obtain ⟨hx, hb, hts, hown, hK9, hml, hN9, hA9⟩ := id X
  intro n
  induction n with
  | zero =>
    intro o v1 v4 v5 v6 h H locs ls hl hW hS h
    rw [fX11_row_134] at h
    cases h
  | succ n ih =>
    intro o v1 v4 v5 v6 h H locs ls hl hW hS h
    rw [fX11_row_134] at h
    refine lv_iload hx hb dX11_row_134 (lv_at hl 4 rfl) ?_
    refine lv_iload hx hb dX11_row_136 (lv_at hl 2 rfl) ?_
    refine lv_icmp_ge (tgt := 161) hx hb dX11_row_138 (by decide) (fun c1 => ?_) (fun c1 => ?_)
    · replace h := it_t h c1
      refine lv_aload_n hx hb dX11_row_161 rfl (lv_at hl 0 rfl) ?_
      replace h := b1_some h
      obtain ⟨a2, ga2, h⟩ := h
      refine z_getA X hW ga2 kX11 (by decide) (by decide) kf_X11_91 dX11_row_162 ?_
      refine lv_aload_n hx hb dX11_row_165 rfl (lv_at hl 0 rfl) ?_
      replace h := b1_some h
      obtain ⟨a3, ga3, h⟩ := h
      refine z_getA X hW ga3 kX11 (by decide) (by decide) kf_X11_13 dX11_row_166 ?_
      refine lv_iload_n hx hb dX11_row_169 rfl (lv_at hl 1 rfl) ?_
      replace h := b1_some h
      obtain ⟨x4, gx4, h⟩ := h
      refine z_aldI X hW gx4 dX11_row_170 ?_
      refine lv_dup2_11 hx hb dX11_row_171 rfl rfl ?_
      replace h := b1_some h
      obtain ⟨x5, gx5, h⟩ := h
      refine z_aldI X hW gx5 dX11_row_172 ?_
      refine lv_iconst (v := 1) hx hb dX11_row_173 (by decide) ?_
      refine lv_iadd hx hb dX11_row_174 ?_
      replace h := b1_some h
      obtain ⟨s6, gs6, h⟩ := h
      refine z_astI X hW hS gs6 dX11_row_175 (fun H locs hW hS => ?_)
      refine lv_iconst (v := 1) hx hb dX11_row_176 (by decide) ?_
      exact z_eti X hlk hr hW hS h (by decide) (by decide) dX11_row_177
    · replace h := it_f h c1
      refine lv_aload_n hx hb dX11_row_141 rfl (lv_at hl 0 rfl) ?_
      replace h := b1_some h
      obtain ⟨a7, ga7, h⟩ := h
      refine z_getA X hW ga7 kX11 (by decide) (by decide) kf_X11_48 dX11_row_142 ?_
      refine lv_bipush (v := 32) hx hb dX11_row_145 (by decide) ?_
      refine lv_iload hx hb dX11_row_147 (lv_at hl 3 rfl) ?_
      refine lv_imul hx hb dX11_row_149 ?_
      refine lv_iload hx hb dX11_row_150 (lv_at hl 4 rfl) ?_
      refine lv_iadd hx hb dX11_row_152 ?_
      refine lv_lconst (v := 0) hx hb dX11_row_153 (by decide) ?_
      replace h := b1_some h
      obtain ⟨s8, gs8, h⟩ := h
      refine z_astL X hW hS gs8 dX11_row_154 (fun H locs hW hS => ?_)
      refine lv_iinc (v := (v6 + 1)) (lv' := [(6, .int (v6 + 1)), (0, .ref o), (1, .int v1), (4, .int v4), (5, .int v5)]) hx hb dX11_row_155 hl (k := 4) rfl rfl (by decide) rfl (fun ls hl => ?_)
      refine lv_goto (tgt := 134) hx hb dX11_row_158 (by decide) ?_
      exact ih o v1 v4 v5 (v6 + 1) _ _ _ _ (lv_sub hl [1, 2, 3, 4, 0] rfl) hW hS h

def fX11_row (o : Nat) (v1 : Int32) (v2 : Int32) (v3 : Int32) (v4 : Int32) (h : Hz) : Option (Int32 × Hz) := (b1 (tg 11 o h) fun _ => (b2 (fX11_isThere o v1 h) fun x2 s3 => (if x2 = 0 then (b1 (tg 11 o s3) fun _ => (b2 (fX11_refuse o (-1) s3) fun x42 s43 => some (x42, s43))) else (b1 (tg 11 o s3) fun _ => (b2 (fX11_hasPlaces o v1 s3) fun x6 s7 => (if x6 = 0 then fX11_row_30 o s7 else (b2 (fX11_isIn v3 4 s7) fun x9 s10 => (if x9 = 0 then fX11_row_30 o s10 else (b1 (gA 11 3 o s10) fun a12 => (b1 (xI 12 a12 v1 s10) fun x13 => (b2 (fX11_isIn v2 x13 s10) fun x14 s15 => (if x14 = 0 then (b1 (tg 11 o s15) fun _ => (b2 (fX11_refuse o (-3) s15) fun x39 s40 => some (x39, s40))) else (if 0 ≤ v4 then (b1 (tg 11 o s15) fun _ => (b2 (fX11_isNear o v1 s15) fun x19 s20 => (if x19 = 0 then (b1 (tg 11 o s20) fun _ => (b2 (fX11_refuse o (-5) s20) fun x33 s34 => some (x33, s34))) else (if v4 ≤ 32 then (b1 (gA 11 10 o s20) fun a23 => (b1 (yI a23 ((8 * v1) + v2) 2 s20) fun s24 => (b1 (gA 11 11 o s24) fun a25 => (b1 (yI a25 ((8 * v1) + v2) v3 s24) fun s26 => (b1 (gA 11 12 o s26) fun a27 => (b1 (yI a27 ((8 * v1) + v2) v4 s26) fun s28 => fX11_row_134 100000 o v1 v4 ((8 * v1) + v2) 0 s28)))))) else (b1 (tg 11 o s20) fun _ => (b2 (fX11_refuse o (-6) s20) fun x30 s31 => some (x30, s31))))))) else (b1 (tg 11 o s15) fun _ => (b2 (fX11_refuse o (-4) s15) fun x36 s37 => some (x36, s37))))))))))))))))
set_option maxHeartbeats 4000000 in
set_option maxRecDepth 100000 in
theorem wX11_row_0 {r0 : Int32} {h0 : Hz} (X : zX A D cy p s m args c cX11_row RX11 7) (hlk : meth.locks = false) (hr : meth.sig.returnType = (some .int)) (o : Nat) (v1 : Int32) (v2 : Int32) (v3 : Int32) (v4 : Int32) (h : Hz) (H : Heap) (locs : List Loc) (ls : Array Slot) (hl : lv_has ls 7 [(0, .ref o), (1, .int v1), (2, .int v2), (3, .int v3), (4, .int v4)]) (hW : zW A cy D h H) (hS : va_S A s.heap H locs) (h : fX11_row o v1 v2 v3 v4 h = some (r0, h0)) : W p l e ({ frames := 2, cells := 0, slots := 0, locals := 47 } : Room) s m args below meth c H locs 0 0 (MQ below (va_Qi (fun r1 u => r1 = r0 ∧ u = h0) (zB A D cy) A) args s 0 0 A) (F0 m 0 ls []) := by
  obtain ⟨hx, hb, hts, hown, hK9, hml, hN9, hA9⟩ := id X
  unfold fX11_row at h
  refine lv_aload_n hx hb dX11_row_0 rfl (lv_at hl 0 rfl) ?_
  refine lv_iload_n hx hb dX11_row_1 rfl (lv_at hl 1 rfl) ?_
  replace h := b1_some h
  obtain ⟨q1, gq1, h⟩ := h
  replace h := b2_some h
  obtain ⟨x2, s3, gs3, h⟩ := h
  refine z_callVi (rest := []) X hW hS (cX11_isThere_met gs3) kb_X11_isThere kv_X11_isThere kl_X11_178 (it_v gq1).1 kX11 rfl rfl ⟨Nat.le_of_ble_eq_true rfl, Nat.le_of_ble_eq_true rfl⟩ rfl rfl (by decide) hl.1 dX11_row_2 ⟨(by decide), (by decide)⟩ (fun H locs hW hS => ?_)
  refine lv_if_ne (tgt := 14) hx hb dX11_row_5 (by decide) (fun c4 => ?_) (fun c4 => ?_)
  · replace h := it_f h c4
    refine lv_aload_n hx hb dX11_row_14 rfl (lv_at hl 0 rfl) ?_
    refine lv_iload_n hx hb dX11_row_15 rfl (lv_at hl 1 rfl) ?_
    replace h := b1_some h
    obtain ⟨q5, gq5, h⟩ := h
    replace h := b2_some h
    obtain ⟨x6, s7, gs7, h⟩ := h
    refine z_callVi (rest := []) X hW hS (cX11_hasPlaces_met gs7) kb_X11_hasPlaces kv_X11_hasPlaces kl_X11_181 (it_v gq5).1 kX11 rfl rfl ⟨Nat.le_of_ble_eq_true rfl, Nat.le_of_ble_eq_true rfl⟩ rfl rfl (by decide) hl.1 dX11_row_16 ⟨(by decide), (by decide)⟩ (fun H locs hW hS => ?_)
    refine lv_if_eq (tgt := 30) hx hb dX11_row_19 (by decide) (fun c8 => ?_) (fun c8 => ?_)
    · replace h := it_t h c8
      exact wX11_row_30 X hlk hr o _ _ _ _ (lv_sub hl [0] rfl) hW hS h
    · replace h := it_f h c8
      refine lv_iload_n hx hb dX11_row_22 rfl (lv_at hl 3 rfl) ?_
      refine lv_iconst (v := 4) hx hb dX11_row_23 (by decide) ?_
      replace h := b2_some h
      obtain ⟨x9, s10, gs10, h⟩ := h
      refine z_callSi (rest := []) X hW hS (cX11_isIn_met gs10) kb_X11_isIn ks_X11_isIn kl_X11_149 rfl rfl ⟨Nat.le_of_ble_eq_true rfl, Nat.le_of_ble_eq_true rfl⟩ rfl rfl (by decide) hl.1 dX11_row_24 ⟨(by decide), (by decide)⟩ (fun H locs hW hS => ?_)
      refine lv_if_ne (tgt := 37) hx hb dX11_row_27 (by decide) (fun c11 => ?_) (fun c11 => ?_)
      · replace h := it_f h c11
        refine lv_iload_n hx hb dX11_row_37 rfl (lv_at hl 2 rfl) ?_
        refine lv_aload_n hx hb dX11_row_38 rfl (lv_at hl 0 rfl) ?_
        replace h := b1_some h
        obtain ⟨a12, ga12, h⟩ := h
        refine z_getA X hW ga12 kX11 (by decide) (by decide) kf_X11_19 dX11_row_39 ?_
        refine lv_iload_n hx hb dX11_row_42 rfl (lv_at hl 1 rfl) ?_
        replace h := b1_some h
        obtain ⟨x13, gx13, h⟩ := h
        refine z_aldI X hW gx13 dX11_row_43 ?_
        replace h := b2_some h
        obtain ⟨x14, s15, gs15, h⟩ := h
        refine z_callSi (rest := []) X hW hS (cX11_isIn_met gs15) kb_X11_isIn ks_X11_isIn kl_X11_149 rfl rfl ⟨Nat.le_of_ble_eq_true rfl, Nat.le_of_ble_eq_true rfl⟩ rfl rfl (by decide) hl.1 dX11_row_44 ⟨(by decide), (by decide)⟩ (fun H locs hW hS => ?_)
        refine lv_if_ne (tgt := 57) hx hb dX11_row_47 (by decide) (fun c16 => ?_) (fun c16 => ?_)
        · replace h := it_f h c16
          refine lv_iload hx hb dX11_row_57 (lv_at hl 4 rfl) ?_
          refine lv_if_ge (tgt := 69) hx hb dX11_row_59 (by decide) (fun c17 => ?_) (fun c17 => ?_)
          · replace h := it_t h c17
            refine lv_aload_n hx hb dX11_row_69 rfl (lv_at hl 0 rfl) ?_
            refine lv_iload_n hx hb dX11_row_70 rfl (lv_at hl 1 rfl) ?_
            replace h := b1_some h
            obtain ⟨q18, gq18, h⟩ := h
            replace h := b2_some h
            obtain ⟨x19, s20, gs20, h⟩ := h
            refine z_callVi (rest := []) X hW hS (cX11_isNear_met gs20) kb_X11_isNear kv_X11_isNear kl_X11_167 (it_v gq18).1 kX11 rfl rfl ⟨Nat.le_of_ble_eq_true rfl, Nat.le_of_ble_eq_true rfl⟩ rfl rfl (by decide) hl.1 dX11_row_71 ⟨(by decide), (by decide)⟩ (fun H locs hW hS => ?_)
            refine lv_if_ne (tgt := 84) hx hb dX11_row_74 (by decide) (fun c21 => ?_) (fun c21 => ?_)
            · replace h := it_f h c21
              refine lv_iload hx hb dX11_row_84 (lv_at hl 4 rfl) ?_
              refine lv_bipush (v := 32) hx hb dX11_row_86 (by decide) ?_
              refine lv_icmp_le (tgt := 98) hx hb dX11_row_88 (by decide) (fun c22 => ?_) (fun c22 => ?_)
              · replace h := it_t h c22
                refine lv_bipush (v := 8) hx hb dX11_row_98 (by decide) ?_
                refine lv_iload_n hx hb dX11_row_100 rfl (lv_at hl 1 rfl) ?_
                refine lv_imul hx hb dX11_row_101 ?_
                refine lv_iload_n hx hb dX11_row_102 rfl (lv_at hl 2 rfl) ?_
                refine lv_iadd hx hb dX11_row_103 ?_
                refine lv_istore (lv' := [(5, .int ((8 * v1) + v2)), (0, .ref o), (1, .int v1), (2, .int v2), (3, .int v3), (4, .int v4)]) hx hb dX11_row_104 hl (by decide) rfl (fun ls hl => ?_)
                refine lv_aload_n hx hb dX11_row_106 rfl (lv_at hl 1 rfl) ?_
                replace h := b1_some h
                obtain ⟨a23, ga23, h⟩ := h
                refine z_getA X hW ga23 kX11 (by decide) (by decide) kf_X11_38 dX11_row_107 ?_
                refine lv_iload hx hb dX11_row_110 (lv_at hl 0 rfl) ?_
                refine lv_iconst (v := 2) hx hb dX11_row_112 (by decide) ?_
                replace h := b1_some h
                obtain ⟨s24, gs24, h⟩ := h
                refine z_astI X hW hS gs24 dX11_row_113 (fun H locs hW hS => ?_)
                refine lv_aload_n hx hb dX11_row_114 rfl (lv_at hl 1 rfl) ?_
                replace h := b1_some h
                obtain ⟨a25, ga25, h⟩ := h
                refine z_getA X hW ga25 kX11 (by decide) (by decide) kf_X11_41 dX11_row_115 ?_
                refine lv_iload hx hb dX11_row_118 (lv_at hl 0 rfl) ?_
                refine lv_iload_n hx hb dX11_row_120 rfl (lv_at hl 4 rfl) ?_
                replace h := b1_some h
                obtain ⟨s26, gs26, h⟩ := h
                refine z_astI X hW hS gs26 dX11_row_121 (fun H locs hW hS => ?_)
                refine lv_aload_n hx hb dX11_row_122 rfl (lv_at hl 1 rfl) ?_
                replace h := b1_some h
                obtain ⟨a27, ga27, h⟩ := h
                refine z_getA X hW ga27 kX11 (by decide) (by decide) kf_X11_44 dX11_row_123 ?_
                refine lv_iload hx hb dX11_row_126 (lv_at hl 0 rfl) ?_
                refine lv_iload hx hb dX11_row_128 (lv_at hl 5 rfl) ?_
                replace h := b1_some h
                obtain ⟨s28, gs28, h⟩ := h
                refine z_astI X hW hS gs28 dX11_row_130 (fun H locs hW hS => ?_)
                refine lv_iconst (v := 0) hx hb dX11_row_131 (by decide) ?_
                refine lv_istore (lv' := [(6, .int 0), (5, .int ((8 * v1) + v2)), (0, .ref o), (1, .int v1), (2, .int v2), (3, .int v3), (4, .int v4)]) hx hb dX11_row_132 hl (by decide) rfl (fun ls hl => ?_)
                exact wX11_row_134 X hlk hr _ o v1 v4 ((8 * v1) + v2) 0 _ _ _ _ (lv_sub hl [2, 3, 6, 1, 0] rfl) hW hS h
              · replace h := it_f h c22
                refine lv_aload_n hx hb dX11_row_91 rfl (lv_at hl 0 rfl) ?_
                refine lv_bipush (v := (-6)) hx hb dX11_row_92 (by decide) ?_
                replace h := b1_some h
                obtain ⟨q29, gq29, h⟩ := h
                replace h := b2_some h
                obtain ⟨x30, s31, gs31, h⟩ := h
                refine z_callVi (rest := []) X hW hS (cX11_refuse_met gs31) kb_X11_refuse kv_X11_refuse kl_X11_170 (it_v gq29).1 kX11 rfl rfl ⟨Nat.le_of_ble_eq_true rfl, Nat.le_of_ble_eq_true rfl⟩ rfl rfl (by decide) hl.1 dX11_row_94 ⟨(by decide), (by decide)⟩ (fun H locs hW hS => ?_)
                exact z_eti X hlk hr hW hS h (by decide) (by decide) dX11_row_97
            · replace h := it_t h c21
              refine lv_aload_n hx hb dX11_row_77 rfl (lv_at hl 0 rfl) ?_
              refine lv_bipush (v := (-5)) hx hb dX11_row_78 (by decide) ?_
              replace h := b1_some h
              obtain ⟨q32, gq32, h⟩ := h
              replace h := b2_some h
              obtain ⟨x33, s34, gs34, h⟩ := h
              refine z_callVi (rest := []) X hW hS (cX11_refuse_met gs34) kb_X11_refuse kv_X11_refuse kl_X11_170 (it_v gq32).1 kX11 rfl rfl ⟨Nat.le_of_ble_eq_true rfl, Nat.le_of_ble_eq_true rfl⟩ rfl rfl (by decide) hl.1 dX11_row_80 ⟨(by decide), (by decide)⟩ (fun H locs hW hS => ?_)
              exact z_eti X hlk hr hW hS h (by decide) (by decide) dX11_row_83
          · replace h := it_f h c17
            refine lv_aload_n hx hb dX11_row_62 rfl (lv_at hl 0 rfl) ?_
            refine lv_bipush (v := (-4)) hx hb dX11_row_63 (by decide) ?_
            replace h := b1_some h
            obtain ⟨q35, gq35, h⟩ := h
            replace h := b2_some h
            obtain ⟨x36, s37, gs37, h⟩ := h
            refine z_callVi (rest := []) X hW hS (cX11_refuse_met gs37) kb_X11_refuse kv_X11_refuse kl_X11_170 (it_v gq35).1 kX11 rfl rfl ⟨Nat.le_of_ble_eq_true rfl, Nat.le_of_ble_eq_true rfl⟩ rfl rfl (by decide) hl.1 dX11_row_65 ⟨(by decide), (by decide)⟩ (fun H locs hW hS => ?_)
            exact z_eti X hlk hr hW hS h (by decide) (by decide) dX11_row_68
        · replace h := it_t h c16
          refine lv_aload_n hx hb dX11_row_50 rfl (lv_at hl 0 rfl) ?_
          refine lv_bipush (v := (-3)) hx hb dX11_row_51 (by decide) ?_
          replace h := b1_some h
          obtain ⟨q38, gq38, h⟩ := h
          replace h := b2_some h
          obtain ⟨x39, s40, gs40, h⟩ := h
          refine z_callVi (rest := []) X hW hS (cX11_refuse_met gs40) kb_X11_refuse kv_X11_refuse kl_X11_170 (it_v gq38).1 kX11 rfl rfl ⟨Nat.le_of_ble_eq_true rfl, Nat.le_of_ble_eq_true rfl⟩ rfl rfl (by decide) hl.1 dX11_row_53 ⟨(by decide), (by decide)⟩ (fun H locs hW hS => ?_)
          exact z_eti X hlk hr hW hS h (by decide) (by decide) dX11_row_56
      · replace h := it_t h c11
        exact wX11_row_30 X hlk hr o _ _ _ _ (lv_sub hl [0] rfl) hW hS h
  · replace h := it_t h c4
    refine lv_aload_n hx hb dX11_row_8 rfl (lv_at hl 0 rfl) ?_
    refine lv_iconst (v := (-1)) hx hb dX11_row_9 (by decide) ?_
    replace h := b1_some h
    obtain ⟨q41, gq41, h⟩ := h
    replace h := b2_some h
    obtain ⟨x42, s43, gs43, h⟩ := h
    refine z_callVi (rest := []) X hW hS (cX11_refuse_met gs43) kb_X11_refuse kv_X11_refuse kl_X11_170 (it_v gq41).1 kX11 rfl rfl ⟨Nat.le_of_ble_eq_true rfl, Nat.le_of_ble_eq_true rfl⟩ rfl rfl (by decide) hl.1 dX11_row_10 ⟨(by decide), (by decide)⟩ (fun H locs hW hS => ?_)
    exact z_eti X hlk hr hW hS h (by decide) (by decide) dX11_row_13

set_option maxHeartbeats 4000000 in
set_option maxRecDepth 100000 in
theorem cX11_row_met {l : Launch} {A : Nat → Prop} {D : va_G} {cy : Nat → ClassId} {r0 : Int32} {h0 : Hz} {o : Nat} {v1 : Int32} {v2 : Int32} {v3 : Int32} {v4 : Int32} {h : Hz} (g : fX11_row o v1 v2 v3 v4 h = some (r0, h0)) : Met l yX11_row (Cond.code yX11_row cX11_row 7 (some .int) :: wT) ({ frames := 2, cells := 0, slots := 0, locals := 47 } : Room) (va_Pc [.ref o, .int v1, .int v2, .int v3, .int v4] (zS A D cy h)) (va_Qi (fun r1 u => r1 = r0 ∧ u = h0) (zB A D cy) A) 0 0 A := by
  refine Met.ofW (cc := cX11_row) (maxL := 7) (ret := (some .int)) (by decide) rfl ?_
  intro p e s m args below meth c s₁ B hml hv
  obtain ⟨rfl, hW, hK, hN, hA⟩ := hv
  have X : zX A D cy p s m _ c cX11_row RX11 7 := ⟨B.exec, B.bytes, fun w hw => atoms_spec (ws := Cond.code yX11_row cX11_row 7 (some .int) :: wT) B.pre w (List.mem_cons_of_mem _ hw), findClass_of_methodNamed B.named, hK, hml, hN, hA⟩
  have hl := lv_entry [.ref o, .int v1, .int v2, .int v3, .int v4] (n := 7) (Nat.le_of_ble_eq_true rfl)
  rw [lg_entry_eq]
  generalize (lg_sl [.ref o, .int v1, .int v2, .int v3, .int v4] ++ List.replicate (7 - (lg_sl [.ref o, .int v1, .int v2, .int v3, .int v4]).length) Slot.unset).toArray = ls at hl ⊢
  have hl : lv_has ls 7 [(0, .ref o), (1, .int v1), (2, .int v2), (3, .int v3), (4, .int v4)] := hl
  exact wX11_row_0 X B.notSynchronized B.returns o v1 v2 v3 v4 _ _ _ _ (lv_sub hl [0, 1, 2, 3, 4] rfl) hW va_S.rf g

theorem dX11_low_0 : decode cX11_low 0 = .ok (.iload_n 0, 1) := by decide +kernel
theorem dX11_low_1 : decode cX11_low 1 = .ok (.ifCond .ne 10, 3) := by decide +kernel
theorem dX11_low_4 : decode cX11_low 4 = .ok (.lload_n 1, 1) := by decide +kernel
theorem dX11_low_5 : decode cX11_low 5 = .ok (.l2i, 1) := by decide +kernel
theorem dX11_low_6 : decode cX11_low 6 = .ok (.i2b, 1) := by decide +kernel
theorem dX11_low_7 : decode cX11_low 7 = .ok (.i2l, 1) := by decide +kernel
theorem dX11_low_8 : decode cX11_low 8 = .ok (.goto 27, 3) := by decide +kernel
theorem dX11_low_11 : decode cX11_low 11 = .ok (.iload_n 0, 1) := by decide +kernel
theorem dX11_low_12 : decode cX11_low 12 = .ok (.iconst 1, 1) := by decide +kernel
theorem dX11_low_13 : decode cX11_low 13 = .ok (.if_icmp .ne 10, 3) := by decide +kernel
theorem dX11_low_16 : decode cX11_low 16 = .ok (.lload_n 1, 1) := by decide +kernel
theorem dX11_low_17 : decode cX11_low 17 = .ok (.l2i, 1) := by decide +kernel
theorem dX11_low_18 : decode cX11_low 18 = .ok (.i2s, 1) := by decide +kernel
theorem dX11_low_19 : decode cX11_low 19 = .ok (.i2l, 1) := by decide +kernel
theorem dX11_low_20 : decode cX11_low 20 = .ok (.goto 15, 3) := by decide +kernel
theorem dX11_low_23 : decode cX11_low 23 = .ok (.iload_n 0, 1) := by decide +kernel
theorem dX11_low_24 : decode cX11_low 24 = .ok (.iconst 2, 1) := by decide +kernel
theorem dX11_low_25 : decode cX11_low 25 = .ok (.if_icmp .ne 9, 3) := by decide +kernel
theorem dX11_low_28 : decode cX11_low 28 = .ok (.lload_n 1, 1) := by decide +kernel
theorem dX11_low_29 : decode cX11_low 29 = .ok (.l2i, 1) := by decide +kernel
theorem dX11_low_30 : decode cX11_low 30 = .ok (.i2l, 1) := by decide +kernel
theorem dX11_low_31 : decode cX11_low 31 = .ok (.goto 4, 3) := by decide +kernel
theorem dX11_low_34 : decode cX11_low 34 = .ok (.lload_n 1, 1) := by decide +kernel
theorem dX11_low_35 : decode cX11_low 35 = .ok (.lreturn, 1) := by decide +kernel
def fX11_low (v0 : Int32) (v1 : Int64) (h : Hz) : Option (Int64 × Hz) := (if v0 = 0 then some (v1.toInt32.toInt8.toInt32.toInt64, h) else (if v0 = 1 then some (v1.toInt32.toInt16.toInt32.toInt64, h) else (if v0 = 2 then some (v1.toInt32.toInt64, h) else some (v1, h))))
set_option maxHeartbeats 4000000 in
set_option maxRecDepth 100000 in
theorem wX11_low_0 {r0 : Int64} {h0 : Hz} (X : zX A D cy p s m args c cX11_low RX11 3) (hlk : meth.locks = false) (hr : meth.sig.returnType = (some .long)) (v0 : Int32) (v1 : Int64) (h : Hz) (H : Heap) (locs : List Loc) (ls : Array Slot) (hl : lv_has ls 3 [(0, .int v0), (1, .long v1)]) (hW : zW A cy D h H) (hS : va_S A s.heap H locs) (h : fX11_low v0 v1 h = some (r0, h0)) : W p l e ({ frames := 0, cells := 0, slots := 0, locals := 0 } : Room) s m args below meth c H locs 0 0 (MQ below (va_Ql (fun r1 u => r1 = r0 ∧ u = h0) (zB A D cy) A) args s 0 0 A) (F0 m 0 ls []) := by
  obtain ⟨hx, hb, hts, hown, hK9, hml, hN9, hA9⟩ := id X
  unfold fX11_low at h
  refine lv_iload_n hx hb dX11_low_0 rfl (lv_at hl 0 rfl) ?_
  refine lv_if_ne (tgt := 11) hx hb dX11_low_1 (by decide) (fun c1 => ?_) (fun c1 => ?_)
  · replace h := it_f h c1
    refine lv_iload_n hx hb dX11_low_11 rfl (lv_at hl 0 rfl) ?_
    refine lv_iconst (v := 1) hx hb dX11_low_12 (by decide) ?_
    refine lv_icmp_ne (tgt := 23) hx hb dX11_low_13 (by decide) (fun c2 => ?_) (fun c2 => ?_)
    · replace h := it_f h c2
      refine lv_iload_n hx hb dX11_low_23 rfl (lv_at hl 0 rfl) ?_
      refine lv_iconst (v := 2) hx hb dX11_low_24 (by decide) ?_
      refine lv_icmp_ne (tgt := 34) hx hb dX11_low_25 (by decide) (fun c3 => ?_) (fun c3 => ?_)
      · replace h := it_f h c3
        refine lv_lload_n hx hb dX11_low_34 rfl (lv_at hl 1 rfl) ?_
        exact z_etl X hlk hr hW hS h (by decide) (by decide) dX11_low_35
      · replace h := it_t h c3
        refine lv_lload_n hx hb dX11_low_28 rfl (lv_at hl 1 rfl) ?_
        refine lv_l2i (v := v1.toInt32) hx hb dX11_low_29 rfl ?_
        refine lv_i2l (v := v1.toInt32.toInt64) hx hb dX11_low_30 rfl ?_
        refine lv_goto (tgt := 35) hx hb dX11_low_31 (by decide) ?_
        exact z_etl X hlk hr hW hS h (by decide) (by decide) dX11_low_35
    · replace h := it_t h c2
      refine lv_lload_n hx hb dX11_low_16 rfl (lv_at hl 1 rfl) ?_
      refine lv_l2i (v := v1.toInt32) hx hb dX11_low_17 rfl ?_
      refine lv_i2s (v := v1.toInt32.toInt16.toInt32) hx hb dX11_low_18 rfl ?_
      refine lv_i2l (v := v1.toInt32.toInt16.toInt32.toInt64) hx hb dX11_low_19 rfl ?_
      refine lv_goto (tgt := 35) hx hb dX11_low_20 (by decide) ?_
      exact z_etl X hlk hr hW hS h (by decide) (by decide) dX11_low_35
  · replace h := it_t h c1
    refine lv_lload_n hx hb dX11_low_4 rfl (lv_at hl 1 rfl) ?_
    refine lv_l2i (v := v1.toInt32) hx hb dX11_low_5 rfl ?_
    refine lv_i2b (v := v1.toInt32.toInt8.toInt32) hx hb dX11_low_6 rfl ?_
    refine lv_i2l (v := v1.toInt32.toInt8.toInt32.toInt64) hx hb dX11_low_7 rfl ?_
    refine lv_goto (tgt := 35) hx hb dX11_low_8 (by decide) ?_
    exact z_etl X hlk hr hW hS h (by decide) (by decide) dX11_low_35

set_option maxHeartbeats 4000000 in
set_option maxRecDepth 100000 in
theorem cX11_low_met {l : Launch} {A : Nat → Prop} {D : va_G} {cy : Nat → ClassId} {r0 : Int64} {h0 : Hz} {v0 : Int32} {v1 : Int64} {h : Hz} (g : fX11_low v0 v1 h = some (r0, h0)) : Met l yX11_low (Cond.code yX11_low cX11_low 3 (some .long) :: wT) ({ frames := 0, cells := 0, slots := 0, locals := 0 } : Room) (va_Pc [.int v0, .long v1] (zS A D cy h)) (va_Ql (fun r1 u => r1 = r0 ∧ u = h0) (zB A D cy) A) 0 0 A := by
  refine Met.ofW (cc := cX11_low) (maxL := 3) (ret := (some .long)) (by decide) rfl ?_
  intro p e s m args below meth c s₁ B hml hv
  obtain ⟨rfl, hW, hK, hN, hA⟩ := hv
  have X : zX A D cy p s m _ c cX11_low RX11 3 := ⟨B.exec, B.bytes, fun w hw => atoms_spec (ws := Cond.code yX11_low cX11_low 3 (some .long) :: wT) B.pre w (List.mem_cons_of_mem _ hw), findClass_of_methodNamed B.named, hK, hml, hN, hA⟩
  have hl := lv_entry [.int v0, .long v1] (n := 3) (Nat.le_of_ble_eq_true rfl)
  rw [lg_entry_eq]
  generalize (lg_sl [.int v0, .long v1] ++ List.replicate (3 - (lg_sl [.int v0, .long v1]).length) Slot.unset).toArray = ls at hl ⊢
  have hl : lv_has ls 3 [(0, .int v0), (1, .long v1)] := hl
  exact wX11_low_0 X B.notSynchronized B.returns v0 v1 _ _ _ _ (lv_sub hl [0, 1] rfl) hW va_S.rf g

theorem dX11_set_0 : decode cX11_set 0 = .ok (.aload_n 0, 1) := by decide +kernel
theorem dX11_set_1 : decode cX11_set 1 = .ok (.iload_n 1, 1) := by decide +kernel
theorem dX11_set_2 : decode cX11_set 2 = .ok (.invokevirtual 178, 3) := by decide +kernel
theorem dX11_set_5 : decode cX11_set 5 = .ok (.ifCond .ne 9, 3) := by decide +kernel
theorem dX11_set_8 : decode cX11_set 8 = .ok (.aload_n 0, 1) := by decide +kernel
theorem dX11_set_9 : decode cX11_set 9 = .ok (.iconst (-1), 1) := by decide +kernel
theorem dX11_set_10 : decode cX11_set 10 = .ok (.invokevirtual 170, 3) := by decide +kernel
theorem dX11_set_13 : decode cX11_set 13 = .ok (.ireturn, 1) := by decide +kernel
theorem dX11_set_14 : decode cX11_set 14 = .ok (.aload_n 0, 1) := by decide +kernel
theorem dX11_set_15 : decode cX11_set 15 = .ok (.iload_n 1, 1) := by decide +kernel
theorem dX11_set_16 : decode cX11_set 16 = .ok (.invokevirtual 181, 3) := by decide +kernel
theorem dX11_set_19 : decode cX11_set 19 = .ok (.ifCond .eq 31, 3) := by decide +kernel
theorem dX11_set_22 : decode cX11_set 22 = .ok (.iload_n 2, 1) := by decide +kernel
theorem dX11_set_23 : decode cX11_set 23 = .ok (.aload_n 0, 1) := by decide +kernel
theorem dX11_set_24 : decode cX11_set 24 = .ok (.getfield 19, 3) := by decide +kernel
theorem dX11_set_27 : decode cX11_set 27 = .ok (.iload_n 1, 1) := by decide +kernel
theorem dX11_set_28 : decode cX11_set 28 = .ok (.iaload, 1) := by decide +kernel
theorem dX11_set_29 : decode cX11_set 29 = .ok (.invokestatic 149, 3) := by decide +kernel
theorem dX11_set_32 : decode cX11_set 32 = .ok (.ifCond .eq 25, 3) := by decide +kernel
theorem dX11_set_35 : decode cX11_set 35 = .ok (.aload_n 0, 1) := by decide +kernel
theorem dX11_set_36 : decode cX11_set 36 = .ok (.getfield 38, 3) := by decide +kernel
theorem dX11_set_39 : decode cX11_set 39 = .ok (.bipush 8, 2) := by decide +kernel
theorem dX11_set_41 : decode cX11_set 41 = .ok (.iload_n 1, 1) := by decide +kernel
theorem dX11_set_42 : decode cX11_set 42 = .ok (.imul, 1) := by decide +kernel
theorem dX11_set_43 : decode cX11_set 43 = .ok (.iload_n 2, 1) := by decide +kernel
theorem dX11_set_44 : decode cX11_set 44 = .ok (.iadd, 1) := by decide +kernel
theorem dX11_set_45 : decode cX11_set 45 = .ok (.iaload, 1) := by decide +kernel
theorem dX11_set_46 : decode cX11_set 46 = .ok (.iconst 1, 1) := by decide +kernel
theorem dX11_set_47 : decode cX11_set 47 = .ok (.if_icmp .ne 10, 3) := by decide +kernel
theorem dX11_set_50 : decode cX11_set 50 = .ok (.aload_n 0, 1) := by decide +kernel
theorem dX11_set_51 : decode cX11_set 51 = .ok (.bipush (-2), 2) := by decide +kernel
theorem dX11_set_53 : decode cX11_set 53 = .ok (.invokevirtual 170, 3) := by decide +kernel
theorem dX11_set_56 : decode cX11_set 56 = .ok (.ireturn, 1) := by decide +kernel
theorem dX11_set_57 : decode cX11_set 57 = .ok (.iload_n 2, 1) := by decide +kernel
theorem dX11_set_58 : decode cX11_set 58 = .ok (.aload_n 0, 1) := by decide +kernel
theorem dX11_set_59 : decode cX11_set 59 = .ok (.getfield 19, 3) := by decide +kernel
theorem dX11_set_62 : decode cX11_set 62 = .ok (.iload_n 1, 1) := by decide +kernel
theorem dX11_set_63 : decode cX11_set 63 = .ok (.iaload, 1) := by decide +kernel
theorem dX11_set_64 : decode cX11_set 64 = .ok (.invokestatic 149, 3) := by decide +kernel
theorem dX11_set_67 : decode cX11_set 67 = .ok (.ifCond .ne 10, 3) := by decide +kernel
theorem dX11_set_70 : decode cX11_set 70 = .ok (.aload_n 0, 1) := by decide +kernel
theorem dX11_set_71 : decode cX11_set 71 = .ok (.bipush (-3), 2) := by decide +kernel
theorem dX11_set_73 : decode cX11_set 73 = .ok (.invokevirtual 170, 3) := by decide +kernel
theorem dX11_set_76 : decode cX11_set 76 = .ok (.ireturn, 1) := by decide +kernel
theorem dX11_set_77 : decode cX11_set 77 = .ok (.bipush 8, 2) := by decide +kernel
theorem dX11_set_79 : decode cX11_set 79 = .ok (.iload_n 1, 1) := by decide +kernel
theorem dX11_set_80 : decode cX11_set 80 = .ok (.imul, 1) := by decide +kernel
theorem dX11_set_81 : decode cX11_set 81 = .ok (.iload_n 2, 1) := by decide +kernel
theorem dX11_set_82 : decode cX11_set 82 = .ok (.iadd, 1) := by decide +kernel
theorem dX11_set_83 : decode cX11_set 83 = .ok (.istore 6, 2) := by decide +kernel
theorem dX11_set_85 : decode cX11_set 85 = .ok (.aload_n 0, 1) := by decide +kernel
theorem dX11_set_86 : decode cX11_set 86 = .ok (.getfield 38, 3) := by decide +kernel
theorem dX11_set_89 : decode cX11_set 89 = .ok (.iload 6, 2) := by decide +kernel
theorem dX11_set_91 : decode cX11_set 91 = .ok (.iaload, 1) := by decide +kernel
theorem dX11_set_92 : decode cX11_set 92 = .ok (.iconst 2, 1) := by decide +kernel
theorem dX11_set_93 : decode cX11_set 93 = .ok (.if_icmp .ne 24, 3) := by decide +kernel
theorem dX11_set_96 : decode cX11_set 96 = .ok (.iload_n 3, 1) := by decide +kernel
theorem dX11_set_97 : decode cX11_set 97 = .ok (.aload_n 0, 1) := by decide +kernel
theorem dX11_set_98 : decode cX11_set 98 = .ok (.getfield 44, 3) := by decide +kernel
theorem dX11_set_101 : decode cX11_set 101 = .ok (.iload 6, 2) := by decide +kernel
theorem dX11_set_103 : decode cX11_set 103 = .ok (.iaload, 1) := by decide +kernel
theorem dX11_set_104 : decode cX11_set 104 = .ok (.invokestatic 149, 3) := by decide +kernel
theorem dX11_set_107 : decode cX11_set 107 = .ok (.ifCond .ne 10, 3) := by decide +kernel
theorem dX11_set_110 : decode cX11_set 110 = .ok (.aload_n 0, 1) := by decide +kernel
theorem dX11_set_111 : decode cX11_set 111 = .ok (.bipush (-3), 2) := by decide +kernel
theorem dX11_set_113 : decode cX11_set 113 = .ok (.invokevirtual 170, 3) := by decide +kernel
theorem dX11_set_116 : decode cX11_set 116 = .ok (.ireturn, 1) := by decide +kernel
theorem dX11_set_117 : decode cX11_set 117 = .ok (.aload_n 0, 1) := by decide +kernel
theorem dX11_set_118 : decode cX11_set 118 = .ok (.iload_n 1, 1) := by decide +kernel
theorem dX11_set_119 : decode cX11_set 119 = .ok (.invokevirtual 167, 3) := by decide +kernel
theorem dX11_set_122 : decode cX11_set 122 = .ok (.ifCond .ne 10, 3) := by decide +kernel
theorem dX11_set_125 : decode cX11_set 125 = .ok (.aload_n 0, 1) := by decide +kernel
theorem dX11_set_126 : decode cX11_set 126 = .ok (.bipush (-5), 2) := by decide +kernel
theorem dX11_set_128 : decode cX11_set 128 = .ok (.invokevirtual 170, 3) := by decide +kernel
theorem dX11_set_131 : decode cX11_set 131 = .ok (.ireturn, 1) := by decide +kernel
theorem dX11_set_132 : decode cX11_set 132 = .ok (.aload_n 0, 1) := by decide +kernel
theorem dX11_set_133 : decode cX11_set 133 = .ok (.getfield 38, 3) := by decide +kernel
theorem dX11_set_136 : decode cX11_set 136 = .ok (.iload 6, 2) := by decide +kernel
theorem dX11_set_138 : decode cX11_set 138 = .ok (.iaload, 1) := by decide +kernel
theorem dX11_set_139 : decode cX11_set 139 = .ok (.ifCond .ne 10, 3) := by decide +kernel
theorem dX11_set_142 : decode cX11_set 142 = .ok (.aload_n 0, 1) := by decide +kernel
theorem dX11_set_143 : decode cX11_set 143 = .ok (.bipush (-7), 2) := by decide +kernel
theorem dX11_set_145 : decode cX11_set 145 = .ok (.invokevirtual 170, 3) := by decide +kernel
theorem dX11_set_148 : decode cX11_set 148 = .ok (.ireturn, 1) := by decide +kernel
theorem dX11_set_149 : decode cX11_set 149 = .ok (.aload_n 0, 1) := by decide +kernel
theorem dX11_set_150 : decode cX11_set 150 = .ok (.getfield 48, 3) := by decide +kernel
theorem dX11_set_153 : decode cX11_set 153 = .ok (.bipush 32, 2) := by decide +kernel
theorem dX11_set_155 : decode cX11_set 155 = .ok (.iload 6, 2) := by decide +kernel
theorem dX11_set_157 : decode cX11_set 157 = .ok (.imul, 1) := by decide +kernel
theorem dX11_set_158 : decode cX11_set 158 = .ok (.iload_n 3, 1) := by decide +kernel
theorem dX11_set_159 : decode cX11_set 159 = .ok (.iadd, 1) := by decide +kernel
theorem dX11_set_160 : decode cX11_set 160 = .ok (.aload_n 0, 1) := by decide +kernel
theorem dX11_set_161 : decode cX11_set 161 = .ok (.getfield 41, 3) := by decide +kernel
theorem dX11_set_164 : decode cX11_set 164 = .ok (.iload 6, 2) := by decide +kernel
theorem dX11_set_166 : decode cX11_set 166 = .ok (.iaload, 1) := by decide +kernel
theorem dX11_set_167 : decode cX11_set 167 = .ok (.lload 4, 2) := by decide +kernel
theorem dX11_set_169 : decode cX11_set 169 = .ok (.invokestatic 192, 3) := by decide +kernel
theorem dX11_set_172 : decode cX11_set 172 = .ok (.lastore, 1) := by decide +kernel
theorem dX11_set_173 : decode cX11_set 173 = .ok (.aload_n 0, 1) := by decide +kernel
theorem dX11_set_174 : decode cX11_set 174 = .ok (.getfield 91, 3) := by decide +kernel
theorem dX11_set_177 : decode cX11_set 177 = .ok (.aload_n 0, 1) := by decide +kernel
theorem dX11_set_178 : decode cX11_set 178 = .ok (.getfield 13, 3) := by decide +kernel
theorem dX11_set_181 : decode cX11_set 181 = .ok (.iload_n 1, 1) := by decide +kernel
theorem dX11_set_182 : decode cX11_set 182 = .ok (.iaload, 1) := by decide +kernel
theorem dX11_set_183 : decode cX11_set 183 = .ok (.dup2, 1) := by decide +kernel
theorem dX11_set_184 : decode cX11_set 184 = .ok (.iaload, 1) := by decide +kernel
theorem dX11_set_185 : decode cX11_set 185 = .ok (.iconst 1, 1) := by decide +kernel
theorem dX11_set_186 : decode cX11_set 186 = .ok (.iadd, 1) := by decide +kernel
theorem dX11_set_187 : decode cX11_set 187 = .ok (.iastore, 1) := by decide +kernel
theorem dX11_set_188 : decode cX11_set 188 = .ok (.iconst 1, 1) := by decide +kernel
theorem dX11_set_189 : decode cX11_set 189 = .ok (.ireturn, 1) := by decide +kernel
def fX11_set_50 (o : Nat) (h : Hz) : Option (Int32 × Hz) := (b1 (tg 11 o h) fun _ => (b2 (fX11_refuse o (-2) h) fun x2 s3 => some (x2, s3)))
set_option maxHeartbeats 4000000 in
set_option maxRecDepth 100000 in
theorem wX11_set_50 {r0 : Int32} {h0 : Hz} (X : zX A D cy p s m args c cX11_set RX11 7) (hlk : meth.locks = false) (hr : meth.sig.returnType = (some .int)) (o : Nat) (h : Hz) (H : Heap) (locs : List Loc) (ls : Array Slot) (hl : lv_has ls 7 [(0, .ref o)]) (hW : zW A cy D h H) (hS : va_S A s.heap H locs) (h : fX11_set_50 o h = some (r0, h0)) : W p l e ({ frames := 2, cells := 0, slots := 0, locals := 47 } : Room) s m args below meth c H locs 0 0 (MQ below (va_Qi (fun r1 u => r1 = r0 ∧ u = h0) (zB A D cy) A) args s 0 0 A) (F0 m 50 ls []) := by
  obtain ⟨hx, hb, hts, hown, hK9, hml, hN9, hA9⟩ := id X
  unfold fX11_set_50 at h
  refine lv_aload_n hx hb dX11_set_50 rfl (lv_at hl 0 rfl) ?_
  refine lv_bipush (v := (-2)) hx hb dX11_set_51 (by decide) ?_
  replace h := b1_some h
  obtain ⟨q1, gq1, h⟩ := h
  replace h := b2_some h
  obtain ⟨x2, s3, gs3, h⟩ := h
  refine z_callVi (rest := []) X hW hS (cX11_refuse_met gs3) kb_X11_refuse kv_X11_refuse kl_X11_170 (it_v gq1).1 kX11 rfl rfl ⟨Nat.le_of_ble_eq_true rfl, Nat.le_of_ble_eq_true rfl⟩ rfl rfl (by decide) hl.1 dX11_set_53 ⟨(by decide), (by decide)⟩ (fun H locs hW hS => ?_)
  exact z_eti X hlk hr hW hS h (by decide) (by decide) dX11_set_56

def fX11_set_117 (o : Nat) (v1 : Int32) (v3 : Int32) (v4 : Int64) (v6 : Int32) (h : Hz) : Option (Int32 × Hz) := (b1 (tg 11 o h) fun _ => (b2 (fX11_isNear o v1 h) fun x2 s3 => (if x2 = 0 then (b1 (tg 11 o s3) fun _ => (b2 (fX11_refuse o (-5) s3) fun x23 s24 => some (x23, s24))) else (b1 (gA 11 10 o s3) fun a5 => (b1 (xI 12 a5 v6 s3) fun x6 => (if x6 = 0 then (b1 (tg 11 o s3) fun _ => (b2 (fX11_refuse o (-7) s3) fun x20 s21 => some (x20, s21))) else (b1 (gA 11 13 o s3) fun a8 => (b1 (gA 11 11 o s3) fun a9 => (b1 (xI 12 a9 v6 s3) fun x10 => (b2 (fX11_low x10 v4 s3) fun x11 s12 => (b1 (yL a8 ((32 * v6) + v3) x11 s12) fun s13 => (b1 (gA 11 30 o s13) fun a14 => (b1 (gA 11 1 o s13) fun a15 => (b1 (xI 12 a15 v1 s13) fun x16 => (b1 (xI 12 a14 x16 s13) fun x17 => (b1 (yI a14 x16 (x17 + 1) s13) fun s18 => some (1, s18)))))))))))))))))
set_option maxHeartbeats 4000000 in
set_option maxRecDepth 100000 in
theorem wX11_set_117 {r0 : Int32} {h0 : Hz} (X : zX A D cy p s m args c cX11_set RX11 7) (hlk : meth.locks = false) (hr : meth.sig.returnType = (some .int)) (o : Nat) (v1 : Int32) (v3 : Int32) (v4 : Int64) (v6 : Int32) (h : Hz) (H : Heap) (locs : List Loc) (ls : Array Slot) (hl : lv_has ls 7 [(0, .ref o), (1, .int v1), (3, .int v3), (4, .long v4), (6, .int v6)]) (hW : zW A cy D h H) (hS : va_S A s.heap H locs) (h : fX11_set_117 o v1 v3 v4 v6 h = some (r0, h0)) : W p l e ({ frames := 2, cells := 0, slots := 0, locals := 47 } : Room) s m args below meth c H locs 0 0 (MQ below (va_Qi (fun r1 u => r1 = r0 ∧ u = h0) (zB A D cy) A) args s 0 0 A) (F0 m 117 ls []) := by
  obtain ⟨hx, hb, hts, hown, hK9, hml, hN9, hA9⟩ := id X
  unfold fX11_set_117 at h
  refine lv_aload_n hx hb dX11_set_117 rfl (lv_at hl 0 rfl) ?_
  refine lv_iload_n hx hb dX11_set_118 rfl (lv_at hl 1 rfl) ?_
  replace h := b1_some h
  obtain ⟨q1, gq1, h⟩ := h
  replace h := b2_some h
  obtain ⟨x2, s3, gs3, h⟩ := h
  refine z_callVi (rest := []) X hW hS (cX11_isNear_met gs3) kb_X11_isNear kv_X11_isNear kl_X11_167 (it_v gq1).1 kX11 rfl rfl ⟨Nat.le_of_ble_eq_true rfl, Nat.le_of_ble_eq_true rfl⟩ rfl rfl (by decide) hl.1 dX11_set_119 ⟨(by decide), (by decide)⟩ (fun H locs hW hS => ?_)
  refine lv_if_ne (tgt := 132) hx hb dX11_set_122 (by decide) (fun c4 => ?_) (fun c4 => ?_)
  · replace h := it_f h c4
    refine lv_aload_n hx hb dX11_set_132 rfl (lv_at hl 0 rfl) ?_
    replace h := b1_some h
    obtain ⟨a5, ga5, h⟩ := h
    refine z_getA X hW ga5 kX11 (by decide) (by decide) kf_X11_38 dX11_set_133 ?_
    refine lv_iload hx hb dX11_set_136 (lv_at hl 4 rfl) ?_
    replace h := b1_some h
    obtain ⟨x6, gx6, h⟩ := h
    refine z_aldI X hW gx6 dX11_set_138 ?_
    refine lv_if_ne (tgt := 149) hx hb dX11_set_139 (by decide) (fun c7 => ?_) (fun c7 => ?_)
    · replace h := it_f h c7
      refine lv_aload_n hx hb dX11_set_149 rfl (lv_at hl 0 rfl) ?_
      replace h := b1_some h
      obtain ⟨a8, ga8, h⟩ := h
      refine z_getA X hW ga8 kX11 (by decide) (by decide) kf_X11_48 dX11_set_150 ?_
      refine lv_bipush (v := 32) hx hb dX11_set_153 (by decide) ?_
      refine lv_iload hx hb dX11_set_155 (lv_at hl 4 rfl) ?_
      refine lv_imul hx hb dX11_set_157 ?_
      refine lv_iload_n hx hb dX11_set_158 rfl (lv_at hl 2 rfl) ?_
      refine lv_iadd hx hb dX11_set_159 ?_
      refine lv_aload_n hx hb dX11_set_160 rfl (lv_at hl 0 rfl) ?_
      replace h := b1_some h
      obtain ⟨a9, ga9, h⟩ := h
      refine z_getA X hW ga9 kX11 (by decide) (by decide) kf_X11_41 dX11_set_161 ?_
      refine lv_iload hx hb dX11_set_164 (lv_at hl 4 rfl) ?_
      replace h := b1_some h
      obtain ⟨x10, gx10, h⟩ := h
      refine z_aldI X hW gx10 dX11_set_166 ?_
      refine lv_lload hx hb dX11_set_167 (lv_at hl 3 rfl) ?_
      replace h := b2_some h
      obtain ⟨x11, s12, gs12, h⟩ := h
      refine z_callSl (rest := [.int ((32 * v6) + v3), .ref a8]) X hW hS (cX11_low_met gs12) kb_X11_low ks_X11_low kl_X11_192 rfl rfl ⟨Nat.le_of_ble_eq_true rfl, Nat.le_of_ble_eq_true rfl⟩ rfl rfl (Nat.le_of_ble_eq_true rfl) hl.1 dX11_set_169 ⟨(by decide), (by decide)⟩ (fun H locs hW hS => ?_)
      replace h := b1_some h
      obtain ⟨s13, gs13, h⟩ := h
      refine z_astL X hW hS gs13 dX11_set_172 (fun H locs hW hS => ?_)
      refine lv_aload_n hx hb dX11_set_173 rfl (lv_at hl 0 rfl) ?_
      replace h := b1_some h
      obtain ⟨a14, ga14, h⟩ := h
      refine z_getA X hW ga14 kX11 (by decide) (by decide) kf_X11_91 dX11_set_174 ?_
      refine lv_aload_n hx hb dX11_set_177 rfl (lv_at hl 0 rfl) ?_
      replace h := b1_some h
      obtain ⟨a15, ga15, h⟩ := h
      refine z_getA X hW ga15 kX11 (by decide) (by decide) kf_X11_13 dX11_set_178 ?_
      refine lv_iload_n hx hb dX11_set_181 rfl (lv_at hl 1 rfl) ?_
      replace h := b1_some h
      obtain ⟨x16, gx16, h⟩ := h
      refine z_aldI X hW gx16 dX11_set_182 ?_
      refine lv_dup2_11 hx hb dX11_set_183 rfl rfl ?_
      replace h := b1_some h
      obtain ⟨x17, gx17, h⟩ := h
      refine z_aldI X hW gx17 dX11_set_184 ?_
      refine lv_iconst (v := 1) hx hb dX11_set_185 (by decide) ?_
      refine lv_iadd hx hb dX11_set_186 ?_
      replace h := b1_some h
      obtain ⟨s18, gs18, h⟩ := h
      refine z_astI X hW hS gs18 dX11_set_187 (fun H locs hW hS => ?_)
      refine lv_iconst (v := 1) hx hb dX11_set_188 (by decide) ?_
      exact z_eti X hlk hr hW hS h (by decide) (by decide) dX11_set_189
    · replace h := it_t h c7
      refine lv_aload_n hx hb dX11_set_142 rfl (lv_at hl 0 rfl) ?_
      refine lv_bipush (v := (-7)) hx hb dX11_set_143 (by decide) ?_
      replace h := b1_some h
      obtain ⟨q19, gq19, h⟩ := h
      replace h := b2_some h
      obtain ⟨x20, s21, gs21, h⟩ := h
      refine z_callVi (rest := []) X hW hS (cX11_refuse_met gs21) kb_X11_refuse kv_X11_refuse kl_X11_170 (it_v gq19).1 kX11 rfl rfl ⟨Nat.le_of_ble_eq_true rfl, Nat.le_of_ble_eq_true rfl⟩ rfl rfl (by decide) hl.1 dX11_set_145 ⟨(by decide), (by decide)⟩ (fun H locs hW hS => ?_)
      exact z_eti X hlk hr hW hS h (by decide) (by decide) dX11_set_148
  · replace h := it_t h c4
    refine lv_aload_n hx hb dX11_set_125 rfl (lv_at hl 0 rfl) ?_
    refine lv_bipush (v := (-5)) hx hb dX11_set_126 (by decide) ?_
    replace h := b1_some h
    obtain ⟨q22, gq22, h⟩ := h
    replace h := b2_some h
    obtain ⟨x23, s24, gs24, h⟩ := h
    refine z_callVi (rest := []) X hW hS (cX11_refuse_met gs24) kb_X11_refuse kv_X11_refuse kl_X11_170 (it_v gq22).1 kX11 rfl rfl ⟨Nat.le_of_ble_eq_true rfl, Nat.le_of_ble_eq_true rfl⟩ rfl rfl (by decide) hl.1 dX11_set_128 ⟨(by decide), (by decide)⟩ (fun H locs hW hS => ?_)
    exact z_eti X hlk hr hW hS h (by decide) (by decide) dX11_set_131

def fX11_set_57 (o : Nat) (v1 : Int32) (v2 : Int32) (v3 : Int32) (v4 : Int64) (h : Hz) : Option (Int32 × Hz) := (b1 (gA 11 3 o h) fun a1 => (b1 (xI 12 a1 v1 h) fun x2 => (b2 (fX11_isIn v2 x2 h) fun x3 s4 => (if x3 = 0 then (b1 (tg 11 o s4) fun _ => (b2 (fX11_refuse o (-3) s4) fun x18 s19 => some (x18, s19))) else (b1 (gA 11 10 o s4) fun a6 => (b1 (xI 12 a6 ((8 * v1) + v2) s4) fun x7 => (if x7 = 2 then (b1 (gA 11 12 o s4) fun a9 => (b1 (xI 12 a9 ((8 * v1) + v2) s4) fun x10 => (b2 (fX11_isIn v3 x10 s4) fun x11 s12 => (if x11 = 0 then (b1 (tg 11 o s12) fun _ => (b2 (fX11_refuse o (-3) s12) fun x15 s16 => some (x15, s16))) else fX11_set_117 o v1 v3 v4 ((8 * v1) + v2) s12)))) else fX11_set_117 o v1 v3 v4 ((8 * v1) + v2) s4)))))))
set_option maxHeartbeats 4000000 in
set_option maxRecDepth 100000 in
theorem wX11_set_57 {r0 : Int32} {h0 : Hz} (X : zX A D cy p s m args c cX11_set RX11 7) (hlk : meth.locks = false) (hr : meth.sig.returnType = (some .int)) (o : Nat) (v1 : Int32) (v2 : Int32) (v3 : Int32) (v4 : Int64) (h : Hz) (H : Heap) (locs : List Loc) (ls : Array Slot) (hl : lv_has ls 7 [(0, .ref o), (1, .int v1), (2, .int v2), (3, .int v3), (4, .long v4)]) (hW : zW A cy D h H) (hS : va_S A s.heap H locs) (h : fX11_set_57 o v1 v2 v3 v4 h = some (r0, h0)) : W p l e ({ frames := 2, cells := 0, slots := 0, locals := 47 } : Room) s m args below meth c H locs 0 0 (MQ below (va_Qi (fun r1 u => r1 = r0 ∧ u = h0) (zB A D cy) A) args s 0 0 A) (F0 m 57 ls []) := by
  obtain ⟨hx, hb, hts, hown, hK9, hml, hN9, hA9⟩ := id X
  unfold fX11_set_57 at h
  refine lv_iload_n hx hb dX11_set_57 rfl (lv_at hl 2 rfl) ?_
  refine lv_aload_n hx hb dX11_set_58 rfl (lv_at hl 0 rfl) ?_
  replace h := b1_some h
  obtain ⟨a1, ga1, h⟩ := h
  refine z_getA X hW ga1 kX11 (by decide) (by decide) kf_X11_19 dX11_set_59 ?_
  refine lv_iload_n hx hb dX11_set_62 rfl (lv_at hl 1 rfl) ?_
  replace h := b1_some h
  obtain ⟨x2, gx2, h⟩ := h
  refine z_aldI X hW gx2 dX11_set_63 ?_
  replace h := b2_some h
  obtain ⟨x3, s4, gs4, h⟩ := h
  refine z_callSi (rest := []) X hW hS (cX11_isIn_met gs4) kb_X11_isIn ks_X11_isIn kl_X11_149 rfl rfl ⟨Nat.le_of_ble_eq_true rfl, Nat.le_of_ble_eq_true rfl⟩ rfl rfl (by decide) hl.1 dX11_set_64 ⟨(by decide), (by decide)⟩ (fun H locs hW hS => ?_)
  refine lv_if_ne (tgt := 77) hx hb dX11_set_67 (by decide) (fun c5 => ?_) (fun c5 => ?_)
  · replace h := it_f h c5
    refine lv_bipush (v := 8) hx hb dX11_set_77 (by decide) ?_
    refine lv_iload_n hx hb dX11_set_79 rfl (lv_at hl 1 rfl) ?_
    refine lv_imul hx hb dX11_set_80 ?_
    refine lv_iload_n hx hb dX11_set_81 rfl (lv_at hl 2 rfl) ?_
    refine lv_iadd hx hb dX11_set_82 ?_
    refine lv_istore (lv' := [(6, .int ((8 * v1) + v2)), (0, .ref o), (1, .int v1), (2, .int v2), (3, .int v3), (4, .long v4)]) hx hb dX11_set_83 hl (by decide) rfl (fun ls hl => ?_)
    refine lv_aload_n hx hb dX11_set_85 rfl (lv_at hl 1 rfl) ?_
    replace h := b1_some h
    obtain ⟨a6, ga6, h⟩ := h
    refine z_getA X hW ga6 kX11 (by decide) (by decide) kf_X11_38 dX11_set_86 ?_
    refine lv_iload hx hb dX11_set_89 (lv_at hl 0 rfl) ?_
    replace h := b1_some h
    obtain ⟨x7, gx7, h⟩ := h
    refine z_aldI X hW gx7 dX11_set_91 ?_
    refine lv_iconst (v := 2) hx hb dX11_set_92 (by decide) ?_
    refine lv_icmp_ne (tgt := 117) hx hb dX11_set_93 (by decide) (fun c8 => ?_) (fun c8 => ?_)
    · replace h := it_f h c8
      exact wX11_set_117 X hlk hr o v1 v3 v4 ((8 * v1) + v2) _ _ _ _ (lv_sub hl [1, 2, 4, 5, 0] rfl) hW hS h
    · replace h := it_t h c8
      refine lv_iload_n hx hb dX11_set_96 rfl (lv_at hl 4 rfl) ?_
      refine lv_aload_n hx hb dX11_set_97 rfl (lv_at hl 1 rfl) ?_
      replace h := b1_some h
      obtain ⟨a9, ga9, h⟩ := h
      refine z_getA X hW ga9 kX11 (by decide) (by decide) kf_X11_44 dX11_set_98 ?_
      refine lv_iload hx hb dX11_set_101 (lv_at hl 0 rfl) ?_
      replace h := b1_some h
      obtain ⟨x10, gx10, h⟩ := h
      refine z_aldI X hW gx10 dX11_set_103 ?_
      replace h := b2_some h
      obtain ⟨x11, s12, gs12, h⟩ := h
      refine z_callSi (rest := []) X hW hS (cX11_isIn_met gs12) kb_X11_isIn ks_X11_isIn kl_X11_149 rfl rfl ⟨Nat.le_of_ble_eq_true rfl, Nat.le_of_ble_eq_true rfl⟩ rfl rfl (by decide) hl.1 dX11_set_104 ⟨(by decide), (by decide)⟩ (fun H locs hW hS => ?_)
      refine lv_if_ne (tgt := 117) hx hb dX11_set_107 (by decide) (fun c13 => ?_) (fun c13 => ?_)
      · replace h := it_f h c13
        exact wX11_set_117 X hlk hr o v1 v3 v4 ((8 * v1) + v2) _ _ _ _ (lv_sub hl [1, 2, 4, 5, 0] rfl) hW hS h
      · replace h := it_t h c13
        refine lv_aload_n hx hb dX11_set_110 rfl (lv_at hl 1 rfl) ?_
        refine lv_bipush (v := (-3)) hx hb dX11_set_111 (by decide) ?_
        replace h := b1_some h
        obtain ⟨q14, gq14, h⟩ := h
        replace h := b2_some h
        obtain ⟨x15, s16, gs16, h⟩ := h
        refine z_callVi (rest := []) X hW hS (cX11_refuse_met gs16) kb_X11_refuse kv_X11_refuse kl_X11_170 (it_v gq14).1 kX11 rfl rfl ⟨Nat.le_of_ble_eq_true rfl, Nat.le_of_ble_eq_true rfl⟩ rfl rfl (by decide) hl.1 dX11_set_113 ⟨(by decide), (by decide)⟩ (fun H locs hW hS => ?_)
        exact z_eti X hlk hr hW hS h (by decide) (by decide) dX11_set_116
  · replace h := it_t h c5
    refine lv_aload_n hx hb dX11_set_70 rfl (lv_at hl 0 rfl) ?_
    refine lv_bipush (v := (-3)) hx hb dX11_set_71 (by decide) ?_
    replace h := b1_some h
    obtain ⟨q17, gq17, h⟩ := h
    replace h := b2_some h
    obtain ⟨x18, s19, gs19, h⟩ := h
    refine z_callVi (rest := []) X hW hS (cX11_refuse_met gs19) kb_X11_refuse kv_X11_refuse kl_X11_170 (it_v gq17).1 kX11 rfl rfl ⟨Nat.le_of_ble_eq_true rfl, Nat.le_of_ble_eq_true rfl⟩ rfl rfl (by decide) hl.1 dX11_set_73 ⟨(by decide), (by decide)⟩ (fun H locs hW hS => ?_)
    exact z_eti X hlk hr hW hS h (by decide) (by decide) dX11_set_76

def fX11_set (o : Nat) (v1 : Int32) (v2 : Int32) (v3 : Int32) (v4 : Int64) (h : Hz) : Option (Int32 × Hz) := (b1 (tg 11 o h) fun _ => (b2 (fX11_isThere o v1 h) fun x2 s3 => (if x2 = 0 then (b1 (tg 11 o s3) fun _ => (b2 (fX11_refuse o (-1) s3) fun x18 s19 => some (x18, s19))) else (b1 (tg 11 o s3) fun _ => (b2 (fX11_hasPlaces o v1 s3) fun x6 s7 => (if x6 = 0 then fX11_set_50 o s7 else (b1 (gA 11 3 o s7) fun a9 => (b1 (xI 12 a9 v1 s7) fun x10 => (b2 (fX11_isIn v2 x10 s7) fun x11 s12 => (if x11 = 0 then fX11_set_57 o v1 v2 v3 v4 s12 else (b1 (gA 11 10 o s12) fun a14 => (b1 (xI 12 a14 ((8 * v1) + v2) s12) fun x15 => (if x15 = 1 then fX11_set_50 o s12 else fX11_set_57 o v1 v2 v3 v4 s12)))))))))))))
set_option maxHeartbeats 4000000 in
set_option maxRecDepth 100000 in
theorem wX11_set_0 {r0 : Int32} {h0 : Hz} (X : zX A D cy p s m args c cX11_set RX11 7) (hlk : meth.locks = false) (hr : meth.sig.returnType = (some .int)) (o : Nat) (v1 : Int32) (v2 : Int32) (v3 : Int32) (v4 : Int64) (h : Hz) (H : Heap) (locs : List Loc) (ls : Array Slot) (hl : lv_has ls 7 [(0, .ref o), (1, .int v1), (2, .int v2), (3, .int v3), (4, .long v4)]) (hW : zW A cy D h H) (hS : va_S A s.heap H locs) (h : fX11_set o v1 v2 v3 v4 h = some (r0, h0)) : W p l e ({ frames := 2, cells := 0, slots := 0, locals := 47 } : Room) s m args below meth c H locs 0 0 (MQ below (va_Qi (fun r1 u => r1 = r0 ∧ u = h0) (zB A D cy) A) args s 0 0 A) (F0 m 0 ls []) := by
  obtain ⟨hx, hb, hts, hown, hK9, hml, hN9, hA9⟩ := id X
  unfold fX11_set at h
  refine lv_aload_n hx hb dX11_set_0 rfl (lv_at hl 0 rfl) ?_
  refine lv_iload_n hx hb dX11_set_1 rfl (lv_at hl 1 rfl) ?_
  replace h := b1_some h
  obtain ⟨q1, gq1, h⟩ := h
  replace h := b2_some h
  obtain ⟨x2, s3, gs3, h⟩ := h
  refine z_callVi (rest := []) X hW hS (cX11_isThere_met gs3) kb_X11_isThere kv_X11_isThere kl_X11_178 (it_v gq1).1 kX11 rfl rfl ⟨Nat.le_of_ble_eq_true rfl, Nat.le_of_ble_eq_true rfl⟩ rfl rfl (by decide) hl.1 dX11_set_2 ⟨(by decide), (by decide)⟩ (fun H locs hW hS => ?_)
  refine lv_if_ne (tgt := 14) hx hb dX11_set_5 (by decide) (fun c4 => ?_) (fun c4 => ?_)
  · replace h := it_f h c4
    refine lv_aload_n hx hb dX11_set_14 rfl (lv_at hl 0 rfl) ?_
    refine lv_iload_n hx hb dX11_set_15 rfl (lv_at hl 1 rfl) ?_
    replace h := b1_some h
    obtain ⟨q5, gq5, h⟩ := h
    replace h := b2_some h
    obtain ⟨x6, s7, gs7, h⟩ := h
    refine z_callVi (rest := []) X hW hS (cX11_hasPlaces_met gs7) kb_X11_hasPlaces kv_X11_hasPlaces kl_X11_181 (it_v gq5).1 kX11 rfl rfl ⟨Nat.le_of_ble_eq_true rfl, Nat.le_of_ble_eq_true rfl⟩ rfl rfl (by decide) hl.1 dX11_set_16 ⟨(by decide), (by decide)⟩ (fun H locs hW hS => ?_)
    refine lv_if_eq (tgt := 50) hx hb dX11_set_19 (by decide) (fun c8 => ?_) (fun c8 => ?_)
    · replace h := it_t h c8
      exact wX11_set_50 X hlk hr o _ _ _ _ (lv_sub hl [0] rfl) hW hS h
    · replace h := it_f h c8
      refine lv_iload_n hx hb dX11_set_22 rfl (lv_at hl 2 rfl) ?_
      refine lv_aload_n hx hb dX11_set_23 rfl (lv_at hl 0 rfl) ?_
      replace h := b1_some h
      obtain ⟨a9, ga9, h⟩ := h
      refine z_getA X hW ga9 kX11 (by decide) (by decide) kf_X11_19 dX11_set_24 ?_
      refine lv_iload_n hx hb dX11_set_27 rfl (lv_at hl 1 rfl) ?_
      replace h := b1_some h
      obtain ⟨x10, gx10, h⟩ := h
      refine z_aldI X hW gx10 dX11_set_28 ?_
      replace h := b2_some h
      obtain ⟨x11, s12, gs12, h⟩ := h
      refine z_callSi (rest := []) X hW hS (cX11_isIn_met gs12) kb_X11_isIn ks_X11_isIn kl_X11_149 rfl rfl ⟨Nat.le_of_ble_eq_true rfl, Nat.le_of_ble_eq_true rfl⟩ rfl rfl (by decide) hl.1 dX11_set_29 ⟨(by decide), (by decide)⟩ (fun H locs hW hS => ?_)
      refine lv_if_eq (tgt := 57) hx hb dX11_set_32 (by decide) (fun c13 => ?_) (fun c13 => ?_)
      · replace h := it_t h c13
        exact wX11_set_57 X hlk hr o v1 v2 v3 v4 _ _ _ _ (lv_sub hl [0, 1, 2, 3, 4] rfl) hW hS h
      · replace h := it_f h c13
        refine lv_aload_n hx hb dX11_set_35 rfl (lv_at hl 0 rfl) ?_
        replace h := b1_some h
        obtain ⟨a14, ga14, h⟩ := h
        refine z_getA X hW ga14 kX11 (by decide) (by decide) kf_X11_38 dX11_set_36 ?_
        refine lv_bipush (v := 8) hx hb dX11_set_39 (by decide) ?_
        refine lv_iload_n hx hb dX11_set_41 rfl (lv_at hl 1 rfl) ?_
        refine lv_imul hx hb dX11_set_42 ?_
        refine lv_iload_n hx hb dX11_set_43 rfl (lv_at hl 2 rfl) ?_
        refine lv_iadd hx hb dX11_set_44 ?_
        replace h := b1_some h
        obtain ⟨x15, gx15, h⟩ := h
        refine z_aldI X hW gx15 dX11_set_45 ?_
        refine lv_iconst (v := 1) hx hb dX11_set_46 (by decide) ?_
        refine lv_icmp_ne (tgt := 57) hx hb dX11_set_47 (by decide) (fun c16 => ?_) (fun c16 => ?_)
        · replace h := it_f h c16
          exact wX11_set_57 X hlk hr o v1 v2 v3 v4 _ _ _ _ (lv_sub hl [0, 1, 2, 3, 4] rfl) hW hS h
        · replace h := it_t h c16
          exact wX11_set_50 X hlk hr o _ _ _ _ (lv_sub hl [0] rfl) hW hS h
  · replace h := it_t h c4
    refine lv_aload_n hx hb dX11_set_8 rfl (lv_at hl 0 rfl) ?_
    refine lv_iconst (v := (-1)) hx hb dX11_set_9 (by decide) ?_
    replace h := b1_some h
    obtain ⟨q17, gq17, h⟩ := h
    replace h := b2_some h
    obtain ⟨x18, s19, gs19, h⟩ := h
    refine z_callVi (rest := []) X hW hS (cX11_refuse_met gs19) kb_X11_refuse kv_X11_refuse kl_X11_170 (it_v gq17).1 kX11 rfl rfl ⟨Nat.le_of_ble_eq_true rfl, Nat.le_of_ble_eq_true rfl⟩ rfl rfl (by decide) hl.1 dX11_set_10 ⟨(by decide), (by decide)⟩ (fun H locs hW hS => ?_)
    exact z_eti X hlk hr hW hS h (by decide) (by decide) dX11_set_13

set_option maxHeartbeats 4000000 in
set_option maxRecDepth 100000 in
theorem cX11_set_met {l : Launch} {A : Nat → Prop} {D : va_G} {cy : Nat → ClassId} {r0 : Int32} {h0 : Hz} {o : Nat} {v1 : Int32} {v2 : Int32} {v3 : Int32} {v4 : Int64} {h : Hz} (g : fX11_set o v1 v2 v3 v4 h = some (r0, h0)) : Met l yX11_set (Cond.code yX11_set cX11_set 7 (some .int) :: wT) ({ frames := 2, cells := 0, slots := 0, locals := 47 } : Room) (va_Pc [.ref o, .int v1, .int v2, .int v3, .long v4] (zS A D cy h)) (va_Qi (fun r1 u => r1 = r0 ∧ u = h0) (zB A D cy) A) 0 0 A := by
  refine Met.ofW (cc := cX11_set) (maxL := 7) (ret := (some .int)) (by decide) rfl ?_
  intro p e s m args below meth c s₁ B hml hv
  obtain ⟨rfl, hW, hK, hN, hA⟩ := hv
  have X : zX A D cy p s m _ c cX11_set RX11 7 := ⟨B.exec, B.bytes, fun w hw => atoms_spec (ws := Cond.code yX11_set cX11_set 7 (some .int) :: wT) B.pre w (List.mem_cons_of_mem _ hw), findClass_of_methodNamed B.named, hK, hml, hN, hA⟩
  have hl := lv_entry [.ref o, .int v1, .int v2, .int v3, .long v4] (n := 7) (Nat.le_of_ble_eq_true rfl)
  rw [lg_entry_eq]
  generalize (lg_sl [.ref o, .int v1, .int v2, .int v3, .long v4] ++ List.replicate (7 - (lg_sl [.ref o, .int v1, .int v2, .int v3, .long v4]).length) Slot.unset).toArray = ls at hl ⊢
  have hl : lv_has ls 7 [(0, .ref o), (1, .int v1), (2, .int v2), (3, .int v3), (4, .long v4)] := hl
  exact wX11_set_0 X B.notSynchronized B.returns o v1 v2 v3 v4 _ _ _ _ (lv_sub hl [0, 1, 2, 3, 4] rfl) hW va_S.rf g

theorem dX11_copy_0 : decode cX11_copy 0 = .ok (.aload_n 0, 1) := by decide +kernel
theorem dX11_copy_1 : decode cX11_copy 1 = .ok (.iload_n 1, 1) := by decide +kernel
theorem dX11_copy_2 : decode cX11_copy 2 = .ok (.invokevirtual 178, 3) := by decide +kernel
theorem dX11_copy_5 : decode cX11_copy 5 = .ok (.ifCond .ne 9, 3) := by decide +kernel
theorem dX11_copy_8 : decode cX11_copy 8 = .ok (.aload_n 0, 1) := by decide +kernel
theorem dX11_copy_9 : decode cX11_copy 9 = .ok (.iconst (-1), 1) := by decide +kernel
theorem dX11_copy_10 : decode cX11_copy 10 = .ok (.invokevirtual 170, 3) := by decide +kernel
theorem dX11_copy_13 : decode cX11_copy 13 = .ok (.ireturn, 1) := by decide +kernel
theorem dX11_copy_14 : decode cX11_copy 14 = .ok (.aload_n 0, 1) := by decide +kernel
theorem dX11_copy_15 : decode cX11_copy 15 = .ok (.iload_n 1, 1) := by decide +kernel
theorem dX11_copy_16 : decode cX11_copy 16 = .ok (.invokevirtual 181, 3) := by decide +kernel
theorem dX11_copy_19 : decode cX11_copy 19 = .ok (.ifCond .ne 10, 3) := by decide +kernel
theorem dX11_copy_22 : decode cX11_copy 22 = .ok (.aload_n 0, 1) := by decide +kernel
theorem dX11_copy_23 : decode cX11_copy 23 = .ok (.bipush (-2), 2) := by decide +kernel
theorem dX11_copy_25 : decode cX11_copy 25 = .ok (.invokevirtual 170, 3) := by decide +kernel
theorem dX11_copy_28 : decode cX11_copy 28 = .ok (.ireturn, 1) := by decide +kernel
theorem dX11_copy_29 : decode cX11_copy 29 = .ok (.iload_n 2, 1) := by decide +kernel
theorem dX11_copy_30 : decode cX11_copy 30 = .ok (.aload_n 0, 1) := by decide +kernel
theorem dX11_copy_31 : decode cX11_copy 31 = .ok (.getfield 19, 3) := by decide +kernel
theorem dX11_copy_34 : decode cX11_copy 34 = .ok (.iload_n 1, 1) := by decide +kernel
theorem dX11_copy_35 : decode cX11_copy 35 = .ok (.iaload, 1) := by decide +kernel
theorem dX11_copy_36 : decode cX11_copy 36 = .ok (.invokestatic 149, 3) := by decide +kernel
theorem dX11_copy_39 : decode cX11_copy 39 = .ok (.istore 6, 2) := by decide +kernel
theorem dX11_copy_41 : decode cX11_copy 41 = .ok (.iload_n 3, 1) := by decide +kernel
theorem dX11_copy_42 : decode cX11_copy 42 = .ok (.aload_n 0, 1) := by decide +kernel
theorem dX11_copy_43 : decode cX11_copy 43 = .ok (.getfield 19, 3) := by decide +kernel
theorem dX11_copy_46 : decode cX11_copy 46 = .ok (.iload_n 1, 1) := by decide +kernel
theorem dX11_copy_47 : decode cX11_copy 47 = .ok (.iaload, 1) := by decide +kernel
theorem dX11_copy_48 : decode cX11_copy 48 = .ok (.invokestatic 149, 3) := by decide +kernel
theorem dX11_copy_51 : decode cX11_copy 51 = .ok (.istore 7, 2) := by decide +kernel
theorem dX11_copy_53 : decode cX11_copy 53 = .ok (.bipush 8, 2) := by decide +kernel
theorem dX11_copy_55 : decode cX11_copy 55 = .ok (.iload_n 1, 1) := by decide +kernel
theorem dX11_copy_56 : decode cX11_copy 56 = .ok (.imul, 1) := by decide +kernel
theorem dX11_copy_57 : decode cX11_copy 57 = .ok (.iload_n 2, 1) := by decide +kernel
theorem dX11_copy_58 : decode cX11_copy 58 = .ok (.iadd, 1) := by decide +kernel
theorem dX11_copy_59 : decode cX11_copy 59 = .ok (.istore 8, 2) := by decide +kernel
theorem dX11_copy_61 : decode cX11_copy 61 = .ok (.bipush 8, 2) := by decide +kernel
theorem dX11_copy_63 : decode cX11_copy 63 = .ok (.iload_n 1, 1) := by decide +kernel
theorem dX11_copy_64 : decode cX11_copy 64 = .ok (.imul, 1) := by decide +kernel
theorem dX11_copy_65 : decode cX11_copy 65 = .ok (.iload_n 3, 1) := by decide +kernel
theorem dX11_copy_66 : decode cX11_copy 66 = .ok (.iadd, 1) := by decide +kernel
theorem dX11_copy_67 : decode cX11_copy 67 = .ok (.istore 9, 2) := by decide +kernel
theorem dX11_copy_69 : decode cX11_copy 69 = .ok (.iload 6, 2) := by decide +kernel
theorem dX11_copy_71 : decode cX11_copy 71 = .ok (.ifCond .eq 14, 3) := by decide +kernel
theorem dX11_copy_74 : decode cX11_copy 74 = .ok (.aload_n 0, 1) := by decide +kernel
theorem dX11_copy_75 : decode cX11_copy 75 = .ok (.getfield 38, 3) := by decide +kernel
theorem dX11_copy_78 : decode cX11_copy 78 = .ok (.iload 8, 2) := by decide +kernel
theorem dX11_copy_80 : decode cX11_copy 80 = .ok (.iaload, 1) := by decide +kernel
theorem dX11_copy_81 : decode cX11_copy 81 = .ok (.iconst 1, 1) := by decide +kernel
theorem dX11_copy_82 : decode cX11_copy 82 = .ok (.if_icmp .eq 19, 3) := by decide +kernel
theorem dX11_copy_85 : decode cX11_copy 85 = .ok (.iload 7, 2) := by decide +kernel
theorem dX11_copy_87 : decode cX11_copy 87 = .ok (.ifCond .eq 21, 3) := by decide +kernel
theorem dX11_copy_90 : decode cX11_copy 90 = .ok (.aload_n 0, 1) := by decide +kernel
theorem dX11_copy_91 : decode cX11_copy 91 = .ok (.getfield 38, 3) := by decide +kernel
theorem dX11_copy_94 : decode cX11_copy 94 = .ok (.iload 9, 2) := by decide +kernel
theorem dX11_copy_96 : decode cX11_copy 96 = .ok (.iaload, 1) := by decide +kernel
theorem dX11_copy_97 : decode cX11_copy 97 = .ok (.iconst 1, 1) := by decide +kernel
theorem dX11_copy_98 : decode cX11_copy 98 = .ok (.if_icmp .ne 10, 3) := by decide +kernel
theorem dX11_copy_101 : decode cX11_copy 101 = .ok (.aload_n 0, 1) := by decide +kernel
theorem dX11_copy_102 : decode cX11_copy 102 = .ok (.bipush (-2), 2) := by decide +kernel
theorem dX11_copy_104 : decode cX11_copy 104 = .ok (.invokevirtual 170, 3) := by decide +kernel
theorem dX11_copy_107 : decode cX11_copy 107 = .ok (.ireturn, 1) := by decide +kernel
theorem dX11_copy_108 : decode cX11_copy 108 = .ok (.iload 6, 2) := by decide +kernel
theorem dX11_copy_110 : decode cX11_copy 110 = .ok (.ifCond .eq 54, 3) := by decide +kernel
theorem dX11_copy_113 : decode cX11_copy 113 = .ok (.iload 7, 2) := by decide +kernel
theorem dX11_copy_115 : decode cX11_copy 115 = .ok (.ifCond .eq 49, 3) := by decide +kernel
theorem dX11_copy_118 : decode cX11_copy 118 = .ok (.aload_n 0, 1) := by decide +kernel
theorem dX11_copy_119 : decode cX11_copy 119 = .ok (.getfield 38, 3) := by decide +kernel
theorem dX11_copy_122 : decode cX11_copy 122 = .ok (.iload 8, 2) := by decide +kernel
theorem dX11_copy_124 : decode cX11_copy 124 = .ok (.iaload, 1) := by decide +kernel
theorem dX11_copy_125 : decode cX11_copy 125 = .ok (.iconst 2, 1) := by decide +kernel
theorem dX11_copy_126 : decode cX11_copy 126 = .ok (.if_icmp .ne 38, 3) := by decide +kernel
theorem dX11_copy_129 : decode cX11_copy 129 = .ok (.aload_n 0, 1) := by decide +kernel
theorem dX11_copy_130 : decode cX11_copy 130 = .ok (.getfield 38, 3) := by decide +kernel
theorem dX11_copy_133 : decode cX11_copy 133 = .ok (.iload 9, 2) := by decide +kernel
theorem dX11_copy_135 : decode cX11_copy 135 = .ok (.iaload, 1) := by decide +kernel
theorem dX11_copy_136 : decode cX11_copy 136 = .ok (.iconst 2, 1) := by decide +kernel
theorem dX11_copy_137 : decode cX11_copy 137 = .ok (.if_icmp .ne 27, 3) := by decide +kernel
theorem dX11_copy_140 : decode cX11_copy 140 = .ok (.aload_n 0, 1) := by decide +kernel
theorem dX11_copy_141 : decode cX11_copy 141 = .ok (.getfield 41, 3) := by decide +kernel
theorem dX11_copy_144 : decode cX11_copy 144 = .ok (.iload 8, 2) := by decide +kernel
theorem dX11_copy_146 : decode cX11_copy 146 = .ok (.iaload, 1) := by decide +kernel
theorem dX11_copy_147 : decode cX11_copy 147 = .ok (.aload_n 0, 1) := by decide +kernel
theorem dX11_copy_148 : decode cX11_copy 148 = .ok (.getfield 41, 3) := by decide +kernel
theorem dX11_copy_151 : decode cX11_copy 151 = .ok (.iload 9, 2) := by decide +kernel
theorem dX11_copy_153 : decode cX11_copy 153 = .ok (.iaload, 1) := by decide +kernel
theorem dX11_copy_154 : decode cX11_copy 154 = .ok (.if_icmp .eq 10, 3) := by decide +kernel
theorem dX11_copy_157 : decode cX11_copy 157 = .ok (.aload_n 0, 1) := by decide +kernel
theorem dX11_copy_158 : decode cX11_copy 158 = .ok (.bipush (-2), 2) := by decide +kernel
theorem dX11_copy_160 : decode cX11_copy 160 = .ok (.invokevirtual 170, 3) := by decide +kernel
theorem dX11_copy_163 : decode cX11_copy 163 = .ok (.ireturn, 1) := by decide +kernel
theorem dX11_copy_164 : decode cX11_copy 164 = .ok (.iload 6, 2) := by decide +kernel
theorem dX11_copy_166 : decode cX11_copy 166 = .ok (.ifCond .eq 8, 3) := by decide +kernel
theorem dX11_copy_169 : decode cX11_copy 169 = .ok (.iload 7, 2) := by decide +kernel
theorem dX11_copy_171 : decode cX11_copy 171 = .ok (.ifCond .ne 10, 3) := by decide +kernel
theorem dX11_copy_174 : decode cX11_copy 174 = .ok (.aload_n 0, 1) := by decide +kernel
theorem dX11_copy_175 : decode cX11_copy 175 = .ok (.bipush (-3), 2) := by decide +kernel
theorem dX11_copy_177 : decode cX11_copy 177 = .ok (.invokevirtual 170, 3) := by decide +kernel
theorem dX11_copy_180 : decode cX11_copy 180 = .ok (.ireturn, 1) := by decide +kernel
theorem dX11_copy_181 : decode cX11_copy 181 = .ok (.iload 5, 2) := by decide +kernel
theorem dX11_copy_183 : decode cX11_copy 183 = .ok (.ifCond .lt 68, 3) := by decide +kernel
theorem dX11_copy_186 : decode cX11_copy 186 = .ok (.aload_n 0, 1) := by decide +kernel
theorem dX11_copy_187 : decode cX11_copy 187 = .ok (.getfield 38, 3) := by decide +kernel
theorem dX11_copy_190 : decode cX11_copy 190 = .ok (.iload 8, 2) := by decide +kernel
theorem dX11_copy_192 : decode cX11_copy 192 = .ok (.iaload, 1) := by decide +kernel
theorem dX11_copy_193 : decode cX11_copy 193 = .ok (.iconst 2, 1) := by decide +kernel
theorem dX11_copy_194 : decode cX11_copy 194 = .ok (.if_icmp .ne 57, 3) := by decide +kernel
theorem dX11_copy_197 : decode cX11_copy 197 = .ok (.aload_n 0, 1) := by decide +kernel
theorem dX11_copy_198 : decode cX11_copy 198 = .ok (.getfield 38, 3) := by decide +kernel
theorem dX11_copy_201 : decode cX11_copy 201 = .ok (.iload 9, 2) := by decide +kernel
theorem dX11_copy_203 : decode cX11_copy 203 = .ok (.iaload, 1) := by decide +kernel
theorem dX11_copy_204 : decode cX11_copy 204 = .ok (.iconst 2, 1) := by decide +kernel
theorem dX11_copy_205 : decode cX11_copy 205 = .ok (.if_icmp .ne 46, 3) := by decide +kernel
theorem dX11_copy_208 : decode cX11_copy 208 = .ok (.iload 4, 2) := by decide +kernel
theorem dX11_copy_210 : decode cX11_copy 210 = .ok (.ifCond .lt 34, 3) := by decide +kernel
theorem dX11_copy_213 : decode cX11_copy 213 = .ok (.iload 4, 2) := by decide +kernel
theorem dX11_copy_215 : decode cX11_copy 215 = .ok (.i2l, 1) := by decide +kernel
theorem dX11_copy_216 : decode cX11_copy 216 = .ok (.iload 5, 2) := by decide +kernel
theorem dX11_copy_218 : decode cX11_copy 218 = .ok (.i2l, 1) := by decide +kernel
theorem dX11_copy_219 : decode cX11_copy 219 = .ok (.ladd, 1) := by decide +kernel
theorem dX11_copy_220 : decode cX11_copy 220 = .ok (.aload_n 0, 1) := by decide +kernel
theorem dX11_copy_221 : decode cX11_copy 221 = .ok (.getfield 44, 3) := by decide +kernel
theorem dX11_copy_224 : decode cX11_copy 224 = .ok (.iload 8, 2) := by decide +kernel
theorem dX11_copy_226 : decode cX11_copy 226 = .ok (.iaload, 1) := by decide +kernel
theorem dX11_copy_227 : decode cX11_copy 227 = .ok (.i2l, 1) := by decide +kernel
theorem dX11_copy_228 : decode cX11_copy 228 = .ok (.lcmp, 1) := by decide +kernel
theorem dX11_copy_229 : decode cX11_copy 229 = .ok (.ifCond .gt 15, 3) := by decide +kernel
theorem dX11_copy_232 : decode cX11_copy 232 = .ok (.iload 5, 2) := by decide +kernel
theorem dX11_copy_234 : decode cX11_copy 234 = .ok (.aload_n 0, 1) := by decide +kernel
theorem dX11_copy_235 : decode cX11_copy 235 = .ok (.getfield 44, 3) := by decide +kernel
theorem dX11_copy_238 : decode cX11_copy 238 = .ok (.iload 9, 2) := by decide +kernel
theorem dX11_copy_240 : decode cX11_copy 240 = .ok (.iaload, 1) := by decide +kernel
theorem dX11_copy_241 : decode cX11_copy 241 = .ok (.if_icmp .le 10, 3) := by decide +kernel
theorem dX11_copy_244 : decode cX11_copy 244 = .ok (.aload_n 0, 1) := by decide +kernel
theorem dX11_copy_245 : decode cX11_copy 245 = .ok (.bipush (-3), 2) := by decide +kernel
theorem dX11_copy_247 : decode cX11_copy 247 = .ok (.invokevirtual 170, 3) := by decide +kernel
theorem dX11_copy_250 : decode cX11_copy 250 = .ok (.ireturn, 1) := by decide +kernel
theorem dX11_copy_251 : decode cX11_copy 251 = .ok (.iload 5, 2) := by decide +kernel
theorem dX11_copy_253 : decode cX11_copy 253 = .ok (.ifCond .ge 10, 3) := by decide +kernel
theorem dX11_copy_256 : decode cX11_copy 256 = .ok (.aload_n 0, 1) := by decide +kernel
theorem dX11_copy_257 : decode cX11_copy 257 = .ok (.bipush (-4), 2) := by decide +kernel
theorem dX11_copy_259 : decode cX11_copy 259 = .ok (.invokevirtual 170, 3) := by decide +kernel
theorem dX11_copy_262 : decode cX11_copy 262 = .ok (.ireturn, 1) := by decide +kernel
theorem dX11_copy_263 : decode cX11_copy 263 = .ok (.aload_n 0, 1) := by decide +kernel
theorem dX11_copy_264 : decode cX11_copy 264 = .ok (.iload_n 1, 1) := by decide +kernel
theorem dX11_copy_265 : decode cX11_copy 265 = .ok (.invokevirtual 167, 3) := by decide +kernel
theorem dX11_copy_268 : decode cX11_copy 268 = .ok (.ifCond .ne 10, 3) := by decide +kernel
theorem dX11_copy_271 : decode cX11_copy 271 = .ok (.aload_n 0, 1) := by decide +kernel
theorem dX11_copy_272 : decode cX11_copy 272 = .ok (.bipush (-5), 2) := by decide +kernel
theorem dX11_copy_274 : decode cX11_copy 274 = .ok (.invokevirtual 170, 3) := by decide +kernel
theorem dX11_copy_277 : decode cX11_copy 277 = .ok (.ireturn, 1) := by decide +kernel
theorem dX11_copy_278 : decode cX11_copy 278 = .ok (.aload_n 0, 1) := by decide +kernel
theorem dX11_copy_279 : decode cX11_copy 279 = .ok (.getfield 38, 3) := by decide +kernel
theorem dX11_copy_282 : decode cX11_copy 282 = .ok (.iload 8, 2) := by decide +kernel
theorem dX11_copy_284 : decode cX11_copy 284 = .ok (.iaload, 1) := by decide +kernel
theorem dX11_copy_285 : decode cX11_copy 285 = .ok (.ifCond .eq 13, 3) := by decide +kernel
theorem dX11_copy_288 : decode cX11_copy 288 = .ok (.aload_n 0, 1) := by decide +kernel
theorem dX11_copy_289 : decode cX11_copy 289 = .ok (.getfield 38, 3) := by decide +kernel
theorem dX11_copy_292 : decode cX11_copy 292 = .ok (.iload 9, 2) := by decide +kernel
theorem dX11_copy_294 : decode cX11_copy 294 = .ok (.iaload, 1) := by decide +kernel
theorem dX11_copy_295 : decode cX11_copy 295 = .ok (.ifCond .ne 10, 3) := by decide +kernel
theorem dX11_copy_298 : decode cX11_copy 298 = .ok (.aload_n 0, 1) := by decide +kernel
theorem dX11_copy_299 : decode cX11_copy 299 = .ok (.bipush (-7), 2) := by decide +kernel
theorem dX11_copy_301 : decode cX11_copy 301 = .ok (.invokevirtual 170, 3) := by decide +kernel
theorem dX11_copy_304 : decode cX11_copy 304 = .ok (.ireturn, 1) := by decide +kernel
theorem dX11_copy_305 : decode cX11_copy 305 = .ok (.iload 8, 2) := by decide +kernel
theorem dX11_copy_307 : decode cX11_copy 307 = .ok (.iload 9, 2) := by decide +kernel
theorem dX11_copy_309 : decode cX11_copy 309 = .ok (.if_icmp .ne 48, 3) := by decide +kernel
theorem dX11_copy_312 : decode cX11_copy 312 = .ok (.iconst 0, 1) := by decide +kernel
theorem dX11_copy_313 : decode cX11_copy 313 = .ok (.istore 10, 2) := by decide +kernel
theorem dX11_copy_315 : decode cX11_copy 315 = .ok (.iload 10, 2) := by decide +kernel
theorem dX11_copy_317 : decode cX11_copy 317 = .ok (.iload 5, 2) := by decide +kernel
theorem dX11_copy_319 : decode cX11_copy 319 = .ok (.if_icmp .ge 38, 3) := by decide +kernel
theorem dX11_copy_322 : decode cX11_copy 322 = .ok (.aload_n 0, 1) := by decide +kernel
theorem dX11_copy_323 : decode cX11_copy 323 = .ok (.getfield 48, 3) := by decide +kernel
theorem dX11_copy_326 : decode cX11_copy 326 = .ok (.bipush 32, 2) := by decide +kernel
theorem dX11_copy_328 : decode cX11_copy 328 = .ok (.iload 9, 2) := by decide +kernel
theorem dX11_copy_330 : decode cX11_copy 330 = .ok (.imul, 1) := by decide +kernel
theorem dX11_copy_331 : decode cX11_copy 331 = .ok (.iload 10, 2) := by decide +kernel
theorem dX11_copy_333 : decode cX11_copy 333 = .ok (.iadd, 1) := by decide +kernel
theorem dX11_copy_334 : decode cX11_copy 334 = .ok (.aload_n 0, 1) := by decide +kernel
theorem dX11_copy_335 : decode cX11_copy 335 = .ok (.getfield 48, 3) := by decide +kernel
theorem dX11_copy_338 : decode cX11_copy 338 = .ok (.bipush 32, 2) := by decide +kernel
theorem dX11_copy_340 : decode cX11_copy 340 = .ok (.iload 8, 2) := by decide +kernel
theorem dX11_copy_342 : decode cX11_copy 342 = .ok (.imul, 1) := by decide +kernel
theorem dX11_copy_343 : decode cX11_copy 343 = .ok (.iload 4, 2) := by decide +kernel
theorem dX11_copy_345 : decode cX11_copy 345 = .ok (.iadd, 1) := by decide +kernel
theorem dX11_copy_346 : decode cX11_copy 346 = .ok (.iload 10, 2) := by decide +kernel
theorem dX11_copy_348 : decode cX11_copy 348 = .ok (.iadd, 1) := by decide +kernel
theorem dX11_copy_349 : decode cX11_copy 349 = .ok (.laload, 1) := by decide +kernel
theorem dX11_copy_350 : decode cX11_copy 350 = .ok (.lastore, 1) := by decide +kernel
theorem dX11_copy_351 : decode cX11_copy 351 = .ok (.iinc 10 1, 3) := by decide +kernel
theorem dX11_copy_354 : decode cX11_copy 354 = .ok (.goto (-39), 3) := by decide +kernel
theorem dX11_copy_357 : decode cX11_copy 357 = .ok (.iconst 0, 1) := by decide +kernel
theorem dX11_copy_358 : decode cX11_copy 358 = .ok (.istore 10, 2) := by decide +kernel
theorem dX11_copy_360 : decode cX11_copy 360 = .ok (.iload 10, 2) := by decide +kernel
theorem dX11_copy_362 : decode cX11_copy 362 = .ok (.iload 5, 2) := by decide +kernel
theorem dX11_copy_364 : decode cX11_copy 364 = .ok (.if_icmp .ge 45, 3) := by decide +kernel
theorem dX11_copy_367 : decode cX11_copy 367 = .ok (.iload 8, 2) := by decide +kernel
theorem dX11_copy_369 : decode cX11_copy 369 = .ok (.iload 9, 2) := by decide +kernel
theorem dX11_copy_371 : decode cX11_copy 371 = .ok (.if_icmp .eq 38, 3) := by decide +kernel
theorem dX11_copy_374 : decode cX11_copy 374 = .ok (.aload_n 0, 1) := by decide +kernel
theorem dX11_copy_375 : decode cX11_copy 375 = .ok (.getfield 48, 3) := by decide +kernel
theorem dX11_copy_378 : decode cX11_copy 378 = .ok (.bipush 32, 2) := by decide +kernel
theorem dX11_copy_380 : decode cX11_copy 380 = .ok (.iload 9, 2) := by decide +kernel
theorem dX11_copy_382 : decode cX11_copy 382 = .ok (.imul, 1) := by decide +kernel
theorem dX11_copy_383 : decode cX11_copy 383 = .ok (.iload 10, 2) := by decide +kernel
theorem dX11_copy_385 : decode cX11_copy 385 = .ok (.iadd, 1) := by decide +kernel
theorem dX11_copy_386 : decode cX11_copy 386 = .ok (.aload_n 0, 1) := by decide +kernel
theorem dX11_copy_387 : decode cX11_copy 387 = .ok (.getfield 48, 3) := by decide +kernel
theorem dX11_copy_390 : decode cX11_copy 390 = .ok (.bipush 32, 2) := by decide +kernel
theorem dX11_copy_392 : decode cX11_copy 392 = .ok (.iload 8, 2) := by decide +kernel
theorem dX11_copy_394 : decode cX11_copy 394 = .ok (.imul, 1) := by decide +kernel
theorem dX11_copy_395 : decode cX11_copy 395 = .ok (.iload 4, 2) := by decide +kernel
theorem dX11_copy_397 : decode cX11_copy 397 = .ok (.iadd, 1) := by decide +kernel
theorem dX11_copy_398 : decode cX11_copy 398 = .ok (.iload 10, 2) := by decide +kernel
theorem dX11_copy_400 : decode cX11_copy 400 = .ok (.iadd, 1) := by decide +kernel
theorem dX11_copy_401 : decode cX11_copy 401 = .ok (.laload, 1) := by decide +kernel
theorem dX11_copy_402 : decode cX11_copy 402 = .ok (.lastore, 1) := by decide +kernel
theorem dX11_copy_403 : decode cX11_copy 403 = .ok (.iinc 10 1, 3) := by decide +kernel
theorem dX11_copy_406 : decode cX11_copy 406 = .ok (.goto (-46), 3) := by decide +kernel
theorem dX11_copy_409 : decode cX11_copy 409 = .ok (.aload_n 0, 1) := by decide +kernel
theorem dX11_copy_410 : decode cX11_copy 410 = .ok (.getfield 91, 3) := by decide +kernel
theorem dX11_copy_413 : decode cX11_copy 413 = .ok (.aload_n 0, 1) := by decide +kernel
theorem dX11_copy_414 : decode cX11_copy 414 = .ok (.getfield 13, 3) := by decide +kernel
theorem dX11_copy_417 : decode cX11_copy 417 = .ok (.iload_n 1, 1) := by decide +kernel
theorem dX11_copy_418 : decode cX11_copy 418 = .ok (.iaload, 1) := by decide +kernel
theorem dX11_copy_419 : decode cX11_copy 419 = .ok (.dup2, 1) := by decide +kernel
theorem dX11_copy_420 : decode cX11_copy 420 = .ok (.iaload, 1) := by decide +kernel
theorem dX11_copy_421 : decode cX11_copy 421 = .ok (.iconst 1, 1) := by decide +kernel
theorem dX11_copy_422 : decode cX11_copy 422 = .ok (.iadd, 1) := by decide +kernel
theorem dX11_copy_423 : decode cX11_copy 423 = .ok (.iastore, 1) := by decide +kernel
theorem dX11_copy_424 : decode cX11_copy 424 = .ok (.iconst 1, 1) := by decide +kernel
theorem dX11_copy_425 : decode cX11_copy 425 = .ok (.ireturn, 1) := by decide +kernel
def fX11_copy_101 (o : Nat) (h : Hz) : Option (Int32 × Hz) := (b1 (tg 11 o h) fun _ => (b2 (fX11_refuse o (-2) h) fun x2 s3 => some (x2, s3)))
set_option maxHeartbeats 4000000 in
set_option maxRecDepth 100000 in
theorem wX11_copy_101 {r0 : Int32} {h0 : Hz} (X : zX A D cy p s m args c cX11_copy RX11 11) (hlk : meth.locks = false) (hr : meth.sig.returnType = (some .int)) (o : Nat) (h : Hz) (H : Heap) (locs : List Loc) (ls : Array Slot) (hl : lv_has ls 11 [(0, .ref o)]) (hW : zW A cy D h H) (hS : va_S A s.heap H locs) (h : fX11_copy_101 o h = some (r0, h0)) : W p l e ({ frames := 2, cells := 0, slots := 0, locals := 47 } : Room) s m args below meth c H locs 0 0 (MQ below (va_Qi (fun r1 u => r1 = r0 ∧ u = h0) (zB A D cy) A) args s 0 0 A) (F0 m 101 ls []) := by
  obtain ⟨hx, hb, hts, hown, hK9, hml, hN9, hA9⟩ := id X
  unfold fX11_copy_101 at h
  refine lv_aload_n hx hb dX11_copy_101 rfl (lv_at hl 0 rfl) ?_
  refine lv_bipush (v := (-2)) hx hb dX11_copy_102 (by decide) ?_
  replace h := b1_some h
  obtain ⟨q1, gq1, h⟩ := h
  replace h := b2_some h
  obtain ⟨x2, s3, gs3, h⟩ := h
  refine z_callVi (rest := []) X hW hS (cX11_refuse_met gs3) kb_X11_refuse kv_X11_refuse kl_X11_170 (it_v gq1).1 kX11 rfl rfl ⟨Nat.le_of_ble_eq_true rfl, Nat.le_of_ble_eq_true rfl⟩ rfl rfl (by decide) hl.1 dX11_copy_104 ⟨(by decide), (by decide)⟩ (fun H locs hW hS => ?_)
  exact z_eti X hlk hr hW hS h (by decide) (by decide) dX11_copy_107

def fX11_copy_174 (o : Nat) (h : Hz) : Option (Int32 × Hz) := (b1 (tg 11 o h) fun _ => (b2 (fX11_refuse o (-3) h) fun x2 s3 => some (x2, s3)))
set_option maxHeartbeats 4000000 in
set_option maxRecDepth 100000 in
theorem wX11_copy_174 {r0 : Int32} {h0 : Hz} (X : zX A D cy p s m args c cX11_copy RX11 11) (hlk : meth.locks = false) (hr : meth.sig.returnType = (some .int)) (o : Nat) (h : Hz) (H : Heap) (locs : List Loc) (ls : Array Slot) (hl : lv_has ls 11 [(0, .ref o)]) (hW : zW A cy D h H) (hS : va_S A s.heap H locs) (h : fX11_copy_174 o h = some (r0, h0)) : W p l e ({ frames := 2, cells := 0, slots := 0, locals := 47 } : Room) s m args below meth c H locs 0 0 (MQ below (va_Qi (fun r1 u => r1 = r0 ∧ u = h0) (zB A D cy) A) args s 0 0 A) (F0 m 174 ls []) := by
  obtain ⟨hx, hb, hts, hown, hK9, hml, hN9, hA9⟩ := id X
  unfold fX11_copy_174 at h
  refine lv_aload_n hx hb dX11_copy_174 rfl (lv_at hl 0 rfl) ?_
  refine lv_bipush (v := (-3)) hx hb dX11_copy_175 (by decide) ?_
  replace h := b1_some h
  obtain ⟨q1, gq1, h⟩ := h
  replace h := b2_some h
  obtain ⟨x2, s3, gs3, h⟩ := h
  refine z_callVi (rest := []) X hW hS (cX11_refuse_met gs3) kb_X11_refuse kv_X11_refuse kl_X11_170 (it_v gq1).1 kX11 rfl rfl ⟨Nat.le_of_ble_eq_true rfl, Nat.le_of_ble_eq_true rfl⟩ rfl rfl (by decide) hl.1 dX11_copy_177 ⟨(by decide), (by decide)⟩ (fun H locs hW hS => ?_)
  exact z_eti X hlk hr hW hS h (by decide) (by decide) dX11_copy_180

def fX11_copy_244 (o : Nat) (h : Hz) : Option (Int32 × Hz) := (b1 (tg 11 o h) fun _ => (b2 (fX11_refuse o (-3) h) fun x2 s3 => some (x2, s3)))
set_option maxHeartbeats 4000000 in
set_option maxRecDepth 100000 in
theorem wX11_copy_244 {r0 : Int32} {h0 : Hz} (X : zX A D cy p s m args c cX11_copy RX11 11) (hlk : meth.locks = false) (hr : meth.sig.returnType = (some .int)) (o : Nat) (h : Hz) (H : Heap) (locs : List Loc) (ls : Array Slot) (hl : lv_has ls 11 [(0, .ref o)]) (hW : zW A cy D h H) (hS : va_S A s.heap H locs) (h : fX11_copy_244 o h = some (r0, h0)) : W p l e ({ frames := 2, cells := 0, slots := 0, locals := 47 } : Room) s m args below meth c H locs 0 0 (MQ below (va_Qi (fun r1 u => r1 = r0 ∧ u = h0) (zB A D cy) A) args s 0 0 A) (F0 m 244 ls []) := by
  obtain ⟨hx, hb, hts, hown, hK9, hml, hN9, hA9⟩ := id X
  unfold fX11_copy_244 at h
  refine lv_aload_n hx hb dX11_copy_244 rfl (lv_at hl 0 rfl) ?_
  refine lv_bipush (v := (-3)) hx hb dX11_copy_245 (by decide) ?_
  replace h := b1_some h
  obtain ⟨q1, gq1, h⟩ := h
  replace h := b2_some h
  obtain ⟨x2, s3, gs3, h⟩ := h
  refine z_callVi (rest := []) X hW hS (cX11_refuse_met gs3) kb_X11_refuse kv_X11_refuse kl_X11_170 (it_v gq1).1 kX11 rfl rfl ⟨Nat.le_of_ble_eq_true rfl, Nat.le_of_ble_eq_true rfl⟩ rfl rfl (by decide) hl.1 dX11_copy_247 ⟨(by decide), (by decide)⟩ (fun H locs hW hS => ?_)
  exact z_eti X hlk hr hW hS h (by decide) (by decide) dX11_copy_250

def fX11_copy_298 (o : Nat) (h : Hz) : Option (Int32 × Hz) := (b1 (tg 11 o h) fun _ => (b2 (fX11_refuse o (-7) h) fun x2 s3 => some (x2, s3)))
set_option maxHeartbeats 4000000 in
set_option maxRecDepth 100000 in
theorem wX11_copy_298 {r0 : Int32} {h0 : Hz} (X : zX A D cy p s m args c cX11_copy RX11 11) (hlk : meth.locks = false) (hr : meth.sig.returnType = (some .int)) (o : Nat) (h : Hz) (H : Heap) (locs : List Loc) (ls : Array Slot) (hl : lv_has ls 11 [(0, .ref o)]) (hW : zW A cy D h H) (hS : va_S A s.heap H locs) (h : fX11_copy_298 o h = some (r0, h0)) : W p l e ({ frames := 2, cells := 0, slots := 0, locals := 47 } : Room) s m args below meth c H locs 0 0 (MQ below (va_Qi (fun r1 u => r1 = r0 ∧ u = h0) (zB A D cy) A) args s 0 0 A) (F0 m 298 ls []) := by
  obtain ⟨hx, hb, hts, hown, hK9, hml, hN9, hA9⟩ := id X
  unfold fX11_copy_298 at h
  refine lv_aload_n hx hb dX11_copy_298 rfl (lv_at hl 0 rfl) ?_
  refine lv_bipush (v := (-7)) hx hb dX11_copy_299 (by decide) ?_
  replace h := b1_some h
  obtain ⟨q1, gq1, h⟩ := h
  replace h := b2_some h
  obtain ⟨x2, s3, gs3, h⟩ := h
  refine z_callVi (rest := []) X hW hS (cX11_refuse_met gs3) kb_X11_refuse kv_X11_refuse kl_X11_170 (it_v gq1).1 kX11 rfl rfl ⟨Nat.le_of_ble_eq_true rfl, Nat.le_of_ble_eq_true rfl⟩ rfl rfl (by decide) hl.1 dX11_copy_301 ⟨(by decide), (by decide)⟩ (fun H locs hW hS => ?_)
  exact z_eti X hlk hr hW hS h (by decide) (by decide) dX11_copy_304

def fX11_copy_409 (o : Nat) (v1 : Int32) (h : Hz) : Option (Int32 × Hz) := (b1 (gA 11 30 o h) fun a1 => (b1 (gA 11 1 o h) fun a2 => (b1 (xI 12 a2 v1 h) fun x3 => (b1 (xI 12 a1 x3 h) fun x4 => (b1 (yI a1 x3 (x4 + 1) h) fun s5 => some (1, s5))))))
set_option maxHeartbeats 4000000 in
set_option maxRecDepth 100000 in
theorem wX11_copy_409 {r0 : Int32} {h0 : Hz} (X : zX A D cy p s m args c cX11_copy RX11 11) (hlk : meth.locks = false) (hr : meth.sig.returnType = (some .int)) (o : Nat) (v1 : Int32) (h : Hz) (H : Heap) (locs : List Loc) (ls : Array Slot) (hl : lv_has ls 11 [(0, .ref o), (1, .int v1)]) (hW : zW A cy D h H) (hS : va_S A s.heap H locs) (h : fX11_copy_409 o v1 h = some (r0, h0)) : W p l e ({ frames := 2, cells := 0, slots := 0, locals := 47 } : Room) s m args below meth c H locs 0 0 (MQ below (va_Qi (fun r1 u => r1 = r0 ∧ u = h0) (zB A D cy) A) args s 0 0 A) (F0 m 409 ls []) := by
  obtain ⟨hx, hb, hts, hown, hK9, hml, hN9, hA9⟩ := id X
  unfold fX11_copy_409 at h
  refine lv_aload_n hx hb dX11_copy_409 rfl (lv_at hl 0 rfl) ?_
  replace h := b1_some h
  obtain ⟨a1, ga1, h⟩ := h
  refine z_getA X hW ga1 kX11 (by decide) (by decide) kf_X11_91 dX11_copy_410 ?_
  refine lv_aload_n hx hb dX11_copy_413 rfl (lv_at hl 0 rfl) ?_
  replace h := b1_some h
  obtain ⟨a2, ga2, h⟩ := h
  refine z_getA X hW ga2 kX11 (by decide) (by decide) kf_X11_13 dX11_copy_414 ?_
  refine lv_iload_n hx hb dX11_copy_417 rfl (lv_at hl 1 rfl) ?_
  replace h := b1_some h
  obtain ⟨x3, gx3, h⟩ := h
  refine z_aldI X hW gx3 dX11_copy_418 ?_
  refine lv_dup2_11 hx hb dX11_copy_419 rfl rfl ?_
  replace h := b1_some h
  obtain ⟨x4, gx4, h⟩ := h
  refine z_aldI X hW gx4 dX11_copy_420 ?_
  refine lv_iconst (v := 1) hx hb dX11_copy_421 (by decide) ?_
  refine lv_iadd hx hb dX11_copy_422 ?_
  replace h := b1_some h
  obtain ⟨s5, gs5, h⟩ := h
  refine z_astI X hW hS gs5 dX11_copy_423 (fun H locs hW hS => ?_)
  refine lv_iconst (v := 1) hx hb dX11_copy_424 (by decide) ?_
  exact z_eti X hlk hr hW hS h (by decide) (by decide) dX11_copy_425

def fX11_copy_360 : Nat → Nat → Int32 → Int32 → Int32 → Int32 → Int32 → Int32 → Hz → Option (Int32 × Hz)
  | 0, _, _, _, _, _, _, _, _ => none
  | n + 1, o, v1, v4, v5, v8, v9, v10, h => (if v5 ≤ v10 then fX11_copy_409 o v1 h else (if v8 = v9 then fX11_copy_409 o v1 h else (b1 (gA 11 13 o h) fun a3 => (b1 (gA 11 13 o h) fun a4 => (b1 (xL a4 (((32 * v8) + v4) + v10) h) fun x5 => (b1 (yL a3 ((32 * v9) + v10) x5 h) fun s6 => fX11_copy_360 n o v1 v4 v5 v8 v9 (v10 + 1) s6))))))
set_option maxHeartbeats 4000000 in
set_option maxRecDepth 100000 in
theorem wX11_copy_360 {r0 : Int32} {h0 : Hz} (X : zX A D cy p s m args c cX11_copy RX11 11) (hlk : meth.locks = false) (hr : meth.sig.returnType = (some .int)) : ∀ (n : Nat) (o : Nat) (v1 : Int32) (v4 : Int32) (v5 : Int32) (v8 : Int32) (v9 : Int32) (v10 : Int32) (h : Hz) (H : Heap) (locs : List Loc) (ls : Array Slot) (hl : lv_has ls 11 [(0, .ref o), (1, .int v1), (4, .int v4), (5, .int v5), (8, .int v8), (9, .int v9), (10, .int v10)]) (hW : zW A cy D h H) (hS : va_S A s.heap H locs) (h : fX11_copy_360 n o v1 v4 v5 v8 v9 v10 h = some (r0, h0)), W p l e ({ frames := 2, cells := 0, slots := 0, locals := 47 } : Room) s m args below meth c H locs 0 0 (MQ below (va_Qi (fun r1 u => r1 = r0 ∧ u = h0) (zB A D cy) A) args s 0 0 A) (F0 m 360 ls []) := by
  obtain ⟨hx, hb, hts, hown, hK9, hml, hN9, hA9⟩ := id X
  intro n
  induction n with
  | zero =>
    intro o v1 v4 v5 v8 v9 v10 h H locs ls hl hW hS h
    rw [fX11_copy_360] at h
    cases h
  | succ n ih =>
    intro o v1 v4 v5 v8 v9 v10 h H locs ls hl hW hS h
    rw [fX11_copy_360] at h
    refine lv_iload hx hb dX11_copy_360 (lv_at hl 6 rfl) ?_
    refine lv_iload hx hb dX11_copy_362 (lv_at hl 3 rfl) ?_
    refine lv_icmp_ge (tgt := 409) hx hb dX11_copy_364 (by decide) (fun c1 => ?_) (fun c1 => ?_)
    · replace h := it_t h c1
      exact wX11_copy_409 X hlk hr o v1 _ _ _ _ (lv_sub hl [0, 1] rfl) hW hS h
    · replace h := it_f h c1
      refine lv_iload hx hb dX11_copy_367 (lv_at hl 4 rfl) ?_
      refine lv_iload hx hb dX11_copy_369 (lv_at hl 5 rfl) ?_
      refine lv_icmp_eq (tgt := 409) hx hb dX11_copy_371 (by decide) (fun c2 => ?_) (fun c2 => ?_)
      · replace h := it_t h c2
        exact wX11_copy_409 X hlk hr o v1 _ _ _ _ (lv_sub hl [0, 1] rfl) hW hS h
      · replace h := it_f h c2
        refine lv_aload_n hx hb dX11_copy_374 rfl (lv_at hl 0 rfl) ?_
        replace h := b1_some h
        obtain ⟨a3, ga3, h⟩ := h
        refine z_getA X hW ga3 kX11 (by decide) (by decide) kf_X11_48 dX11_copy_375 ?_
        refine lv_bipush (v := 32) hx hb dX11_copy_378 (by decide) ?_
        refine lv_iload hx hb dX11_copy_380 (lv_at hl 5 rfl) ?_
        refine lv_imul hx hb dX11_copy_382 ?_
        refine lv_iload hx hb dX11_copy_383 (lv_at hl 6 rfl) ?_
        refine lv_iadd hx hb dX11_copy_385 ?_
        refine lv_aload_n hx hb dX11_copy_386 rfl (lv_at hl 0 rfl) ?_
        replace h := b1_some h
        obtain ⟨a4, ga4, h⟩ := h
        refine z_getA X hW ga4 kX11 (by decide) (by decide) kf_X11_48 dX11_copy_387 ?_
        refine lv_bipush (v := 32) hx hb dX11_copy_390 (by decide) ?_
        refine lv_iload hx hb dX11_copy_392 (lv_at hl 4 rfl) ?_
        refine lv_imul hx hb dX11_copy_394 ?_
        refine lv_iload hx hb dX11_copy_395 (lv_at hl 2 rfl) ?_
        refine lv_iadd hx hb dX11_copy_397 ?_
        refine lv_iload hx hb dX11_copy_398 (lv_at hl 6 rfl) ?_
        refine lv_iadd hx hb dX11_copy_400 ?_
        replace h := b1_some h
        obtain ⟨x5, gx5, h⟩ := h
        refine z_aldL X hW gx5 dX11_copy_401 ?_
        replace h := b1_some h
        obtain ⟨s6, gs6, h⟩ := h
        refine z_astL X hW hS gs6 dX11_copy_402 (fun H locs hW hS => ?_)
        refine lv_iinc (v := (v10 + 1)) (lv' := [(10, .int (v10 + 1)), (0, .ref o), (1, .int v1), (4, .int v4), (5, .int v5), (8, .int v8), (9, .int v9)]) hx hb dX11_copy_403 hl (k := 6) rfl rfl (by decide) rfl (fun ls hl => ?_)
        refine lv_goto (tgt := 360) hx hb dX11_copy_406 (by decide) ?_
        exact ih o v1 v4 v5 v8 v9 (v10 + 1) _ _ _ _ (lv_sub hl [1, 2, 3, 4, 5, 6, 0] rfl) hW hS h

def fX11_copy_315 : Nat → Nat → Int32 → Int32 → Int32 → Int32 → Int32 → Int32 → Hz → Option (Int32 × Hz)
  | 0, _, _, _, _, _, _, _, _ => none
  | n + 1, o, v1, v4, v5, v8, v9, v10, h => (if v5 ≤ v10 then fX11_copy_360 100000 o v1 v4 v5 v8 v9 0 h else (b1 (gA 11 13 o h) fun a2 => (b1 (gA 11 13 o h) fun a3 => (b1 (xL a3 (((32 * v8) + v4) + v10) h) fun x4 => (b1 (yL a2 ((32 * v9) + v10) x4 h) fun s5 => fX11_copy_315 n o v1 v4 v5 v8 v9 (v10 + 1) s5)))))
set_option maxHeartbeats 4000000 in
set_option maxRecDepth 100000 in
theorem wX11_copy_315 {r0 : Int32} {h0 : Hz} (X : zX A D cy p s m args c cX11_copy RX11 11) (hlk : meth.locks = false) (hr : meth.sig.returnType = (some .int)) : ∀ (n : Nat) (o : Nat) (v1 : Int32) (v4 : Int32) (v5 : Int32) (v8 : Int32) (v9 : Int32) (v10 : Int32) (h : Hz) (H : Heap) (locs : List Loc) (ls : Array Slot) (hl : lv_has ls 11 [(0, .ref o), (1, .int v1), (4, .int v4), (5, .int v5), (8, .int v8), (9, .int v9), (10, .int v10)]) (hW : zW A cy D h H) (hS : va_S A s.heap H locs) (h : fX11_copy_315 n o v1 v4 v5 v8 v9 v10 h = some (r0, h0)), W p l e ({ frames := 2, cells := 0, slots := 0, locals := 47 } : Room) s m args below meth c H locs 0 0 (MQ below (va_Qi (fun r1 u => r1 = r0 ∧ u = h0) (zB A D cy) A) args s 0 0 A) (F0 m 315 ls []) := by
  obtain ⟨hx, hb, hts, hown, hK9, hml, hN9, hA9⟩ := id X
  intro n
  induction n with
  | zero =>
    intro o v1 v4 v5 v8 v9 v10 h H locs ls hl hW hS h
    rw [fX11_copy_315] at h
    cases h
  | succ n ih =>
    intro o v1 v4 v5 v8 v9 v10 h H locs ls hl hW hS h
    rw [fX11_copy_315] at h
    refine lv_iload hx hb dX11_copy_315 (lv_at hl 6 rfl) ?_
    refine lv_iload hx hb dX11_copy_317 (lv_at hl 3 rfl) ?_
    refine lv_icmp_ge (tgt := 357) hx hb dX11_copy_319 (by decide) (fun c1 => ?_) (fun c1 => ?_)
    · replace h := it_t h c1
      refine lv_iconst (v := 0) hx hb dX11_copy_357 (by decide) ?_
      refine lv_istore (lv' := [(10, .int 0), (0, .ref o), (1, .int v1), (4, .int v4), (5, .int v5), (8, .int v8), (9, .int v9)]) hx hb dX11_copy_358 hl (by decide) rfl (fun ls hl => ?_)
      exact wX11_copy_360 X hlk hr _ o v1 v4 v5 v8 v9 0 _ _ _ _ (lv_sub hl [1, 2, 3, 4, 5, 6, 0] rfl) hW hS h
    · replace h := it_f h c1
      refine lv_aload_n hx hb dX11_copy_322 rfl (lv_at hl 0 rfl) ?_
      replace h := b1_some h
      obtain ⟨a2, ga2, h⟩ := h
      refine z_getA X hW ga2 kX11 (by decide) (by decide) kf_X11_48 dX11_copy_323 ?_
      refine lv_bipush (v := 32) hx hb dX11_copy_326 (by decide) ?_
      refine lv_iload hx hb dX11_copy_328 (lv_at hl 5 rfl) ?_
      refine lv_imul hx hb dX11_copy_330 ?_
      refine lv_iload hx hb dX11_copy_331 (lv_at hl 6 rfl) ?_
      refine lv_iadd hx hb dX11_copy_333 ?_
      refine lv_aload_n hx hb dX11_copy_334 rfl (lv_at hl 0 rfl) ?_
      replace h := b1_some h
      obtain ⟨a3, ga3, h⟩ := h
      refine z_getA X hW ga3 kX11 (by decide) (by decide) kf_X11_48 dX11_copy_335 ?_
      refine lv_bipush (v := 32) hx hb dX11_copy_338 (by decide) ?_
      refine lv_iload hx hb dX11_copy_340 (lv_at hl 4 rfl) ?_
      refine lv_imul hx hb dX11_copy_342 ?_
      refine lv_iload hx hb dX11_copy_343 (lv_at hl 2 rfl) ?_
      refine lv_iadd hx hb dX11_copy_345 ?_
      refine lv_iload hx hb dX11_copy_346 (lv_at hl 6 rfl) ?_
      refine lv_iadd hx hb dX11_copy_348 ?_
      replace h := b1_some h
      obtain ⟨x4, gx4, h⟩ := h
      refine z_aldL X hW gx4 dX11_copy_349 ?_
      replace h := b1_some h
      obtain ⟨s5, gs5, h⟩ := h
      refine z_astL X hW hS gs5 dX11_copy_350 (fun H locs hW hS => ?_)
      refine lv_iinc (v := (v10 + 1)) (lv' := [(10, .int (v10 + 1)), (0, .ref o), (1, .int v1), (4, .int v4), (5, .int v5), (8, .int v8), (9, .int v9)]) hx hb dX11_copy_351 hl (k := 6) rfl rfl (by decide) rfl (fun ls hl => ?_)
      refine lv_goto (tgt := 315) hx hb dX11_copy_354 (by decide) ?_
      exact ih o v1 v4 v5 v8 v9 (v10 + 1) _ _ _ _ (lv_sub hl [1, 2, 3, 4, 5, 6, 0] rfl) hW hS h

def fX11_copy_251 (o : Nat) (v1 : Int32) (v4 : Int32) (v5 : Int32) (v8 : Int32) (v9 : Int32) (h : Hz) : Option (Int32 × Hz) := (if 0 ≤ v5 then (b1 (tg 11 o h) fun _ => (b2 (fX11_isNear o v1 h) fun x3 s4 => (if x3 = 0 then (b1 (tg 11 o s4) fun _ => (b2 (fX11_refuse o (-5) s4) fun x14 s15 => some (x14, s15))) else (b1 (gA 11 10 o s4) fun a6 => (b1 (xI 12 a6 v8 s4) fun x7 => (if x7 = 0 then fX11_copy_298 o s4 else (b1 (gA 11 10 o s4) fun a9 => (b1 (xI 12 a9 v9 s4) fun x10 => (if x10 = 0 then fX11_copy_298 o s4 else (if v8 = v9 then fX11_copy_315 100000 o v1 v4 v5 v8 v9 0 s4 else fX11_copy_360 100000 o v1 v4 v5 v8 v9 0 s4)))))))))) else (b1 (tg 11 o h) fun _ => (b2 (fX11_refuse o (-4) h) fun x17 s18 => some (x17, s18))))
set_option maxHeartbeats 4000000 in
set_option maxRecDepth 100000 in
theorem wX11_copy_251 {r0 : Int32} {h0 : Hz} (X : zX A D cy p s m args c cX11_copy RX11 11) (hlk : meth.locks = false) (hr : meth.sig.returnType = (some .int)) (o : Nat) (v1 : Int32) (v4 : Int32) (v5 : Int32) (v8 : Int32) (v9 : Int32) (h : Hz) (H : Heap) (locs : List Loc) (ls : Array Slot) (hl : lv_has ls 11 [(0, .ref o), (1, .int v1), (4, .int v4), (5, .int v5), (8, .int v8), (9, .int v9)]) (hW : zW A cy D h H) (hS : va_S A s.heap H locs) (h : fX11_copy_251 o v1 v4 v5 v8 v9 h = some (r0, h0)) : W p l e ({ frames := 2, cells := 0, slots := 0, locals := 47 } : Room) s m args below meth c H locs 0 0 (MQ below (va_Qi (fun r1 u => r1 = r0 ∧ u = h0) (zB A D cy) A) args s 0 0 A) (F0 m 251 ls []) := by
  obtain ⟨hx, hb, hts, hown, hK9, hml, hN9, hA9⟩ := id X
  unfold fX11_copy_251 at h
  refine lv_iload hx hb dX11_copy_251 (lv_at hl 3 rfl) ?_
  refine lv_if_ge (tgt := 263) hx hb dX11_copy_253 (by decide) (fun c1 => ?_) (fun c1 => ?_)
  · replace h := it_t h c1
    refine lv_aload_n hx hb dX11_copy_263 rfl (lv_at hl 0 rfl) ?_
    refine lv_iload_n hx hb dX11_copy_264 rfl (lv_at hl 1 rfl) ?_
    replace h := b1_some h
    obtain ⟨q2, gq2, h⟩ := h
    replace h := b2_some h
    obtain ⟨x3, s4, gs4, h⟩ := h
    refine z_callVi (rest := []) X hW hS (cX11_isNear_met gs4) kb_X11_isNear kv_X11_isNear kl_X11_167 (it_v gq2).1 kX11 rfl rfl ⟨Nat.le_of_ble_eq_true rfl, Nat.le_of_ble_eq_true rfl⟩ rfl rfl (by decide) hl.1 dX11_copy_265 ⟨(by decide), (by decide)⟩ (fun H locs hW hS => ?_)
    refine lv_if_ne (tgt := 278) hx hb dX11_copy_268 (by decide) (fun c5 => ?_) (fun c5 => ?_)
    · replace h := it_f h c5
      refine lv_aload_n hx hb dX11_copy_278 rfl (lv_at hl 0 rfl) ?_
      replace h := b1_some h
      obtain ⟨a6, ga6, h⟩ := h
      refine z_getA X hW ga6 kX11 (by decide) (by decide) kf_X11_38 dX11_copy_279 ?_
      refine lv_iload hx hb dX11_copy_282 (lv_at hl 4 rfl) ?_
      replace h := b1_some h
      obtain ⟨x7, gx7, h⟩ := h
      refine z_aldI X hW gx7 dX11_copy_284 ?_
      refine lv_if_eq (tgt := 298) hx hb dX11_copy_285 (by decide) (fun c8 => ?_) (fun c8 => ?_)
      · replace h := it_t h c8
        exact wX11_copy_298 X hlk hr o _ _ _ _ (lv_sub hl [0] rfl) hW hS h
      · replace h := it_f h c8
        refine lv_aload_n hx hb dX11_copy_288 rfl (lv_at hl 0 rfl) ?_
        replace h := b1_some h
        obtain ⟨a9, ga9, h⟩ := h
        refine z_getA X hW ga9 kX11 (by decide) (by decide) kf_X11_38 dX11_copy_289 ?_
        refine lv_iload hx hb dX11_copy_292 (lv_at hl 5 rfl) ?_
        replace h := b1_some h
        obtain ⟨x10, gx10, h⟩ := h
        refine z_aldI X hW gx10 dX11_copy_294 ?_
        refine lv_if_ne (tgt := 305) hx hb dX11_copy_295 (by decide) (fun c11 => ?_) (fun c11 => ?_)
        · replace h := it_f h c11
          refine lv_iload hx hb dX11_copy_305 (lv_at hl 4 rfl) ?_
          refine lv_iload hx hb dX11_copy_307 (lv_at hl 5 rfl) ?_
          refine lv_icmp_ne (tgt := 357) hx hb dX11_copy_309 (by decide) (fun c12 => ?_) (fun c12 => ?_)
          · replace h := it_f h c12
            refine lv_iconst (v := 0) hx hb dX11_copy_357 (by decide) ?_
            refine lv_istore (lv' := [(10, .int 0), (0, .ref o), (1, .int v1), (4, .int v4), (5, .int v5), (8, .int v8), (9, .int v9)]) hx hb dX11_copy_358 hl (by decide) rfl (fun ls hl => ?_)
            exact wX11_copy_360 X hlk hr _ o v1 v4 v5 v8 v9 0 _ _ _ _ (lv_sub hl [1, 2, 3, 4, 5, 6, 0] rfl) hW hS h
          · replace h := it_t h c12
            refine lv_iconst (v := 0) hx hb dX11_copy_312 (by decide) ?_
            refine lv_istore (lv' := [(10, .int 0), (0, .ref o), (1, .int v1), (4, .int v4), (5, .int v5), (8, .int v8), (9, .int v9)]) hx hb dX11_copy_313 hl (by decide) rfl (fun ls hl => ?_)
            exact wX11_copy_315 X hlk hr _ o v1 v4 v5 v8 v9 0 _ _ _ _ (lv_sub hl [1, 2, 3, 4, 5, 6, 0] rfl) hW hS h
        · replace h := it_t h c11
          exact wX11_copy_298 X hlk hr o _ _ _ _ (lv_sub hl [0] rfl) hW hS h
    · replace h := it_t h c5
      refine lv_aload_n hx hb dX11_copy_271 rfl (lv_at hl 0 rfl) ?_
      refine lv_bipush (v := (-5)) hx hb dX11_copy_272 (by decide) ?_
      replace h := b1_some h
      obtain ⟨q13, gq13, h⟩ := h
      replace h := b2_some h
      obtain ⟨x14, s15, gs15, h⟩ := h
      refine z_callVi (rest := []) X hW hS (cX11_refuse_met gs15) kb_X11_refuse kv_X11_refuse kl_X11_170 (it_v gq13).1 kX11 rfl rfl ⟨Nat.le_of_ble_eq_true rfl, Nat.le_of_ble_eq_true rfl⟩ rfl rfl (by decide) hl.1 dX11_copy_274 ⟨(by decide), (by decide)⟩ (fun H locs hW hS => ?_)
      exact z_eti X hlk hr hW hS h (by decide) (by decide) dX11_copy_277
  · replace h := it_f h c1
    refine lv_aload_n hx hb dX11_copy_256 rfl (lv_at hl 0 rfl) ?_
    refine lv_bipush (v := (-4)) hx hb dX11_copy_257 (by decide) ?_
    replace h := b1_some h
    obtain ⟨q16, gq16, h⟩ := h
    replace h := b2_some h
    obtain ⟨x17, s18, gs18, h⟩ := h
    refine z_callVi (rest := []) X hW hS (cX11_refuse_met gs18) kb_X11_refuse kv_X11_refuse kl_X11_170 (it_v gq16).1 kX11 rfl rfl ⟨Nat.le_of_ble_eq_true rfl, Nat.le_of_ble_eq_true rfl⟩ rfl rfl (by decide) hl.1 dX11_copy_259 ⟨(by decide), (by decide)⟩ (fun H locs hW hS => ?_)
    exact z_eti X hlk hr hW hS h (by decide) (by decide) dX11_copy_262

def fX11_copy_164 (o : Nat) (v1 : Int32) (v4 : Int32) (v5 : Int32) (v6 : Int32) (v7 : Int32) (v8 : Int32) (v9 : Int32) (h : Hz) : Option (Int32 × Hz) := (if v6 = 0 then fX11_copy_174 o h else (if v7 = 0 then fX11_copy_174 o h else (if v5 < 0 then fX11_copy_251 o v1 v4 v5 v8 v9 h else (b1 (gA 11 10 o h) fun a4 => (b1 (xI 12 a4 v8 h) fun x5 => (if x5 = 2 then (b1 (gA 11 10 o h) fun a7 => (b1 (xI 12 a7 v9 h) fun x8 => (if x8 = 2 then (if v4 < 0 then fX11_copy_244 o h else (b1 (gA 11 12 o h) fun a11 => (b1 (xI 12 a11 v8 h) fun x12 => (if 0 < (lg_cmp (v4.toInt64 + v5.toInt64) x12.toInt64) then fX11_copy_244 o h else (b1 (gA 11 12 o h) fun a14 => (b1 (xI 12 a14 v9 h) fun x15 => (if v5 ≤ x15 then fX11_copy_251 o v1 v4 v5 v8 v9 h else fX11_copy_244 o h))))))) else fX11_copy_251 o v1 v4 v5 v8 v9 h))) else fX11_copy_251 o v1 v4 v5 v8 v9 h))))))
set_option maxHeartbeats 4000000 in
set_option maxRecDepth 100000 in
theorem wX11_copy_164 {r0 : Int32} {h0 : Hz} (X : zX A D cy p s m args c cX11_copy RX11 11) (hlk : meth.locks = false) (hr : meth.sig.returnType = (some .int)) (o : Nat) (v1 : Int32) (v4 : Int32) (v5 : Int32) (v6 : Int32) (v7 : Int32) (v8 : Int32) (v9 : Int32) (h : Hz) (H : Heap) (locs : List Loc) (ls : Array Slot) (hl : lv_has ls 11 [(0, .ref o), (1, .int v1), (4, .int v4), (5, .int v5), (6, .int v6), (7, .int v7), (8, .int v8), (9, .int v9)]) (hW : zW A cy D h H) (hS : va_S A s.heap H locs) (h : fX11_copy_164 o v1 v4 v5 v6 v7 v8 v9 h = some (r0, h0)) : W p l e ({ frames := 2, cells := 0, slots := 0, locals := 47 } : Room) s m args below meth c H locs 0 0 (MQ below (va_Qi (fun r1 u => r1 = r0 ∧ u = h0) (zB A D cy) A) args s 0 0 A) (F0 m 164 ls []) := by
  obtain ⟨hx, hb, hts, hown, hK9, hml, hN9, hA9⟩ := id X
  unfold fX11_copy_164 at h
  refine lv_iload hx hb dX11_copy_164 (lv_at hl 4 rfl) ?_
  refine lv_if_eq (tgt := 174) hx hb dX11_copy_166 (by decide) (fun c1 => ?_) (fun c1 => ?_)
  · replace h := it_t h c1
    exact wX11_copy_174 X hlk hr o _ _ _ _ (lv_sub hl [0] rfl) hW hS h
  · replace h := it_f h c1
    refine lv_iload hx hb dX11_copy_169 (lv_at hl 5 rfl) ?_
    refine lv_if_ne (tgt := 181) hx hb dX11_copy_171 (by decide) (fun c2 => ?_) (fun c2 => ?_)
    · replace h := it_f h c2
      refine lv_iload hx hb dX11_copy_181 (lv_at hl 3 rfl) ?_
      refine lv_if_lt (tgt := 251) hx hb dX11_copy_183 (by decide) (fun c3 => ?_) (fun c3 => ?_)
      · replace h := it_t h c3
        exact wX11_copy_251 X hlk hr o v1 v4 v5 v8 v9 _ _ _ _ (lv_sub hl [0, 1, 2, 3, 6, 7] rfl) hW hS h
      · replace h := it_f h c3
        refine lv_aload_n hx hb dX11_copy_186 rfl (lv_at hl 0 rfl) ?_
        replace h := b1_some h
        obtain ⟨a4, ga4, h⟩ := h
        refine z_getA X hW ga4 kX11 (by decide) (by decide) kf_X11_38 dX11_copy_187 ?_
        refine lv_iload hx hb dX11_copy_190 (lv_at hl 6 rfl) ?_
        replace h := b1_some h
        obtain ⟨x5, gx5, h⟩ := h
        refine z_aldI X hW gx5 dX11_copy_192 ?_
        refine lv_iconst (v := 2) hx hb dX11_copy_193 (by decide) ?_
        refine lv_icmp_ne (tgt := 251) hx hb dX11_copy_194 (by decide) (fun c6 => ?_) (fun c6 => ?_)
        · replace h := it_f h c6
          exact wX11_copy_251 X hlk hr o v1 v4 v5 v8 v9 _ _ _ _ (lv_sub hl [0, 1, 2, 3, 6, 7] rfl) hW hS h
        · replace h := it_t h c6
          refine lv_aload_n hx hb dX11_copy_197 rfl (lv_at hl 0 rfl) ?_
          replace h := b1_some h
          obtain ⟨a7, ga7, h⟩ := h
          refine z_getA X hW ga7 kX11 (by decide) (by decide) kf_X11_38 dX11_copy_198 ?_
          refine lv_iload hx hb dX11_copy_201 (lv_at hl 7 rfl) ?_
          replace h := b1_some h
          obtain ⟨x8, gx8, h⟩ := h
          refine z_aldI X hW gx8 dX11_copy_203 ?_
          refine lv_iconst (v := 2) hx hb dX11_copy_204 (by decide) ?_
          refine lv_icmp_ne (tgt := 251) hx hb dX11_copy_205 (by decide) (fun c9 => ?_) (fun c9 => ?_)
          · replace h := it_f h c9
            exact wX11_copy_251 X hlk hr o v1 v4 v5 v8 v9 _ _ _ _ (lv_sub hl [0, 1, 2, 3, 6, 7] rfl) hW hS h
          · replace h := it_t h c9
            refine lv_iload hx hb dX11_copy_208 (lv_at hl 2 rfl) ?_
            refine lv_if_lt (tgt := 244) hx hb dX11_copy_210 (by decide) (fun c10 => ?_) (fun c10 => ?_)
            · replace h := it_t h c10
              exact wX11_copy_244 X hlk hr o _ _ _ _ (lv_sub hl [0] rfl) hW hS h
            · replace h := it_f h c10
              refine lv_iload hx hb dX11_copy_213 (lv_at hl 2 rfl) ?_
              refine lv_i2l (v := v4.toInt64) hx hb dX11_copy_215 rfl ?_
              refine lv_iload hx hb dX11_copy_216 (lv_at hl 3 rfl) ?_
              refine lv_i2l (v := v5.toInt64) hx hb dX11_copy_218 rfl ?_
              refine lv_ladd hx hb dX11_copy_219 ?_
              refine lv_aload_n hx hb dX11_copy_220 rfl (lv_at hl 0 rfl) ?_
              replace h := b1_some h
              obtain ⟨a11, ga11, h⟩ := h
              refine z_getA X hW ga11 kX11 (by decide) (by decide) kf_X11_44 dX11_copy_221 ?_
              refine lv_iload hx hb dX11_copy_224 (lv_at hl 6 rfl) ?_
              replace h := b1_some h
              obtain ⟨x12, gx12, h⟩ := h
              refine z_aldI X hW gx12 dX11_copy_226 ?_
              refine lv_i2l (v := x12.toInt64) hx hb dX11_copy_227 rfl ?_
              refine W.lcmp hx hb dX11_copy_228 ?_
              refine lv_if_gt (tgt := 244) hx hb dX11_copy_229 (by decide) (fun c13 => ?_) (fun c13 => ?_)
              · replace h := it_t h c13
                exact wX11_copy_244 X hlk hr o _ _ _ _ (lv_sub hl [0] rfl) hW hS h
              · replace h := it_f h c13
                refine lv_iload hx hb dX11_copy_232 (lv_at hl 3 rfl) ?_
                refine lv_aload_n hx hb dX11_copy_234 rfl (lv_at hl 0 rfl) ?_
                replace h := b1_some h
                obtain ⟨a14, ga14, h⟩ := h
                refine z_getA X hW ga14 kX11 (by decide) (by decide) kf_X11_44 dX11_copy_235 ?_
                refine lv_iload hx hb dX11_copy_238 (lv_at hl 7 rfl) ?_
                replace h := b1_some h
                obtain ⟨x15, gx15, h⟩ := h
                refine z_aldI X hW gx15 dX11_copy_240 ?_
                refine lv_icmp_le (tgt := 251) hx hb dX11_copy_241 (by decide) (fun c16 => ?_) (fun c16 => ?_)
                · replace h := it_t h c16
                  exact wX11_copy_251 X hlk hr o v1 v4 v5 v8 v9 _ _ _ _ (lv_sub hl [0, 1, 2, 3, 6, 7] rfl) hW hS h
                · replace h := it_f h c16
                  exact wX11_copy_244 X hlk hr o _ _ _ _ (lv_sub hl [0] rfl) hW hS h
    · replace h := it_t h c2
      exact wX11_copy_174 X hlk hr o _ _ _ _ (lv_sub hl [0] rfl) hW hS h

def fX11_copy_108 (o : Nat) (v1 : Int32) (v4 : Int32) (v5 : Int32) (v6 : Int32) (v7 : Int32) (v8 : Int32) (v9 : Int32) (h : Hz) : Option (Int32 × Hz) := (if v6 = 0 then fX11_copy_164 o v1 v4 v5 v6 v7 v8 v9 h else (if v7 = 0 then fX11_copy_164 o v1 v4 v5 v6 v7 v8 v9 h else (b1 (gA 11 10 o h) fun a3 => (b1 (xI 12 a3 v8 h) fun x4 => (if x4 = 2 then (b1 (gA 11 10 o h) fun a6 => (b1 (xI 12 a6 v9 h) fun x7 => (if x7 = 2 then (b1 (gA 11 11 o h) fun a9 => (b1 (xI 12 a9 v8 h) fun x10 => (b1 (gA 11 11 o h) fun a11 => (b1 (xI 12 a11 v9 h) fun x12 => (if x10 = x12 then fX11_copy_164 o v1 v4 v5 v6 v7 v8 v9 h else (b1 (tg 11 o h) fun _ => (b2 (fX11_refuse o (-2) h) fun x15 s16 => some (x15, s16)))))))) else fX11_copy_164 o v1 v4 v5 v6 v7 v8 v9 h))) else fX11_copy_164 o v1 v4 v5 v6 v7 v8 v9 h)))))
set_option maxHeartbeats 4000000 in
set_option maxRecDepth 100000 in
theorem wX11_copy_108 {r0 : Int32} {h0 : Hz} (X : zX A D cy p s m args c cX11_copy RX11 11) (hlk : meth.locks = false) (hr : meth.sig.returnType = (some .int)) (o : Nat) (v1 : Int32) (v4 : Int32) (v5 : Int32) (v6 : Int32) (v7 : Int32) (v8 : Int32) (v9 : Int32) (h : Hz) (H : Heap) (locs : List Loc) (ls : Array Slot) (hl : lv_has ls 11 [(0, .ref o), (1, .int v1), (4, .int v4), (5, .int v5), (6, .int v6), (7, .int v7), (8, .int v8), (9, .int v9)]) (hW : zW A cy D h H) (hS : va_S A s.heap H locs) (h : fX11_copy_108 o v1 v4 v5 v6 v7 v8 v9 h = some (r0, h0)) : W p l e ({ frames := 2, cells := 0, slots := 0, locals := 47 } : Room) s m args below meth c H locs 0 0 (MQ below (va_Qi (fun r1 u => r1 = r0 ∧ u = h0) (zB A D cy) A) args s 0 0 A) (F0 m 108 ls []) := by
  obtain ⟨hx, hb, hts, hown, hK9, hml, hN9, hA9⟩ := id X
  unfold fX11_copy_108 at h
  refine lv_iload hx hb dX11_copy_108 (lv_at hl 4 rfl) ?_
  refine lv_if_eq (tgt := 164) hx hb dX11_copy_110 (by decide) (fun c1 => ?_) (fun c1 => ?_)
  · replace h := it_t h c1
    exact wX11_copy_164 X hlk hr o v1 v4 v5 v6 v7 v8 v9 _ _ _ _ (lv_sub hl [0, 1, 2, 3, 4, 5, 6, 7] rfl) hW hS h
  · replace h := it_f h c1
    refine lv_iload hx hb dX11_copy_113 (lv_at hl 5 rfl) ?_
    refine lv_if_eq (tgt := 164) hx hb dX11_copy_115 (by decide) (fun c2 => ?_) (fun c2 => ?_)
    · replace h := it_t h c2
      exact wX11_copy_164 X hlk hr o v1 v4 v5 v6 v7 v8 v9 _ _ _ _ (lv_sub hl [0, 1, 2, 3, 4, 5, 6, 7] rfl) hW hS h
    · replace h := it_f h c2
      refine lv_aload_n hx hb dX11_copy_118 rfl (lv_at hl 0 rfl) ?_
      replace h := b1_some h
      obtain ⟨a3, ga3, h⟩ := h
      refine z_getA X hW ga3 kX11 (by decide) (by decide) kf_X11_38 dX11_copy_119 ?_
      refine lv_iload hx hb dX11_copy_122 (lv_at hl 6 rfl) ?_
      replace h := b1_some h
      obtain ⟨x4, gx4, h⟩ := h
      refine z_aldI X hW gx4 dX11_copy_124 ?_
      refine lv_iconst (v := 2) hx hb dX11_copy_125 (by decide) ?_
      refine lv_icmp_ne (tgt := 164) hx hb dX11_copy_126 (by decide) (fun c5 => ?_) (fun c5 => ?_)
      · replace h := it_f h c5
        exact wX11_copy_164 X hlk hr o v1 v4 v5 v6 v7 v8 v9 _ _ _ _ (lv_sub hl [0, 1, 2, 3, 4, 5, 6, 7] rfl) hW hS h
      · replace h := it_t h c5
        refine lv_aload_n hx hb dX11_copy_129 rfl (lv_at hl 0 rfl) ?_
        replace h := b1_some h
        obtain ⟨a6, ga6, h⟩ := h
        refine z_getA X hW ga6 kX11 (by decide) (by decide) kf_X11_38 dX11_copy_130 ?_
        refine lv_iload hx hb dX11_copy_133 (lv_at hl 7 rfl) ?_
        replace h := b1_some h
        obtain ⟨x7, gx7, h⟩ := h
        refine z_aldI X hW gx7 dX11_copy_135 ?_
        refine lv_iconst (v := 2) hx hb dX11_copy_136 (by decide) ?_
        refine lv_icmp_ne (tgt := 164) hx hb dX11_copy_137 (by decide) (fun c8 => ?_) (fun c8 => ?_)
        · replace h := it_f h c8
          exact wX11_copy_164 X hlk hr o v1 v4 v5 v6 v7 v8 v9 _ _ _ _ (lv_sub hl [0, 1, 2, 3, 4, 5, 6, 7] rfl) hW hS h
        · replace h := it_t h c8
          refine lv_aload_n hx hb dX11_copy_140 rfl (lv_at hl 0 rfl) ?_
          replace h := b1_some h
          obtain ⟨a9, ga9, h⟩ := h
          refine z_getA X hW ga9 kX11 (by decide) (by decide) kf_X11_41 dX11_copy_141 ?_
          refine lv_iload hx hb dX11_copy_144 (lv_at hl 6 rfl) ?_
          replace h := b1_some h
          obtain ⟨x10, gx10, h⟩ := h
          refine z_aldI X hW gx10 dX11_copy_146 ?_
          refine lv_aload_n hx hb dX11_copy_147 rfl (lv_at hl 0 rfl) ?_
          replace h := b1_some h
          obtain ⟨a11, ga11, h⟩ := h
          refine z_getA X hW ga11 kX11 (by decide) (by decide) kf_X11_41 dX11_copy_148 ?_
          refine lv_iload hx hb dX11_copy_151 (lv_at hl 7 rfl) ?_
          replace h := b1_some h
          obtain ⟨x12, gx12, h⟩ := h
          refine z_aldI X hW gx12 dX11_copy_153 ?_
          refine lv_icmp_eq (tgt := 164) hx hb dX11_copy_154 (by decide) (fun c13 => ?_) (fun c13 => ?_)
          · replace h := it_t h c13
            exact wX11_copy_164 X hlk hr o v1 v4 v5 v6 v7 v8 v9 _ _ _ _ (lv_sub hl [0, 1, 2, 3, 4, 5, 6, 7] rfl) hW hS h
          · replace h := it_f h c13
            refine lv_aload_n hx hb dX11_copy_157 rfl (lv_at hl 0 rfl) ?_
            refine lv_bipush (v := (-2)) hx hb dX11_copy_158 (by decide) ?_
            replace h := b1_some h
            obtain ⟨q14, gq14, h⟩ := h
            replace h := b2_some h
            obtain ⟨x15, s16, gs16, h⟩ := h
            refine z_callVi (rest := []) X hW hS (cX11_refuse_met gs16) kb_X11_refuse kv_X11_refuse kl_X11_170 (it_v gq14).1 kX11 rfl rfl ⟨Nat.le_of_ble_eq_true rfl, Nat.le_of_ble_eq_true rfl⟩ rfl rfl (by decide) hl.1 dX11_copy_160 ⟨(by decide), (by decide)⟩ (fun H locs hW hS => ?_)
            exact z_eti X hlk hr hW hS h (by decide) (by decide) dX11_copy_163

def fX11_copy_85 (o : Nat) (v1 : Int32) (v4 : Int32) (v5 : Int32) (v6 : Int32) (v7 : Int32) (v8 : Int32) (v9 : Int32) (h : Hz) : Option (Int32 × Hz) := (if v7 = 0 then fX11_copy_108 o v1 v4 v5 v6 v7 v8 v9 h else (b1 (gA 11 10 o h) fun a2 => (b1 (xI 12 a2 v9 h) fun x3 => (if x3 = 1 then fX11_copy_101 o h else fX11_copy_108 o v1 v4 v5 v6 v7 v8 v9 h))))
set_option maxHeartbeats 4000000 in
set_option maxRecDepth 100000 in
theorem wX11_copy_85 {r0 : Int32} {h0 : Hz} (X : zX A D cy p s m args c cX11_copy RX11 11) (hlk : meth.locks = false) (hr : meth.sig.returnType = (some .int)) (o : Nat) (v1 : Int32) (v4 : Int32) (v5 : Int32) (v6 : Int32) (v7 : Int32) (v8 : Int32) (v9 : Int32) (h : Hz) (H : Heap) (locs : List Loc) (ls : Array Slot) (hl : lv_has ls 11 [(0, .ref o), (1, .int v1), (4, .int v4), (5, .int v5), (6, .int v6), (7, .int v7), (8, .int v8), (9, .int v9)]) (hW : zW A cy D h H) (hS : va_S A s.heap H locs) (h : fX11_copy_85 o v1 v4 v5 v6 v7 v8 v9 h = some (r0, h0)) : W p l e ({ frames := 2, cells := 0, slots := 0, locals := 47 } : Room) s m args below meth c H locs 0 0 (MQ below (va_Qi (fun r1 u => r1 = r0 ∧ u = h0) (zB A D cy) A) args s 0 0 A) (F0 m 85 ls []) := by
  obtain ⟨hx, hb, hts, hown, hK9, hml, hN9, hA9⟩ := id X
  unfold fX11_copy_85 at h
  refine lv_iload hx hb dX11_copy_85 (lv_at hl 5 rfl) ?_
  refine lv_if_eq (tgt := 108) hx hb dX11_copy_87 (by decide) (fun c1 => ?_) (fun c1 => ?_)
  · replace h := it_t h c1
    exact wX11_copy_108 X hlk hr o v1 v4 v5 v6 v7 v8 v9 _ _ _ _ (lv_sub hl [0, 1, 2, 3, 4, 5, 6, 7] rfl) hW hS h
  · replace h := it_f h c1
    refine lv_aload_n hx hb dX11_copy_90 rfl (lv_at hl 0 rfl) ?_
    replace h := b1_some h
    obtain ⟨a2, ga2, h⟩ := h
    refine z_getA X hW ga2 kX11 (by decide) (by decide) kf_X11_38 dX11_copy_91 ?_
    refine lv_iload hx hb dX11_copy_94 (lv_at hl 7 rfl) ?_
    replace h := b1_some h
    obtain ⟨x3, gx3, h⟩ := h
    refine z_aldI X hW gx3 dX11_copy_96 ?_
    refine lv_iconst (v := 1) hx hb dX11_copy_97 (by decide) ?_
    refine lv_icmp_ne (tgt := 108) hx hb dX11_copy_98 (by decide) (fun c4 => ?_) (fun c4 => ?_)
    · replace h := it_f h c4
      exact wX11_copy_108 X hlk hr o v1 v4 v5 v6 v7 v8 v9 _ _ _ _ (lv_sub hl [0, 1, 2, 3, 4, 5, 6, 7] rfl) hW hS h
    · replace h := it_t h c4
      exact wX11_copy_101 X hlk hr o _ _ _ _ (lv_sub hl [0] rfl) hW hS h

def fX11_copy (o : Nat) (v1 : Int32) (v2 : Int32) (v3 : Int32) (v4 : Int32) (v5 : Int32) (h : Hz) : Option (Int32 × Hz) := (b1 (tg 11 o h) fun _ => (b2 (fX11_isThere o v1 h) fun x2 s3 => (if x2 = 0 then (b1 (tg 11 o s3) fun _ => (b2 (fX11_refuse o (-1) s3) fun x25 s26 => some (x25, s26))) else (b1 (tg 11 o s3) fun _ => (b2 (fX11_hasPlaces o v1 s3) fun x6 s7 => (if x6 = 0 then (b1 (tg 11 o s7) fun _ => (b2 (fX11_refuse o (-2) s7) fun x22 s23 => some (x22, s23))) else (b1 (gA 11 3 o s7) fun a9 => (b1 (xI 12 a9 v1 s7) fun x10 => (b2 (fX11_isIn v2 x10 s7) fun x11 s12 => (b1 (gA 11 3 o s12) fun a13 => (b1 (xI 12 a13 v1 s12) fun x14 => (b2 (fX11_isIn v3 x14 s12) fun x15 s16 => (if x11 = 0 then fX11_copy_85 o v1 v4 v5 x11 x15 ((8 * v1) + v2) ((8 * v1) + v3) s16 else (b1 (gA 11 10 o s16) fun a18 => (b1 (xI 12 a18 ((8 * v1) + v2) s16) fun x19 => (if x19 = 1 then fX11_copy_101 o s16 else fX11_copy_85 o v1 v4 v5 x11 x15 ((8 * v1) + v2) ((8 * v1) + v3) s16))))))))))))))))
set_option maxHeartbeats 4000000 in
set_option maxRecDepth 100000 in
theorem wX11_copy_0 {r0 : Int32} {h0 : Hz} (X : zX A D cy p s m args c cX11_copy RX11 11) (hlk : meth.locks = false) (hr : meth.sig.returnType = (some .int)) (o : Nat) (v1 : Int32) (v2 : Int32) (v3 : Int32) (v4 : Int32) (v5 : Int32) (h : Hz) (H : Heap) (locs : List Loc) (ls : Array Slot) (hl : lv_has ls 11 [(0, .ref o), (1, .int v1), (2, .int v2), (3, .int v3), (4, .int v4), (5, .int v5)]) (hW : zW A cy D h H) (hS : va_S A s.heap H locs) (h : fX11_copy o v1 v2 v3 v4 v5 h = some (r0, h0)) : W p l e ({ frames := 2, cells := 0, slots := 0, locals := 47 } : Room) s m args below meth c H locs 0 0 (MQ below (va_Qi (fun r1 u => r1 = r0 ∧ u = h0) (zB A D cy) A) args s 0 0 A) (F0 m 0 ls []) := by
  obtain ⟨hx, hb, hts, hown, hK9, hml, hN9, hA9⟩ := id X
  unfold fX11_copy at h
  refine lv_aload_n hx hb dX11_copy_0 rfl (lv_at hl 0 rfl) ?_
  refine lv_iload_n hx hb dX11_copy_1 rfl (lv_at hl 1 rfl) ?_
  replace h := b1_some h
  obtain ⟨q1, gq1, h⟩ := h
  replace h := b2_some h
  obtain ⟨x2, s3, gs3, h⟩ := h
  refine z_callVi (rest := []) X hW hS (cX11_isThere_met gs3) kb_X11_isThere kv_X11_isThere kl_X11_178 (it_v gq1).1 kX11 rfl rfl ⟨Nat.le_of_ble_eq_true rfl, Nat.le_of_ble_eq_true rfl⟩ rfl rfl (by decide) hl.1 dX11_copy_2 ⟨(by decide), (by decide)⟩ (fun H locs hW hS => ?_)
  refine lv_if_ne (tgt := 14) hx hb dX11_copy_5 (by decide) (fun c4 => ?_) (fun c4 => ?_)
  · replace h := it_f h c4
    refine lv_aload_n hx hb dX11_copy_14 rfl (lv_at hl 0 rfl) ?_
    refine lv_iload_n hx hb dX11_copy_15 rfl (lv_at hl 1 rfl) ?_
    replace h := b1_some h
    obtain ⟨q5, gq5, h⟩ := h
    replace h := b2_some h
    obtain ⟨x6, s7, gs7, h⟩ := h
    refine z_callVi (rest := []) X hW hS (cX11_hasPlaces_met gs7) kb_X11_hasPlaces kv_X11_hasPlaces kl_X11_181 (it_v gq5).1 kX11 rfl rfl ⟨Nat.le_of_ble_eq_true rfl, Nat.le_of_ble_eq_true rfl⟩ rfl rfl (by decide) hl.1 dX11_copy_16 ⟨(by decide), (by decide)⟩ (fun H locs hW hS => ?_)
    refine lv_if_ne (tgt := 29) hx hb dX11_copy_19 (by decide) (fun c8 => ?_) (fun c8 => ?_)
    · replace h := it_f h c8
      refine lv_iload_n hx hb dX11_copy_29 rfl (lv_at hl 2 rfl) ?_
      refine lv_aload_n hx hb dX11_copy_30 rfl (lv_at hl 0 rfl) ?_
      replace h := b1_some h
      obtain ⟨a9, ga9, h⟩ := h
      refine z_getA X hW ga9 kX11 (by decide) (by decide) kf_X11_19 dX11_copy_31 ?_
      refine lv_iload_n hx hb dX11_copy_34 rfl (lv_at hl 1 rfl) ?_
      replace h := b1_some h
      obtain ⟨x10, gx10, h⟩ := h
      refine z_aldI X hW gx10 dX11_copy_35 ?_
      replace h := b2_some h
      obtain ⟨x11, s12, gs12, h⟩ := h
      refine z_callSi (rest := []) X hW hS (cX11_isIn_met gs12) kb_X11_isIn ks_X11_isIn kl_X11_149 rfl rfl ⟨Nat.le_of_ble_eq_true rfl, Nat.le_of_ble_eq_true rfl⟩ rfl rfl (by decide) hl.1 dX11_copy_36 ⟨(by decide), (by decide)⟩ (fun H locs hW hS => ?_)
      refine lv_istore (lv' := [(6, .int x11), (0, .ref o), (1, .int v1), (2, .int v2), (3, .int v3), (4, .int v4), (5, .int v5)]) hx hb dX11_copy_39 hl (by decide) rfl (fun ls hl => ?_)
      refine lv_iload_n hx hb dX11_copy_41 rfl (lv_at hl 4 rfl) ?_
      refine lv_aload_n hx hb dX11_copy_42 rfl (lv_at hl 1 rfl) ?_
      replace h := b1_some h
      obtain ⟨a13, ga13, h⟩ := h
      refine z_getA X hW ga13 kX11 (by decide) (by decide) kf_X11_19 dX11_copy_43 ?_
      refine lv_iload_n hx hb dX11_copy_46 rfl (lv_at hl 2 rfl) ?_
      replace h := b1_some h
      obtain ⟨x14, gx14, h⟩ := h
      refine z_aldI X hW gx14 dX11_copy_47 ?_
      replace h := b2_some h
      obtain ⟨x15, s16, gs16, h⟩ := h
      refine z_callSi (rest := []) X hW hS (cX11_isIn_met gs16) kb_X11_isIn ks_X11_isIn kl_X11_149 rfl rfl ⟨Nat.le_of_ble_eq_true rfl, Nat.le_of_ble_eq_true rfl⟩ rfl rfl (by decide) hl.1 dX11_copy_48 ⟨(by decide), (by decide)⟩ (fun H locs hW hS => ?_)
      refine lv_istore (lv' := [(7, .int x15), (6, .int x11), (0, .ref o), (1, .int v1), (2, .int v2), (3, .int v3), (4, .int v4), (5, .int v5)]) hx hb dX11_copy_51 hl (by decide) rfl (fun ls hl => ?_)
      refine lv_bipush (v := 8) hx hb dX11_copy_53 (by decide) ?_
      refine lv_iload_n hx hb dX11_copy_55 rfl (lv_at hl 3 rfl) ?_
      refine lv_imul hx hb dX11_copy_56 ?_
      refine lv_iload_n hx hb dX11_copy_57 rfl (lv_at hl 4 rfl) ?_
      refine lv_iadd hx hb dX11_copy_58 ?_
      refine lv_istore (lv' := [(8, .int ((8 * v1) + v2)), (7, .int x15), (6, .int x11), (0, .ref o), (1, .int v1), (2, .int v2), (3, .int v3), (4, .int v4), (5, .int v5)]) hx hb dX11_copy_59 hl (by decide) rfl (fun ls hl => ?_)
      refine lv_bipush (v := 8) hx hb dX11_copy_61 (by decide) ?_
      refine lv_iload_n hx hb dX11_copy_63 rfl (lv_at hl 4 rfl) ?_
      refine lv_imul hx hb dX11_copy_64 ?_
      refine lv_iload_n hx hb dX11_copy_65 rfl (lv_at hl 6 rfl) ?_
      refine lv_iadd hx hb dX11_copy_66 ?_
      refine lv_istore (lv' := [(9, .int ((8 * v1) + v3)), (8, .int ((8 * v1) + v2)), (7, .int x15), (6, .int x11), (0, .ref o), (1, .int v1), (2, .int v2), (3, .int v3), (4, .int v4), (5, .int v5)]) hx hb dX11_copy_67 hl (by decide) rfl (fun ls hl => ?_)
      refine lv_iload hx hb dX11_copy_69 (lv_at hl 3 rfl) ?_
      refine lv_if_eq (tgt := 85) hx hb dX11_copy_71 (by decide) (fun c17 => ?_) (fun c17 => ?_)
      · replace h := it_t h c17
        exact wX11_copy_85 X hlk hr o v1 v4 v5 x11 x15 ((8 * v1) + v2) ((8 * v1) + v3) _ _ _ _ (lv_sub hl [4, 5, 8, 9, 3, 2, 1, 0] rfl) hW hS h
      · replace h := it_f h c17
        refine lv_aload_n hx hb dX11_copy_74 rfl (lv_at hl 4 rfl) ?_
        replace h := b1_some h
        obtain ⟨a18, ga18, h⟩ := h
        refine z_getA X hW ga18 kX11 (by decide) (by decide) kf_X11_38 dX11_copy_75 ?_
        refine lv_iload hx hb dX11_copy_78 (lv_at hl 1 rfl) ?_
        replace h := b1_some h
        obtain ⟨x19, gx19, h⟩ := h
        refine z_aldI X hW gx19 dX11_copy_80 ?_
        refine lv_iconst (v := 1) hx hb dX11_copy_81 (by decide) ?_
        refine lv_icmp_eq (tgt := 101) hx hb dX11_copy_82 (by decide) (fun c20 => ?_) (fun c20 => ?_)
        · replace h := it_t h c20
          exact wX11_copy_101 X hlk hr o _ _ _ _ (lv_sub hl [4] rfl) hW hS h
        · replace h := it_f h c20
          exact wX11_copy_85 X hlk hr o v1 v4 v5 x11 x15 ((8 * v1) + v2) ((8 * v1) + v3) _ _ _ _ (lv_sub hl [4, 5, 8, 9, 3, 2, 1, 0] rfl) hW hS h
    · replace h := it_t h c8
      refine lv_aload_n hx hb dX11_copy_22 rfl (lv_at hl 0 rfl) ?_
      refine lv_bipush (v := (-2)) hx hb dX11_copy_23 (by decide) ?_
      replace h := b1_some h
      obtain ⟨q21, gq21, h⟩ := h
      replace h := b2_some h
      obtain ⟨x22, s23, gs23, h⟩ := h
      refine z_callVi (rest := []) X hW hS (cX11_refuse_met gs23) kb_X11_refuse kv_X11_refuse kl_X11_170 (it_v gq21).1 kX11 rfl rfl ⟨Nat.le_of_ble_eq_true rfl, Nat.le_of_ble_eq_true rfl⟩ rfl rfl (by decide) hl.1 dX11_copy_25 ⟨(by decide), (by decide)⟩ (fun H locs hW hS => ?_)
      exact z_eti X hlk hr hW hS h (by decide) (by decide) dX11_copy_28
  · replace h := it_t h c4
    refine lv_aload_n hx hb dX11_copy_8 rfl (lv_at hl 0 rfl) ?_
    refine lv_iconst (v := (-1)) hx hb dX11_copy_9 (by decide) ?_
    replace h := b1_some h
    obtain ⟨q24, gq24, h⟩ := h
    replace h := b2_some h
    obtain ⟨x25, s26, gs26, h⟩ := h
    refine z_callVi (rest := []) X hW hS (cX11_refuse_met gs26) kb_X11_refuse kv_X11_refuse kl_X11_170 (it_v gq24).1 kX11 rfl rfl ⟨Nat.le_of_ble_eq_true rfl, Nat.le_of_ble_eq_true rfl⟩ rfl rfl (by decide) hl.1 dX11_copy_10 ⟨(by decide), (by decide)⟩ (fun H locs hW hS => ?_)
    exact z_eti X hlk hr hW hS h (by decide) (by decide) dX11_copy_13

set_option maxHeartbeats 4000000 in
set_option maxRecDepth 100000 in
theorem cX11_copy_met {l : Launch} {A : Nat → Prop} {D : va_G} {cy : Nat → ClassId} {r0 : Int32} {h0 : Hz} {o : Nat} {v1 : Int32} {v2 : Int32} {v3 : Int32} {v4 : Int32} {v5 : Int32} {h : Hz} (g : fX11_copy o v1 v2 v3 v4 v5 h = some (r0, h0)) : Met l yX11_copy (Cond.code yX11_copy cX11_copy 11 (some .int) :: wT) ({ frames := 2, cells := 0, slots := 0, locals := 47 } : Room) (va_Pc [.ref o, .int v1, .int v2, .int v3, .int v4, .int v5] (zS A D cy h)) (va_Qi (fun r1 u => r1 = r0 ∧ u = h0) (zB A D cy) A) 0 0 A := by
  refine Met.ofW (cc := cX11_copy) (maxL := 11) (ret := (some .int)) (by decide) rfl ?_
  intro p e s m args below meth c s₁ B hml hv
  obtain ⟨rfl, hW, hK, hN, hA⟩ := hv
  have X : zX A D cy p s m _ c cX11_copy RX11 11 := ⟨B.exec, B.bytes, fun w hw => atoms_spec (ws := Cond.code yX11_copy cX11_copy 11 (some .int) :: wT) B.pre w (List.mem_cons_of_mem _ hw), findClass_of_methodNamed B.named, hK, hml, hN, hA⟩
  have hl := lv_entry [.ref o, .int v1, .int v2, .int v3, .int v4, .int v5] (n := 11) (Nat.le_of_ble_eq_true rfl)
  rw [lg_entry_eq]
  generalize (lg_sl [.ref o, .int v1, .int v2, .int v3, .int v4, .int v5] ++ List.replicate (11 - (lg_sl [.ref o, .int v1, .int v2, .int v3, .int v4, .int v5]).length) Slot.unset).toArray = ls at hl ⊢
  have hl : lv_has ls 11 [(0, .ref o), (1, .int v1), (2, .int v2), (3, .int v3), (4, .int v4), (5, .int v5)] := hl
  exact wX11_copy_0 X B.notSynchronized B.returns o v1 v2 v3 v4 v5 _ _ _ _ (lv_sub hl [0, 1, 2, 3, 4, 5] rfl) hW va_S.rf g

theorem dX11_element_0 : decode cX11_element 0 = .ok (.aload_n 0, 1) := by decide +kernel
theorem dX11_element_1 : decode cX11_element 1 = .ok (.iload_n 1, 1) := by decide +kernel
theorem dX11_element_2 : decode cX11_element 2 = .ok (.iload_n 2, 1) := by decide +kernel
theorem dX11_element_3 : decode cX11_element 3 = .ok (.invokevirtual 184, 3) := by decide +kernel
theorem dX11_element_6 : decode cX11_element 6 = .ok (.ifCond .eq 5, 3) := by decide +kernel
theorem dX11_element_9 : decode cX11_element 9 = .ok (.lconst 0, 1) := by decide +kernel
theorem dX11_element_10 : decode cX11_element 10 = .ok (.lreturn, 1) := by decide +kernel
theorem dX11_element_11 : decode cX11_element 11 = .ok (.bipush 8, 2) := by decide +kernel
theorem dX11_element_13 : decode cX11_element 13 = .ok (.iload_n 1, 1) := by decide +kernel
theorem dX11_element_14 : decode cX11_element 14 = .ok (.imul, 1) := by decide +kernel
theorem dX11_element_15 : decode cX11_element 15 = .ok (.iload_n 2, 1) := by decide +kernel
theorem dX11_element_16 : decode cX11_element 16 = .ok (.iadd, 1) := by decide +kernel
theorem dX11_element_17 : decode cX11_element 17 = .ok (.istore 4, 2) := by decide +kernel
theorem dX11_element_19 : decode cX11_element 19 = .ok (.aload_n 0, 1) := by decide +kernel
theorem dX11_element_20 : decode cX11_element 20 = .ok (.getfield 38, 3) := by decide +kernel
theorem dX11_element_23 : decode cX11_element 23 = .ok (.iload 4, 2) := by decide +kernel
theorem dX11_element_25 : decode cX11_element 25 = .ok (.iaload, 1) := by decide +kernel
theorem dX11_element_26 : decode cX11_element 26 = .ok (.iconst 2, 1) := by decide +kernel
theorem dX11_element_27 : decode cX11_element 27 = .ok (.if_icmp .ne 32, 3) := by decide +kernel
theorem dX11_element_30 : decode cX11_element 30 = .ok (.iload_n 3, 1) := by decide +kernel
theorem dX11_element_31 : decode cX11_element 31 = .ok (.aload_n 0, 1) := by decide +kernel
theorem dX11_element_32 : decode cX11_element 32 = .ok (.getfield 44, 3) := by decide +kernel
theorem dX11_element_35 : decode cX11_element 35 = .ok (.iload 4, 2) := by decide +kernel
theorem dX11_element_37 : decode cX11_element 37 = .ok (.iaload, 1) := by decide +kernel
theorem dX11_element_38 : decode cX11_element 38 = .ok (.invokestatic 149, 3) := by decide +kernel
theorem dX11_element_41 : decode cX11_element 41 = .ok (.ifCond .eq 18, 3) := by decide +kernel
theorem dX11_element_44 : decode cX11_element 44 = .ok (.aload_n 0, 1) := by decide +kernel
theorem dX11_element_45 : decode cX11_element 45 = .ok (.getfield 48, 3) := by decide +kernel
theorem dX11_element_48 : decode cX11_element 48 = .ok (.bipush 32, 2) := by decide +kernel
theorem dX11_element_50 : decode cX11_element 50 = .ok (.iload 4, 2) := by decide +kernel
theorem dX11_element_52 : decode cX11_element 52 = .ok (.imul, 1) := by decide +kernel
theorem dX11_element_53 : decode cX11_element 53 = .ok (.iload_n 3, 1) := by decide +kernel
theorem dX11_element_54 : decode cX11_element 54 = .ok (.iadd, 1) := by decide +kernel
theorem dX11_element_55 : decode cX11_element 55 = .ok (.laload, 1) := by decide +kernel
theorem dX11_element_56 : decode cX11_element 56 = .ok (.goto 4, 3) := by decide +kernel
theorem dX11_element_59 : decode cX11_element 59 = .ok (.lconst 0, 1) := by decide +kernel
theorem dX11_element_60 : decode cX11_element 60 = .ok (.lreturn, 1) := by decide +kernel
def fX11_element (o : Nat) (v1 : Int32) (v2 : Int32) (v3 : Int32) (h : Hz) : Option (Int64 × Hz) := (b1 (tg 11 o h) fun _ => (b2 (fX11_place o v1 v2 h) fun x2 s3 => (if x2 = 0 then (b1 (gA 11 10 o s3) fun a5 => (b1 (xI 12 a5 ((8 * v1) + v2) s3) fun x6 => (if x6 = 2 then (b1 (gA 11 12 o s3) fun a8 => (b1 (xI 12 a8 ((8 * v1) + v2) s3) fun x9 => (b2 (fX11_isIn v3 x9 s3) fun x10 s11 => (if x10 = 0 then some (0, s11) else (b1 (gA 11 13 o s11) fun a13 => (b1 (xL a13 ((32 * ((8 * v1) + v2)) + v3) s11) fun x14 => some (x14, s11))))))) else some (0, s3)))) else some (0, s3))))
set_option maxHeartbeats 4000000 in
set_option maxRecDepth 100000 in
theorem wX11_element_0 {r0 : Int64} {h0 : Hz} (X : zX A D cy p s m args c cX11_element RX11 5) (hlk : meth.locks = false) (hr : meth.sig.returnType = (some .long)) (o : Nat) (v1 : Int32) (v2 : Int32) (v3 : Int32) (h : Hz) (H : Heap) (locs : List Loc) (ls : Array Slot) (hl : lv_has ls 5 [(0, .ref o), (1, .int v1), (2, .int v2), (3, .int v3)]) (hW : zW A cy D h H) (hS : va_S A s.heap H locs) (h : fX11_element o v1 v2 v3 h = some (r0, h0)) : W p l e ({ frames := 3, cells := 0, slots := 0, locals := 64 } : Room) s m args below meth c H locs 0 0 (MQ below (va_Ql (fun r1 u => r1 = r0 ∧ u = h0) (zB A D cy) A) args s 0 0 A) (F0 m 0 ls []) := by
  obtain ⟨hx, hb, hts, hown, hK9, hml, hN9, hA9⟩ := id X
  unfold fX11_element at h
  refine lv_aload_n hx hb dX11_element_0 rfl (lv_at hl 0 rfl) ?_
  refine lv_iload_n hx hb dX11_element_1 rfl (lv_at hl 1 rfl) ?_
  refine lv_iload_n hx hb dX11_element_2 rfl (lv_at hl 2 rfl) ?_
  replace h := b1_some h
  obtain ⟨q1, gq1, h⟩ := h
  replace h := b2_some h
  obtain ⟨x2, s3, gs3, h⟩ := h
  refine z_callVi (rest := []) X hW hS (cX11_place_met gs3) kb_X11_place kv_X11_place kl_X11_184 (it_v gq1).1 kX11 rfl rfl ⟨Nat.le_of_ble_eq_true rfl, Nat.le_of_ble_eq_true rfl⟩ rfl rfl (by decide) hl.1 dX11_element_3 ⟨(by decide), (by decide)⟩ (fun H locs hW hS => ?_)
  refine lv_if_eq (tgt := 11) hx hb dX11_element_6 (by decide) (fun c4 => ?_) (fun c4 => ?_)
  · replace h := it_t h c4
    refine lv_bipush (v := 8) hx hb dX11_element_11 (by decide) ?_
    refine lv_iload_n hx hb dX11_element_13 rfl (lv_at hl 1 rfl) ?_
    refine lv_imul hx hb dX11_element_14 ?_
    refine lv_iload_n hx hb dX11_element_15 rfl (lv_at hl 2 rfl) ?_
    refine lv_iadd hx hb dX11_element_16 ?_
    refine lv_istore (lv' := [(4, .int ((8 * v1) + v2)), (0, .ref o), (1, .int v1), (2, .int v2), (3, .int v3)]) hx hb dX11_element_17 hl (by decide) rfl (fun ls hl => ?_)
    refine lv_aload_n hx hb dX11_element_19 rfl (lv_at hl 1 rfl) ?_
    replace h := b1_some h
    obtain ⟨a5, ga5, h⟩ := h
    refine z_getA X hW ga5 kX11 (by decide) (by decide) kf_X11_38 dX11_element_20 ?_
    refine lv_iload hx hb dX11_element_23 (lv_at hl 0 rfl) ?_
    replace h := b1_some h
    obtain ⟨x6, gx6, h⟩ := h
    refine z_aldI X hW gx6 dX11_element_25 ?_
    refine lv_iconst (v := 2) hx hb dX11_element_26 (by decide) ?_
    refine lv_icmp_ne (tgt := 59) hx hb dX11_element_27 (by decide) (fun c7 => ?_) (fun c7 => ?_)
    · replace h := it_f h c7
      refine lv_lconst (v := 0) hx hb dX11_element_59 (by decide) ?_
      exact z_etl X hlk hr hW hS h (by decide) (by decide) dX11_element_60
    · replace h := it_t h c7
      refine lv_iload_n hx hb dX11_element_30 rfl (lv_at hl 4 rfl) ?_
      refine lv_aload_n hx hb dX11_element_31 rfl (lv_at hl 1 rfl) ?_
      replace h := b1_some h
      obtain ⟨a8, ga8, h⟩ := h
      refine z_getA X hW ga8 kX11 (by decide) (by decide) kf_X11_44 dX11_element_32 ?_
      refine lv_iload hx hb dX11_element_35 (lv_at hl 0 rfl) ?_
      replace h := b1_some h
      obtain ⟨x9, gx9, h⟩ := h
      refine z_aldI X hW gx9 dX11_element_37 ?_
      replace h := b2_some h
      obtain ⟨x10, s11, gs11, h⟩ := h
      refine z_callSi (rest := []) X hW hS (cX11_isIn_met gs11) kb_X11_isIn ks_X11_isIn kl_X11_149 rfl rfl ⟨Nat.le_of_ble_eq_true rfl, Nat.le_of_ble_eq_true rfl⟩ rfl rfl (by decide) hl.1 dX11_element_38 ⟨(by decide), (by decide)⟩ (fun H locs hW hS => ?_)
      refine lv_if_eq (tgt := 59) hx hb dX11_element_41 (by decide) (fun c12 => ?_) (fun c12 => ?_)
      · replace h := it_t h c12
        refine lv_lconst (v := 0) hx hb dX11_element_59 (by decide) ?_
        exact z_etl X hlk hr hW hS h (by decide) (by decide) dX11_element_60
      · replace h := it_f h c12
        refine lv_aload_n hx hb dX11_element_44 rfl (lv_at hl 1 rfl) ?_
        replace h := b1_some h
        obtain ⟨a13, ga13, h⟩ := h
        refine z_getA X hW ga13 kX11 (by decide) (by decide) kf_X11_48 dX11_element_45 ?_
        refine lv_bipush (v := 32) hx hb dX11_element_48 (by decide) ?_
        refine lv_iload hx hb dX11_element_50 (lv_at hl 0 rfl) ?_
        refine lv_imul hx hb dX11_element_52 ?_
        refine lv_iload_n hx hb dX11_element_53 rfl (lv_at hl 4 rfl) ?_
        refine lv_iadd hx hb dX11_element_54 ?_
        replace h := b1_some h
        obtain ⟨x14, gx14, h⟩ := h
        refine z_aldL X hW gx14 dX11_element_55 ?_
        refine lv_goto (tgt := 60) hx hb dX11_element_56 (by decide) ?_
        exact z_etl X hlk hr hW hS h (by decide) (by decide) dX11_element_60
  · replace h := it_f h c4
    refine lv_lconst (v := 0) hx hb dX11_element_9 (by decide) ?_
    exact z_etl X hlk hr hW hS h (by decide) (by decide) dX11_element_10

set_option maxHeartbeats 4000000 in
set_option maxRecDepth 100000 in
theorem cX11_element_met {l : Launch} {A : Nat → Prop} {D : va_G} {cy : Nat → ClassId} {r0 : Int64} {h0 : Hz} {o : Nat} {v1 : Int32} {v2 : Int32} {v3 : Int32} {h : Hz} (g : fX11_element o v1 v2 v3 h = some (r0, h0)) : Met l yX11_element (Cond.code yX11_element cX11_element 5 (some .long) :: wT) ({ frames := 3, cells := 0, slots := 0, locals := 64 } : Room) (va_Pc [.ref o, .int v1, .int v2, .int v3] (zS A D cy h)) (va_Ql (fun r1 u => r1 = r0 ∧ u = h0) (zB A D cy) A) 0 0 A := by
  refine Met.ofW (cc := cX11_element) (maxL := 5) (ret := (some .long)) (by decide) rfl ?_
  intro p e s m args below meth c s₁ B hml hv
  obtain ⟨rfl, hW, hK, hN, hA⟩ := hv
  have X : zX A D cy p s m _ c cX11_element RX11 5 := ⟨B.exec, B.bytes, fun w hw => atoms_spec (ws := Cond.code yX11_element cX11_element 5 (some .long) :: wT) B.pre w (List.mem_cons_of_mem _ hw), findClass_of_methodNamed B.named, hK, hml, hN, hA⟩
  have hl := lv_entry [.ref o, .int v1, .int v2, .int v3] (n := 5) (Nat.le_of_ble_eq_true rfl)
  rw [lg_entry_eq]
  generalize (lg_sl [.ref o, .int v1, .int v2, .int v3] ++ List.replicate (5 - (lg_sl [.ref o, .int v1, .int v2, .int v3]).length) Slot.unset).toArray = ls at hl ⊢
  have hl : lv_has ls 5 [(0, .ref o), (1, .int v1), (2, .int v2), (3, .int v3)] := hl
  exact wX11_element_0 X B.notSynchronized B.returns o v1 v2 v3 _ _ _ _ (lv_sub hl [0, 1, 2, 3] rfl) hW va_S.rf g

theorem dX11_holds_0 : decode cX11_holds 0 = .ok (.aload_n 0, 1) := by decide +kernel
theorem dX11_holds_1 : decode cX11_holds 1 = .ok (.iload_n 1, 1) := by decide +kernel
theorem dX11_holds_2 : decode cX11_holds 2 = .ok (.iload_n 2, 1) := by decide +kernel
theorem dX11_holds_3 : decode cX11_holds 3 = .ok (.invokevirtual 184, 3) := by decide +kernel
theorem dX11_holds_6 : decode cX11_holds 6 = .ok (.ifCond .eq 6, 3) := by decide +kernel
theorem dX11_holds_9 : decode cX11_holds 9 = .ok (.bipush (-20), 2) := by decide +kernel
theorem dX11_holds_11 : decode cX11_holds 11 = .ok (.ireturn, 1) := by decide +kernel
theorem dX11_holds_12 : decode cX11_holds 12 = .ok (.bipush 8, 2) := by decide +kernel
theorem dX11_holds_14 : decode cX11_holds 14 = .ok (.iload_n 1, 1) := by decide +kernel
theorem dX11_holds_15 : decode cX11_holds 15 = .ok (.imul, 1) := by decide +kernel
theorem dX11_holds_16 : decode cX11_holds 16 = .ok (.iload_n 2, 1) := by decide +kernel
theorem dX11_holds_17 : decode cX11_holds 17 = .ok (.iadd, 1) := by decide +kernel
theorem dX11_holds_18 : decode cX11_holds 18 = .ok (.istore_n 3, 1) := by decide +kernel
theorem dX11_holds_19 : decode cX11_holds 19 = .ok (.aload_n 0, 1) := by decide +kernel
theorem dX11_holds_20 : decode cX11_holds 20 = .ok (.getfield 38, 3) := by decide +kernel
theorem dX11_holds_23 : decode cX11_holds 23 = .ok (.iload_n 3, 1) := by decide +kernel
theorem dX11_holds_24 : decode cX11_holds 24 = .ok (.iaload, 1) := by decide +kernel
theorem dX11_holds_25 : decode cX11_holds 25 = .ok (.ifCond .ne 7, 3) := by decide +kernel
theorem dX11_holds_28 : decode cX11_holds 28 = .ok (.iconst (-1), 1) := by decide +kernel
theorem dX11_holds_29 : decode cX11_holds 29 = .ok (.goto 31, 3) := by decide +kernel
theorem dX11_holds_32 : decode cX11_holds 32 = .ok (.aload_n 0, 1) := by decide +kernel
theorem dX11_holds_33 : decode cX11_holds 33 = .ok (.getfield 38, 3) := by decide +kernel
theorem dX11_holds_36 : decode cX11_holds 36 = .ok (.iload_n 3, 1) := by decide +kernel
theorem dX11_holds_37 : decode cX11_holds 37 = .ok (.iaload, 1) := by decide +kernel
theorem dX11_holds_38 : decode cX11_holds 38 = .ok (.iconst 1, 1) := by decide +kernel
theorem dX11_holds_39 : decode cX11_holds 39 = .ok (.if_icmp .ne 12, 3) := by decide +kernel
theorem dX11_holds_42 : decode cX11_holds 42 = .ok (.aload_n 0, 1) := by decide +kernel
theorem dX11_holds_43 : decode cX11_holds 43 = .ok (.getfield 41, 3) := by decide +kernel
theorem dX11_holds_46 : decode cX11_holds 46 = .ok (.iload_n 3, 1) := by decide +kernel
theorem dX11_holds_47 : decode cX11_holds 47 = .ok (.iaload, 1) := by decide +kernel
theorem dX11_holds_48 : decode cX11_holds 48 = .ok (.goto 12, 3) := by decide +kernel
theorem dX11_holds_51 : decode cX11_holds 51 = .ok (.bipush (-10), 2) := by decide +kernel
theorem dX11_holds_53 : decode cX11_holds 53 = .ok (.aload_n 0, 1) := by decide +kernel
theorem dX11_holds_54 : decode cX11_holds 54 = .ok (.getfield 41, 3) := by decide +kernel
theorem dX11_holds_57 : decode cX11_holds 57 = .ok (.iload_n 3, 1) := by decide +kernel
theorem dX11_holds_58 : decode cX11_holds 58 = .ok (.iaload, 1) := by decide +kernel
theorem dX11_holds_59 : decode cX11_holds 59 = .ok (.isub, 1) := by decide +kernel
theorem dX11_holds_60 : decode cX11_holds 60 = .ok (.ireturn, 1) := by decide +kernel
def fX11_holds (o : Nat) (v1 : Int32) (v2 : Int32) (h : Hz) : Option (Int32 × Hz) := (b1 (tg 11 o h) fun _ => (b2 (fX11_place o v1 v2 h) fun x2 s3 => (if x2 = 0 then (b1 (gA 11 10 o s3) fun a5 => (b1 (xI 12 a5 ((8 * v1) + v2) s3) fun x6 => (if x6 = 0 then some ((-1), s3) else (b1 (gA 11 10 o s3) fun a8 => (b1 (xI 12 a8 ((8 * v1) + v2) s3) fun x9 => (if x9 = 1 then (b1 (gA 11 11 o s3) fun a13 => (b1 (xI 12 a13 ((8 * v1) + v2) s3) fun x14 => some (x14, s3))) else (b1 (gA 11 11 o s3) fun a11 => (b1 (xI 12 a11 ((8 * v1) + v2) s3) fun x12 => some (((-10) - x12), s3))))))))) else some ((-20), s3))))
set_option maxHeartbeats 4000000 in
set_option maxRecDepth 100000 in
theorem wX11_holds_0 {r0 : Int32} {h0 : Hz} (X : zX A D cy p s m args c cX11_holds RX11 4) (hlk : meth.locks = false) (hr : meth.sig.returnType = (some .int)) (o : Nat) (v1 : Int32) (v2 : Int32) (h : Hz) (H : Heap) (locs : List Loc) (ls : Array Slot) (hl : lv_has ls 4 [(0, .ref o), (1, .int v1), (2, .int v2)]) (hW : zW A cy D h H) (hS : va_S A s.heap H locs) (h : fX11_holds o v1 v2 h = some (r0, h0)) : W p l e ({ frames := 3, cells := 0, slots := 0, locals := 64 } : Room) s m args below meth c H locs 0 0 (MQ below (va_Qi (fun r1 u => r1 = r0 ∧ u = h0) (zB A D cy) A) args s 0 0 A) (F0 m 0 ls []) := by
  obtain ⟨hx, hb, hts, hown, hK9, hml, hN9, hA9⟩ := id X
  unfold fX11_holds at h
  refine lv_aload_n hx hb dX11_holds_0 rfl (lv_at hl 0 rfl) ?_
  refine lv_iload_n hx hb dX11_holds_1 rfl (lv_at hl 1 rfl) ?_
  refine lv_iload_n hx hb dX11_holds_2 rfl (lv_at hl 2 rfl) ?_
  replace h := b1_some h
  obtain ⟨q1, gq1, h⟩ := h
  replace h := b2_some h
  obtain ⟨x2, s3, gs3, h⟩ := h
  refine z_callVi (rest := []) X hW hS (cX11_place_met gs3) kb_X11_place kv_X11_place kl_X11_184 (it_v gq1).1 kX11 rfl rfl ⟨Nat.le_of_ble_eq_true rfl, Nat.le_of_ble_eq_true rfl⟩ rfl rfl (by decide) hl.1 dX11_holds_3 ⟨(by decide), (by decide)⟩ (fun H locs hW hS => ?_)
  refine lv_if_eq (tgt := 12) hx hb dX11_holds_6 (by decide) (fun c4 => ?_) (fun c4 => ?_)
  · replace h := it_t h c4
    refine lv_bipush (v := 8) hx hb dX11_holds_12 (by decide) ?_
    refine lv_iload_n hx hb dX11_holds_14 rfl (lv_at hl 1 rfl) ?_
    refine lv_imul hx hb dX11_holds_15 ?_
    refine lv_iload_n hx hb dX11_holds_16 rfl (lv_at hl 2 rfl) ?_
    refine lv_iadd hx hb dX11_holds_17 ?_
    refine lv_istore_n (lv' := [(3, .int ((8 * v1) + v2)), (0, .ref o), (1, .int v1), (2, .int v2)]) hx hb dX11_holds_18 rfl hl (by decide) rfl (fun ls hl => ?_)
    refine lv_aload_n hx hb dX11_holds_19 rfl (lv_at hl 1 rfl) ?_
    replace h := b1_some h
    obtain ⟨a5, ga5, h⟩ := h
    refine z_getA X hW ga5 kX11 (by decide) (by decide) kf_X11_38 dX11_holds_20 ?_
    refine lv_iload_n hx hb dX11_holds_23 rfl (lv_at hl 0 rfl) ?_
    replace h := b1_some h
    obtain ⟨x6, gx6, h⟩ := h
    refine z_aldI X hW gx6 dX11_holds_24 ?_
    refine lv_if_ne (tgt := 32) hx hb dX11_holds_25 (by decide) (fun c7 => ?_) (fun c7 => ?_)
    · replace h := it_f h c7
      refine lv_aload_n hx hb dX11_holds_32 rfl (lv_at hl 1 rfl) ?_
      replace h := b1_some h
      obtain ⟨a8, ga8, h⟩ := h
      refine z_getA X hW ga8 kX11 (by decide) (by decide) kf_X11_38 dX11_holds_33 ?_
      refine lv_iload_n hx hb dX11_holds_36 rfl (lv_at hl 0 rfl) ?_
      replace h := b1_some h
      obtain ⟨x9, gx9, h⟩ := h
      refine z_aldI X hW gx9 dX11_holds_37 ?_
      refine lv_iconst (v := 1) hx hb dX11_holds_38 (by decide) ?_
      refine lv_icmp_ne (tgt := 51) hx hb dX11_holds_39 (by decide) (fun c10 => ?_) (fun c10 => ?_)
      · replace h := it_f h c10
        refine lv_bipush (v := (-10)) hx hb dX11_holds_51 (by decide) ?_
        refine lv_aload_n hx hb dX11_holds_53 rfl (lv_at hl 1 rfl) ?_
        replace h := b1_some h
        obtain ⟨a11, ga11, h⟩ := h
        refine z_getA X hW ga11 kX11 (by decide) (by decide) kf_X11_41 dX11_holds_54 ?_
        refine lv_iload_n hx hb dX11_holds_57 rfl (lv_at hl 0 rfl) ?_
        replace h := b1_some h
        obtain ⟨x12, gx12, h⟩ := h
        refine z_aldI X hW gx12 dX11_holds_58 ?_
        refine lv_isub hx hb dX11_holds_59 ?_
        exact z_eti X hlk hr hW hS h (by decide) (by decide) dX11_holds_60
      · replace h := it_t h c10
        refine lv_aload_n hx hb dX11_holds_42 rfl (lv_at hl 1 rfl) ?_
        replace h := b1_some h
        obtain ⟨a13, ga13, h⟩ := h
        refine z_getA X hW ga13 kX11 (by decide) (by decide) kf_X11_41 dX11_holds_43 ?_
        refine lv_iload_n hx hb dX11_holds_46 rfl (lv_at hl 0 rfl) ?_
        replace h := b1_some h
        obtain ⟨x14, gx14, h⟩ := h
        refine z_aldI X hW gx14 dX11_holds_47 ?_
        refine lv_goto (tgt := 60) hx hb dX11_holds_48 (by decide) ?_
        exact z_eti X hlk hr hW hS h (by decide) (by decide) dX11_holds_60
    · replace h := it_t h c7
      refine lv_iconst (v := (-1)) hx hb dX11_holds_28 (by decide) ?_
      refine lv_goto (tgt := 60) hx hb dX11_holds_29 (by decide) ?_
      exact z_eti X hlk hr hW hS h (by decide) (by decide) dX11_holds_60
  · replace h := it_f h c4
    refine lv_bipush (v := (-20)) hx hb dX11_holds_9 (by decide) ?_
    exact z_eti X hlk hr hW hS h (by decide) (by decide) dX11_holds_11

set_option maxHeartbeats 4000000 in
set_option maxRecDepth 100000 in
theorem cX11_holds_met {l : Launch} {A : Nat → Prop} {D : va_G} {cy : Nat → ClassId} {r0 : Int32} {h0 : Hz} {o : Nat} {v1 : Int32} {v2 : Int32} {h : Hz} (g : fX11_holds o v1 v2 h = some (r0, h0)) : Met l yX11_holds (Cond.code yX11_holds cX11_holds 4 (some .int) :: wT) ({ frames := 3, cells := 0, slots := 0, locals := 64 } : Room) (va_Pc [.ref o, .int v1, .int v2] (zS A D cy h)) (va_Qi (fun r1 u => r1 = r0 ∧ u = h0) (zB A D cy) A) 0 0 A := by
  refine Met.ofW (cc := cX11_holds) (maxL := 4) (ret := (some .int)) (by decide) rfl ?_
  intro p e s m args below meth c s₁ B hml hv
  obtain ⟨rfl, hW, hK, hN, hA⟩ := hv
  have X : zX A D cy p s m _ c cX11_holds RX11 4 := ⟨B.exec, B.bytes, fun w hw => atoms_spec (ws := Cond.code yX11_holds cX11_holds 4 (some .int) :: wT) B.pre w (List.mem_cons_of_mem _ hw), findClass_of_methodNamed B.named, hK, hml, hN, hA⟩
  have hl := lv_entry [.ref o, .int v1, .int v2] (n := 4) (Nat.le_of_ble_eq_true rfl)
  rw [lg_entry_eq]
  generalize (lg_sl [.ref o, .int v1, .int v2] ++ List.replicate (4 - (lg_sl [.ref o, .int v1, .int v2]).length) Slot.unset).toArray = ls at hl ⊢
  have hl : lv_has ls 4 [(0, .ref o), (1, .int v1), (2, .int v2)] := hl
  exact wX11_holds_0 X B.notSynchronized B.returns o v1 v2 _ _ _ _ (lv_sub hl [0, 1, 2] rfl) hW va_S.rf g

theorem dX11_thing_0 : decode cX11_thing 0 = .ok (.iload_n 1, 1) := by decide +kernel
theorem dX11_thing_1 : decode cX11_thing 1 = .ok (.aload_n 0, 1) := by decide +kernel
theorem dX11_thing_2 : decode cX11_thing 2 = .ok (.getfield 145, 3) := by decide +kernel
theorem dX11_thing_5 : decode cX11_thing 5 = .ok (.invokestatic 149, 3) := by decide +kernel
theorem dX11_thing_8 : decode cX11_thing 8 = .ok (.ifCond .ne 5, 3) := by decide +kernel
theorem dX11_thing_11 : decode cX11_thing 11 = .ok (.iconst (-1), 1) := by decide +kernel
theorem dX11_thing_12 : decode cX11_thing 12 = .ok (.ireturn, 1) := by decide +kernel
theorem dX11_thing_13 : decode cX11_thing 13 = .ok (.iload_n 2, 1) := by decide +kernel
theorem dX11_thing_14 : decode cX11_thing 14 = .ok (.bipush 6, 2) := by decide +kernel
theorem dX11_thing_16 : decode cX11_thing 16 = .ok (.if_icmp .ne 10, 3) := by decide +kernel
theorem dX11_thing_19 : decode cX11_thing 19 = .ok (.aload_n 0, 1) := by decide +kernel
theorem dX11_thing_20 : decode cX11_thing 20 = .ok (.getfield 22, 3) := by decide +kernel
theorem dX11_thing_23 : decode cX11_thing 23 = .ok (.iload_n 1, 1) := by decide +kernel
theorem dX11_thing_24 : decode cX11_thing 24 = .ok (.iaload, 1) := by decide +kernel
theorem dX11_thing_25 : decode cX11_thing 25 = .ok (.ireturn, 1) := by decide +kernel
theorem dX11_thing_26 : decode cX11_thing 26 = .ok (.iload_n 2, 1) := by decide +kernel
theorem dX11_thing_27 : decode cX11_thing 27 = .ok (.bipush 7, 2) := by decide +kernel
theorem dX11_thing_29 : decode cX11_thing 29 = .ok (.if_icmp .ne 18, 3) := by decide +kernel
theorem dX11_thing_32 : decode cX11_thing 32 = .ok (.aload_n 0, 1) := by decide +kernel
theorem dX11_thing_33 : decode cX11_thing 33 = .ok (.getfield 35, 3) := by decide +kernel
theorem dX11_thing_36 : decode cX11_thing 36 = .ok (.iload_n 1, 1) := by decide +kernel
theorem dX11_thing_37 : decode cX11_thing 37 = .ok (.baload, 1) := by decide +kernel
theorem dX11_thing_38 : decode cX11_thing 38 = .ok (.ifCond .eq 7, 3) := by decide +kernel
theorem dX11_thing_41 : decode cX11_thing 41 = .ok (.iconst 1, 1) := by decide +kernel
theorem dX11_thing_42 : decode cX11_thing 42 = .ok (.goto 4, 3) := by decide +kernel
theorem dX11_thing_45 : decode cX11_thing 45 = .ok (.iconst 0, 1) := by decide +kernel
theorem dX11_thing_46 : decode cX11_thing 46 = .ok (.ireturn, 1) := by decide +kernel
theorem dX11_thing_47 : decode cX11_thing 47 = .ok (.aload_n 0, 1) := by decide +kernel
theorem dX11_thing_48 : decode cX11_thing 48 = .ok (.getfield 31, 3) := by decide +kernel
theorem dX11_thing_51 : decode cX11_thing 51 = .ok (.iload_n 1, 1) := by decide +kernel
theorem dX11_thing_52 : decode cX11_thing 52 = .ok (.baload, 1) := by decide +kernel
theorem dX11_thing_53 : decode cX11_thing 53 = .ok (.ifCond .eq 5, 3) := by decide +kernel
theorem dX11_thing_56 : decode cX11_thing 56 = .ok (.iconst (-1), 1) := by decide +kernel
theorem dX11_thing_57 : decode cX11_thing 57 = .ok (.ireturn, 1) := by decide +kernel
theorem dX11_thing_58 : decode cX11_thing 58 = .ok (.iload_n 2, 1) := by decide +kernel
theorem dX11_thing_59 : decode cX11_thing 59 = .ok (.tableswitch 79 0 5 #[37, 44, 51, 58, 65, 72], 37) := by decide +kernel
theorem dX11_thing_96 : decode cX11_thing 96 = .ok (.aload_n 0, 1) := by decide +kernel
theorem dX11_thing_97 : decode cX11_thing 97 = .ok (.getfield 9, 3) := by decide +kernel
theorem dX11_thing_100 : decode cX11_thing 100 = .ok (.iload_n 1, 1) := by decide +kernel
theorem dX11_thing_101 : decode cX11_thing 101 = .ok (.iaload, 1) := by decide +kernel
theorem dX11_thing_102 : decode cX11_thing 102 = .ok (.ireturn, 1) := by decide +kernel
theorem dX11_thing_103 : decode cX11_thing 103 = .ok (.aload_n 0, 1) := by decide +kernel
theorem dX11_thing_104 : decode cX11_thing 104 = .ok (.getfield 13, 3) := by decide +kernel
theorem dX11_thing_107 : decode cX11_thing 107 = .ok (.iload_n 1, 1) := by decide +kernel
theorem dX11_thing_108 : decode cX11_thing 108 = .ok (.iaload, 1) := by decide +kernel
theorem dX11_thing_109 : decode cX11_thing 109 = .ok (.ireturn, 1) := by decide +kernel
theorem dX11_thing_110 : decode cX11_thing 110 = .ok (.aload_n 0, 1) := by decide +kernel
theorem dX11_thing_111 : decode cX11_thing 111 = .ok (.getfield 19, 3) := by decide +kernel
theorem dX11_thing_114 : decode cX11_thing 114 = .ok (.iload_n 1, 1) := by decide +kernel
theorem dX11_thing_115 : decode cX11_thing 115 = .ok (.iaload, 1) := by decide +kernel
theorem dX11_thing_116 : decode cX11_thing 116 = .ok (.ireturn, 1) := by decide +kernel
theorem dX11_thing_117 : decode cX11_thing 117 = .ok (.aload_n 0, 1) := by decide +kernel
theorem dX11_thing_118 : decode cX11_thing 118 = .ok (.getfield 16, 3) := by decide +kernel
theorem dX11_thing_121 : decode cX11_thing 121 = .ok (.iload_n 1, 1) := by decide +kernel
theorem dX11_thing_122 : decode cX11_thing 122 = .ok (.iaload, 1) := by decide +kernel
theorem dX11_thing_123 : decode cX11_thing 123 = .ok (.ireturn, 1) := by decide +kernel
theorem dX11_thing_124 : decode cX11_thing 124 = .ok (.aload_n 0, 1) := by decide +kernel
theorem dX11_thing_125 : decode cX11_thing 125 = .ok (.getfield 25, 3) := by decide +kernel
theorem dX11_thing_128 : decode cX11_thing 128 = .ok (.iload_n 1, 1) := by decide +kernel
theorem dX11_thing_129 : decode cX11_thing 129 = .ok (.iaload, 1) := by decide +kernel
theorem dX11_thing_130 : decode cX11_thing 130 = .ok (.ireturn, 1) := by decide +kernel
theorem dX11_thing_131 : decode cX11_thing 131 = .ok (.aload_n 0, 1) := by decide +kernel
theorem dX11_thing_132 : decode cX11_thing 132 = .ok (.getfield 28, 3) := by decide +kernel
theorem dX11_thing_135 : decode cX11_thing 135 = .ok (.iload_n 1, 1) := by decide +kernel
theorem dX11_thing_136 : decode cX11_thing 136 = .ok (.iaload, 1) := by decide +kernel
theorem dX11_thing_137 : decode cX11_thing 137 = .ok (.ireturn, 1) := by decide +kernel
theorem dX11_thing_138 : decode cX11_thing 138 = .ok (.iconst (-1), 1) := by decide +kernel
theorem dX11_thing_139 : decode cX11_thing 139 = .ok (.ireturn, 1) := by decide +kernel
def fX11_thing (o : Nat) (v1 : Int32) (v2 : Int32) (h : Hz) : Option (Int32 × Hz) := (b1 (gI 11 9 o h) fun x1 => (b2 (fX11_isIn v1 x1 h) fun x2 s3 => (if x2 = 0 then some ((-1), s3) else (if v2 = 6 then (b1 (gA 11 4 o s3) fun a31 => (b1 (xI 12 a31 v1 s3) fun x32 => some (x32, s3))) else (if v2 = 7 then (b1 (gA 11 8 o s3) fun a28 => (b1 (xI 14 a28 v1 s3) fun x29 => (if x29 = 0 then some (0, s3) else some (1, s3)))) else (b1 (gA 11 7 o s3) fun a7 => (b1 (xI 14 a7 v1 s3) fun x8 => (if x8 = 0 then (if v2 = 0 then (b1 (gA 11 0 o s3) fun a11 => (b1 (xI 12 a11 v1 s3) fun x12 => some (x12, s3))) else (if v2 = 1 then (b1 (gA 11 1 o s3) fun a14 => (b1 (xI 12 a14 v1 s3) fun x15 => some (x15, s3))) else (if v2 = 2 then (b1 (gA 11 3 o s3) fun a17 => (b1 (xI 12 a17 v1 s3) fun x18 => some (x18, s3))) else (if v2 = 3 then (b1 (gA 11 2 o s3) fun a20 => (b1 (xI 12 a20 v1 s3) fun x21 => some (x21, s3))) else (if v2 = 4 then (b1 (gA 11 5 o s3) fun a23 => (b1 (xI 12 a23 v1 s3) fun x24 => some (x24, s3))) else (if v2 = 5 then (b1 (gA 11 6 o s3) fun a26 => (b1 (xI 12 a26 v1 s3) fun x27 => some (x27, s3))) else some ((-1), s3))))))) else some ((-1), s3)))))))))
set_option maxHeartbeats 4000000 in
set_option maxRecDepth 100000 in
theorem wX11_thing_0 {r0 : Int32} {h0 : Hz} (X : zX A D cy p s m args c cX11_thing RX11 3) (hlk : meth.locks = false) (hr : meth.sig.returnType = (some .int)) (o : Nat) (v1 : Int32) (v2 : Int32) (h : Hz) (H : Heap) (locs : List Loc) (ls : Array Slot) (hl : lv_has ls 3 [(0, .ref o), (1, .int v1), (2, .int v2)]) (hW : zW A cy D h H) (hS : va_S A s.heap H locs) (h : fX11_thing o v1 v2 h = some (r0, h0)) : W p l e ({ frames := 1, cells := 0, slots := 0, locals := 21 } : Room) s m args below meth c H locs 0 0 (MQ below (va_Qi (fun r1 u => r1 = r0 ∧ u = h0) (zB A D cy) A) args s 0 0 A) (F0 m 0 ls []) := by
  obtain ⟨hx, hb, hts, hown, hK9, hml, hN9, hA9⟩ := id X
  unfold fX11_thing at h
  refine lv_iload_n hx hb dX11_thing_0 rfl (lv_at hl 1 rfl) ?_
  refine lv_aload_n hx hb dX11_thing_1 rfl (lv_at hl 0 rfl) ?_
  replace h := b1_some h
  obtain ⟨x1, gx1, h⟩ := h
  refine z_getI X hW gx1 kX11 (by decide) (by decide) kf_X11_145 dX11_thing_2 ?_
  replace h := b2_some h
  obtain ⟨x2, s3, gs3, h⟩ := h
  refine z_callSi (rest := []) X hW hS (cX11_isIn_met gs3) kb_X11_isIn ks_X11_isIn kl_X11_149 rfl rfl ⟨Nat.le_of_ble_eq_true rfl, Nat.le_of_ble_eq_true rfl⟩ rfl rfl (by decide) hl.1 dX11_thing_5 ⟨(by decide), (by decide)⟩ (fun H locs hW hS => ?_)
  refine lv_if_ne (tgt := 13) hx hb dX11_thing_8 (by decide) (fun c4 => ?_) (fun c4 => ?_)
  · replace h := it_f h c4
    refine lv_iload_n hx hb dX11_thing_13 rfl (lv_at hl 2 rfl) ?_
    refine lv_bipush (v := 6) hx hb dX11_thing_14 (by decide) ?_
    refine lv_icmp_ne (tgt := 26) hx hb dX11_thing_16 (by decide) (fun c5 => ?_) (fun c5 => ?_)
    · replace h := it_f h c5
      refine lv_iload_n hx hb dX11_thing_26 rfl (lv_at hl 2 rfl) ?_
      refine lv_bipush (v := 7) hx hb dX11_thing_27 (by decide) ?_
      refine lv_icmp_ne (tgt := 47) hx hb dX11_thing_29 (by decide) (fun c6 => ?_) (fun c6 => ?_)
      · replace h := it_f h c6
        refine lv_aload_n hx hb dX11_thing_47 rfl (lv_at hl 0 rfl) ?_
        replace h := b1_some h
        obtain ⟨a7, ga7, h⟩ := h
        refine z_getA X hW ga7 kX11 (by decide) (by decide) kf_X11_31 dX11_thing_48 ?_
        refine lv_iload_n hx hb dX11_thing_51 rfl (lv_at hl 1 rfl) ?_
        replace h := b1_some h
        obtain ⟨x8, gx8, h⟩ := h
        refine z_aldZ X hW gx8 dX11_thing_52 ?_
        refine lv_if_eq (tgt := 58) hx hb dX11_thing_53 (by decide) (fun c9 => ?_) (fun c9 => ?_)
        · replace h := it_t h c9
          refine lv_iload_n hx hb dX11_thing_58 rfl (lv_at hl 2 rfl) ?_
          by_cases c10 : v2 = 0
          · replace h := it_t h c10
            refine lv_tableIn (off := 37) (tgt := 96) hx hb dX11_thing_59 (by rw [c10]; decide) (by rw [c10]; decide) (by rw [c10]; rfl) (by decide) ?_
            refine lv_aload_n hx hb dX11_thing_96 rfl (lv_at hl 0 rfl) ?_
            replace h := b1_some h
            obtain ⟨a11, ga11, h⟩ := h
            refine z_getA X hW ga11 kX11 (by decide) (by decide) kf_X11_9 dX11_thing_97 ?_
            refine lv_iload_n hx hb dX11_thing_100 rfl (lv_at hl 1 rfl) ?_
            replace h := b1_some h
            obtain ⟨x12, gx12, h⟩ := h
            refine z_aldI X hW gx12 dX11_thing_101 ?_
            exact z_eti X hlk hr hW hS h (by decide) (by decide) dX11_thing_102
          · replace h := it_f h c10
            by_cases c13 : v2 = 1
            · replace h := it_t h c13
              refine lv_tableIn (off := 44) (tgt := 103) hx hb dX11_thing_59 (by rw [c13]; decide) (by rw [c13]; decide) (by rw [c13]; rfl) (by decide) ?_
              refine lv_aload_n hx hb dX11_thing_103 rfl (lv_at hl 0 rfl) ?_
              replace h := b1_some h
              obtain ⟨a14, ga14, h⟩ := h
              refine z_getA X hW ga14 kX11 (by decide) (by decide) kf_X11_13 dX11_thing_104 ?_
              refine lv_iload_n hx hb dX11_thing_107 rfl (lv_at hl 1 rfl) ?_
              replace h := b1_some h
              obtain ⟨x15, gx15, h⟩ := h
              refine z_aldI X hW gx15 dX11_thing_108 ?_
              exact z_eti X hlk hr hW hS h (by decide) (by decide) dX11_thing_109
            · replace h := it_f h c13
              by_cases c16 : v2 = 2
              · replace h := it_t h c16
                refine lv_tableIn (off := 51) (tgt := 110) hx hb dX11_thing_59 (by rw [c16]; decide) (by rw [c16]; decide) (by rw [c16]; rfl) (by decide) ?_
                refine lv_aload_n hx hb dX11_thing_110 rfl (lv_at hl 0 rfl) ?_
                replace h := b1_some h
                obtain ⟨a17, ga17, h⟩ := h
                refine z_getA X hW ga17 kX11 (by decide) (by decide) kf_X11_19 dX11_thing_111 ?_
                refine lv_iload_n hx hb dX11_thing_114 rfl (lv_at hl 1 rfl) ?_
                replace h := b1_some h
                obtain ⟨x18, gx18, h⟩ := h
                refine z_aldI X hW gx18 dX11_thing_115 ?_
                exact z_eti X hlk hr hW hS h (by decide) (by decide) dX11_thing_116
              · replace h := it_f h c16
                by_cases c19 : v2 = 3
                · replace h := it_t h c19
                  refine lv_tableIn (off := 58) (tgt := 117) hx hb dX11_thing_59 (by rw [c19]; decide) (by rw [c19]; decide) (by rw [c19]; rfl) (by decide) ?_
                  refine lv_aload_n hx hb dX11_thing_117 rfl (lv_at hl 0 rfl) ?_
                  replace h := b1_some h
                  obtain ⟨a20, ga20, h⟩ := h
                  refine z_getA X hW ga20 kX11 (by decide) (by decide) kf_X11_16 dX11_thing_118 ?_
                  refine lv_iload_n hx hb dX11_thing_121 rfl (lv_at hl 1 rfl) ?_
                  replace h := b1_some h
                  obtain ⟨x21, gx21, h⟩ := h
                  refine z_aldI X hW gx21 dX11_thing_122 ?_
                  exact z_eti X hlk hr hW hS h (by decide) (by decide) dX11_thing_123
                · replace h := it_f h c19
                  by_cases c22 : v2 = 4
                  · replace h := it_t h c22
                    refine lv_tableIn (off := 65) (tgt := 124) hx hb dX11_thing_59 (by rw [c22]; decide) (by rw [c22]; decide) (by rw [c22]; rfl) (by decide) ?_
                    refine lv_aload_n hx hb dX11_thing_124 rfl (lv_at hl 0 rfl) ?_
                    replace h := b1_some h
                    obtain ⟨a23, ga23, h⟩ := h
                    refine z_getA X hW ga23 kX11 (by decide) (by decide) kf_X11_25 dX11_thing_125 ?_
                    refine lv_iload_n hx hb dX11_thing_128 rfl (lv_at hl 1 rfl) ?_
                    replace h := b1_some h
                    obtain ⟨x24, gx24, h⟩ := h
                    refine z_aldI X hW gx24 dX11_thing_129 ?_
                    exact z_eti X hlk hr hW hS h (by decide) (by decide) dX11_thing_130
                  · replace h := it_f h c22
                    by_cases c25 : v2 = 5
                    · replace h := it_t h c25
                      refine lv_tableIn (off := 72) (tgt := 131) hx hb dX11_thing_59 (by rw [c25]; decide) (by rw [c25]; decide) (by rw [c25]; rfl) (by decide) ?_
                      refine lv_aload_n hx hb dX11_thing_131 rfl (lv_at hl 0 rfl) ?_
                      replace h := b1_some h
                      obtain ⟨a26, ga26, h⟩ := h
                      refine z_getA X hW ga26 kX11 (by decide) (by decide) kf_X11_28 dX11_thing_132 ?_
                      refine lv_iload_n hx hb dX11_thing_135 rfl (lv_at hl 1 rfl) ?_
                      replace h := b1_some h
                      obtain ⟨x27, gx27, h⟩ := h
                      refine z_aldI X hW gx27 dX11_thing_136 ?_
                      exact z_eti X hlk hr hW hS h (by decide) (by decide) dX11_thing_137
                    · replace h := it_f h c25
                      have nc10 := lv_neT c10 (a := 0) rfl
                      have nc13 := lv_neT c13 (a := 1) rfl
                      have nc16 := lv_neT c16 (a := 2) rfl
                      have nc19 := lv_neT c19 (a := 3) rfl
                      have nc22 := lv_neT c22 (a := 4) rfl
                      have nc25 := lv_neT c25 (a := 5) rfl
                      refine lv_tableOut (tgt := 138) hx hb dX11_thing_59 (by omega) (by decide) ?_
                      refine lv_iconst (v := (-1)) hx hb dX11_thing_138 (by decide) ?_
                      exact z_eti X hlk hr hW hS h (by decide) (by decide) dX11_thing_139
        · replace h := it_f h c9
          refine lv_iconst (v := (-1)) hx hb dX11_thing_56 (by decide) ?_
          exact z_eti X hlk hr hW hS h (by decide) (by decide) dX11_thing_57
      · replace h := it_t h c6
        refine lv_aload_n hx hb dX11_thing_32 rfl (lv_at hl 0 rfl) ?_
        replace h := b1_some h
        obtain ⟨a28, ga28, h⟩ := h
        refine z_getA X hW ga28 kX11 (by decide) (by decide) kf_X11_35 dX11_thing_33 ?_
        refine lv_iload_n hx hb dX11_thing_36 rfl (lv_at hl 1 rfl) ?_
        replace h := b1_some h
        obtain ⟨x29, gx29, h⟩ := h
        refine z_aldZ X hW gx29 dX11_thing_37 ?_
        refine lv_if_eq (tgt := 45) hx hb dX11_thing_38 (by decide) (fun c30 => ?_) (fun c30 => ?_)
        · replace h := it_t h c30
          refine lv_iconst (v := 0) hx hb dX11_thing_45 (by decide) ?_
          exact z_eti X hlk hr hW hS h (by decide) (by decide) dX11_thing_46
        · replace h := it_f h c30
          refine lv_iconst (v := 1) hx hb dX11_thing_41 (by decide) ?_
          refine lv_goto (tgt := 46) hx hb dX11_thing_42 (by decide) ?_
          exact z_eti X hlk hr hW hS h (by decide) (by decide) dX11_thing_46
    · replace h := it_t h c5
      refine lv_aload_n hx hb dX11_thing_19 rfl (lv_at hl 0 rfl) ?_
      replace h := b1_some h
      obtain ⟨a31, ga31, h⟩ := h
      refine z_getA X hW ga31 kX11 (by decide) (by decide) kf_X11_22 dX11_thing_20 ?_
      refine lv_iload_n hx hb dX11_thing_23 rfl (lv_at hl 1 rfl) ?_
      replace h := b1_some h
      obtain ⟨x32, gx32, h⟩ := h
      refine z_aldI X hW gx32 dX11_thing_24 ?_
      exact z_eti X hlk hr hW hS h (by decide) (by decide) dX11_thing_25
  · replace h := it_t h c4
    refine lv_iconst (v := (-1)) hx hb dX11_thing_11 (by decide) ?_
    exact z_eti X hlk hr hW hS h (by decide) (by decide) dX11_thing_12

set_option maxHeartbeats 4000000 in
set_option maxRecDepth 100000 in
theorem cX11_thing_met {l : Launch} {A : Nat → Prop} {D : va_G} {cy : Nat → ClassId} {r0 : Int32} {h0 : Hz} {o : Nat} {v1 : Int32} {v2 : Int32} {h : Hz} (g : fX11_thing o v1 v2 h = some (r0, h0)) : Met l yX11_thing (Cond.code yX11_thing cX11_thing 3 (some .int) :: wT) ({ frames := 1, cells := 0, slots := 0, locals := 21 } : Room) (va_Pc [.ref o, .int v1, .int v2] (zS A D cy h)) (va_Qi (fun r1 u => r1 = r0 ∧ u = h0) (zB A D cy) A) 0 0 A := by
  refine Met.ofW (cc := cX11_thing) (maxL := 3) (ret := (some .int)) (by decide) rfl ?_
  intro p e s m args below meth c s₁ B hml hv
  obtain ⟨rfl, hW, hK, hN, hA⟩ := hv
  have X : zX A D cy p s m _ c cX11_thing RX11 3 := ⟨B.exec, B.bytes, fun w hw => atoms_spec (ws := Cond.code yX11_thing cX11_thing 3 (some .int) :: wT) B.pre w (List.mem_cons_of_mem _ hw), findClass_of_methodNamed B.named, hK, hml, hN, hA⟩
  have hl := lv_entry [.ref o, .int v1, .int v2] (n := 3) (Nat.le_of_ble_eq_true rfl)
  rw [lg_entry_eq]
  generalize (lg_sl [.ref o, .int v1, .int v2] ++ List.replicate (3 - (lg_sl [.ref o, .int v1, .int v2]).length) Slot.unset).toArray = ls at hl ⊢
  have hl : lv_has ls 3 [(0, .ref o), (1, .int v1), (2, .int v2)] := hl
  exact wX11_thing_0 X B.notSynchronized B.returns o v1 v2 _ _ _ _ (lv_sub hl [0, 1, 2] rfl) hW va_S.rf g

theorem dX11_gate_0 : decode cX11_gate 0 = .ok (.aload_n 0, 1) := by decide +kernel
theorem dX11_gate_1 : decode cX11_gate 1 = .ok (.iload_n 1, 1) := by decide +kernel
theorem dX11_gate_2 : decode cX11_gate 2 = .ok (.iload_n 2, 1) := by decide +kernel
theorem dX11_gate_3 : decode cX11_gate 3 = .ok (.invokevirtual 196, 3) := by decide +kernel
theorem dX11_gate_6 : decode cX11_gate 6 = .ok (.ireturn, 1) := by decide +kernel
def fX11_gate (o : Nat) (v1 : Int32) (v2 : Int32) (h : Hz) : Option (Int32 × Hz) := (b1 (tg 11 o h) fun _ => (b2 (fX11_gateOf o v1 v2 h) fun x2 s3 => some (x2, s3)))
set_option maxHeartbeats 4000000 in
set_option maxRecDepth 100000 in
theorem wX11_gate_0 {r0 : Int32} {h0 : Hz} (X : zX A D cy p s m args c cX11_gate RX11 3) (hlk : meth.locks = false) (hr : meth.sig.returnType = (some .int)) (o : Nat) (v1 : Int32) (v2 : Int32) (h : Hz) (H : Heap) (locs : List Loc) (ls : Array Slot) (hl : lv_has ls 3 [(0, .ref o), (1, .int v1), (2, .int v2)]) (hW : zW A cy D h H) (hS : va_S A s.heap H locs) (h : fX11_gate o v1 v2 h = some (r0, h0)) : W p l e ({ frames := 1, cells := 0, slots := 0, locals := 23 } : Room) s m args below meth c H locs 0 0 (MQ below (va_Qi (fun r1 u => r1 = r0 ∧ u = h0) (zB A D cy) A) args s 0 0 A) (F0 m 0 ls []) := by
  obtain ⟨hx, hb, hts, hown, hK9, hml, hN9, hA9⟩ := id X
  unfold fX11_gate at h
  refine lv_aload_n hx hb dX11_gate_0 rfl (lv_at hl 0 rfl) ?_
  refine lv_iload_n hx hb dX11_gate_1 rfl (lv_at hl 1 rfl) ?_
  refine lv_iload_n hx hb dX11_gate_2 rfl (lv_at hl 2 rfl) ?_
  replace h := b1_some h
  obtain ⟨q1, gq1, h⟩ := h
  replace h := b2_some h
  obtain ⟨x2, s3, gs3, h⟩ := h
  refine z_callVi (rest := []) X hW hS (cX11_gateOf_met gs3) kb_X11_gateOf kv_X11_gateOf kl_X11_196 (it_v gq1).1 kX11 rfl rfl ⟨Nat.le_of_ble_eq_true rfl, Nat.le_of_ble_eq_true rfl⟩ rfl rfl (by decide) hl.1 dX11_gate_3 ⟨(by decide), (by decide)⟩ (fun H locs hW hS => ?_)
  exact z_eti X hlk hr hW hS h (by decide) (by decide) dX11_gate_6

set_option maxHeartbeats 4000000 in
set_option maxRecDepth 100000 in
theorem cX11_gate_met {l : Launch} {A : Nat → Prop} {D : va_G} {cy : Nat → ClassId} {r0 : Int32} {h0 : Hz} {o : Nat} {v1 : Int32} {v2 : Int32} {h : Hz} (g : fX11_gate o v1 v2 h = some (r0, h0)) : Met l yX11_gate (Cond.code yX11_gate cX11_gate 3 (some .int) :: wT) ({ frames := 1, cells := 0, slots := 0, locals := 23 } : Room) (va_Pc [.ref o, .int v1, .int v2] (zS A D cy h)) (va_Qi (fun r1 u => r1 = r0 ∧ u = h0) (zB A D cy) A) 0 0 A := by
  refine Met.ofW (cc := cX11_gate) (maxL := 3) (ret := (some .int)) (by decide) rfl ?_
  intro p e s m args below meth c s₁ B hml hv
  obtain ⟨rfl, hW, hK, hN, hA⟩ := hv
  have X : zX A D cy p s m _ c cX11_gate RX11 3 := ⟨B.exec, B.bytes, fun w hw => atoms_spec (ws := Cond.code yX11_gate cX11_gate 3 (some .int) :: wT) B.pre w (List.mem_cons_of_mem _ hw), findClass_of_methodNamed B.named, hK, hml, hN, hA⟩
  have hl := lv_entry [.ref o, .int v1, .int v2] (n := 3) (Nat.le_of_ble_eq_true rfl)
  rw [lg_entry_eq]
  generalize (lg_sl [.ref o, .int v1, .int v2] ++ List.replicate (3 - (lg_sl [.ref o, .int v1, .int v2]).length) Slot.unset).toArray = ls at hl ⊢
  have hl : lv_has ls 3 [(0, .ref o), (1, .int v1), (2, .int v2)] := hl
  exact wX11_gate_0 X B.notSynchronized B.returns o v1 v2 _ _ _ _ (lv_sub hl [0, 1, 2] rfl) hW va_S.rf g

theorem dX11_letter_0 : decode cX11_letter 0 = .ok (.aload_n 0, 1) := by decide +kernel
theorem dX11_letter_1 : decode cX11_letter 1 = .ok (.getfield 199, 3) := by decide +kernel
theorem dX11_letter_4 : decode cX11_letter 4 = .ok (.istore 6, 2) := by decide +kernel
theorem dX11_letter_6 : decode cX11_letter 6 = .ok (.aload_n 0, 1) := by decide +kernel
theorem dX11_letter_7 : decode cX11_letter 7 = .ok (.getfield 52, 3) := by decide +kernel
theorem dX11_letter_10 : decode cX11_letter 10 = .ok (.iload 6, 2) := by decide +kernel
theorem dX11_letter_12 : decode cX11_letter 12 = .ok (.iload_n 1, 1) := by decide +kernel
theorem dX11_letter_13 : decode cX11_letter 13 = .ok (.iastore, 1) := by decide +kernel
theorem dX11_letter_14 : decode cX11_letter 14 = .ok (.aload_n 0, 1) := by decide +kernel
theorem dX11_letter_15 : decode cX11_letter 15 = .ok (.getfield 55, 3) := by decide +kernel
theorem dX11_letter_18 : decode cX11_letter 18 = .ok (.iload 6, 2) := by decide +kernel
theorem dX11_letter_20 : decode cX11_letter 20 = .ok (.iload_n 2, 1) := by decide +kernel
theorem dX11_letter_21 : decode cX11_letter 21 = .ok (.iastore, 1) := by decide +kernel
theorem dX11_letter_22 : decode cX11_letter 22 = .ok (.aload_n 0, 1) := by decide +kernel
theorem dX11_letter_23 : decode cX11_letter 23 = .ok (.getfield 58, 3) := by decide +kernel
theorem dX11_letter_26 : decode cX11_letter 26 = .ok (.iload 6, 2) := by decide +kernel
theorem dX11_letter_28 : decode cX11_letter 28 = .ok (.iload_n 3, 1) := by decide +kernel
theorem dX11_letter_29 : decode cX11_letter 29 = .ok (.iastore, 1) := by decide +kernel
theorem dX11_letter_30 : decode cX11_letter 30 = .ok (.aload_n 0, 1) := by decide +kernel
theorem dX11_letter_31 : decode cX11_letter 31 = .ok (.getfield 61, 3) := by decide +kernel
theorem dX11_letter_34 : decode cX11_letter 34 = .ok (.iload 6, 2) := by decide +kernel
theorem dX11_letter_36 : decode cX11_letter 36 = .ok (.iload 4, 2) := by decide +kernel
theorem dX11_letter_38 : decode cX11_letter 38 = .ok (.iastore, 1) := by decide +kernel
theorem dX11_letter_39 : decode cX11_letter 39 = .ok (.aload_n 0, 1) := by decide +kernel
theorem dX11_letter_40 : decode cX11_letter 40 = .ok (.getfield 64, 3) := by decide +kernel
theorem dX11_letter_43 : decode cX11_letter 43 = .ok (.iload 6, 2) := by decide +kernel
theorem dX11_letter_45 : decode cX11_letter 45 = .ok (.iload 5, 2) := by decide +kernel
theorem dX11_letter_47 : decode cX11_letter 47 = .ok (.iastore, 1) := by decide +kernel
theorem dX11_letter_48 : decode cX11_letter 48 = .ok (.aload_n 0, 1) := by decide +kernel
theorem dX11_letter_49 : decode cX11_letter 49 = .ok (.getfield 67, 3) := by decide +kernel
theorem dX11_letter_52 : decode cX11_letter 52 = .ok (.iload 6, 2) := by decide +kernel
theorem dX11_letter_54 : decode cX11_letter 54 = .ok (.iconst (-1), 1) := by decide +kernel
theorem dX11_letter_55 : decode cX11_letter 55 = .ok (.iastore, 1) := by decide +kernel
theorem dX11_letter_56 : decode cX11_letter 56 = .ok (.aload_n 0, 1) := by decide +kernel
theorem dX11_letter_57 : decode cX11_letter 57 = .ok (.getfield 70, 3) := by decide +kernel
theorem dX11_letter_60 : decode cX11_letter 60 = .ok (.iload 6, 2) := by decide +kernel
theorem dX11_letter_62 : decode cX11_letter 62 = .ok (.iconst (-1), 1) := by decide +kernel
theorem dX11_letter_63 : decode cX11_letter 63 = .ok (.iastore, 1) := by decide +kernel
theorem dX11_letter_64 : decode cX11_letter 64 = .ok (.aload_n 0, 1) := by decide +kernel
theorem dX11_letter_65 : decode cX11_letter 65 = .ok (.getfield 73, 3) := by decide +kernel
theorem dX11_letter_68 : decode cX11_letter 68 = .ok (.iload 6, 2) := by decide +kernel
theorem dX11_letter_70 : decode cX11_letter 70 = .ok (.iconst (-1), 1) := by decide +kernel
theorem dX11_letter_71 : decode cX11_letter 71 = .ok (.iastore, 1) := by decide +kernel
theorem dX11_letter_72 : decode cX11_letter 72 = .ok (.aload_n 0, 1) := by decide +kernel
theorem dX11_letter_73 : decode cX11_letter 73 = .ok (.getfield 79, 3) := by decide +kernel
theorem dX11_letter_76 : decode cX11_letter 76 = .ok (.iload 6, 2) := by decide +kernel
theorem dX11_letter_78 : decode cX11_letter 78 = .ok (.iconst 1, 1) := by decide +kernel
theorem dX11_letter_79 : decode cX11_letter 79 = .ok (.bastore, 1) := by decide +kernel
theorem dX11_letter_80 : decode cX11_letter 80 = .ok (.aload_n 0, 1) := by decide +kernel
theorem dX11_letter_81 : decode cX11_letter 81 = .ok (.dup, 1) := by decide +kernel
theorem dX11_letter_82 : decode cX11_letter 82 = .ok (.getfield 199, 3) := by decide +kernel
theorem dX11_letter_85 : decode cX11_letter 85 = .ok (.iconst 1, 1) := by decide +kernel
theorem dX11_letter_86 : decode cX11_letter 86 = .ok (.iadd, 1) := by decide +kernel
theorem dX11_letter_87 : decode cX11_letter 87 = .ok (.putfield 199, 3) := by decide +kernel
theorem dX11_letter_90 : decode cX11_letter 90 = .ok (.iload 6, 2) := by decide +kernel
theorem dX11_letter_92 : decode cX11_letter 92 = .ok (.ireturn, 1) := by decide +kernel
def fX11_letter (o : Nat) (v1 : Int32) (v2 : Int32) (v3 : Int32) (v4 : Int32) (v5 : Int32) (h : Hz) : Option (Int32 × Hz) := (b1 (gI 11 24 o h) fun x1 => (b1 (gA 11 14 o h) fun a2 => (b1 (yI a2 x1 v1 h) fun s3 => (b1 (gA 11 15 o s3) fun a4 => (b1 (yI a4 x1 v2 s3) fun s5 => (b1 (gA 11 16 o s5) fun a6 => (b1 (yI a6 x1 v3 s5) fun s7 => (b1 (gA 11 17 o s7) fun a8 => (b1 (yI a8 x1 v4 s7) fun s9 => (b1 (gA 11 18 o s9) fun a10 => (b1 (yI a10 x1 v5 s9) fun s11 => (b1 (gA 11 19 o s11) fun a12 => (b1 (yI a12 x1 (-1) s11) fun s13 => (b1 (gA 11 20 o s13) fun a14 => (b1 (yI a14 x1 (-1) s13) fun s15 => (b1 (gA 11 21 o s15) fun a16 => (b1 (yI a16 x1 (-1) s15) fun s17 => (b1 (gA 11 23 o s17) fun a18 => (b1 (yZ a18 x1 1 s17) fun s19 => (b1 (gI 11 24 o s19) fun x20 => (b1 (pI 11 24 o (x20 + 1) s19) fun s21 => some (x1, s21))))))))))))))))))))))
set_option maxHeartbeats 4000000 in
set_option maxRecDepth 100000 in
theorem wX11_letter_0 {r0 : Int32} {h0 : Hz} (X : zX A D cy p s m args c cX11_letter RX11 7) (hlk : meth.locks = false) (hr : meth.sig.returnType = (some .int)) (o : Nat) (v1 : Int32) (v2 : Int32) (v3 : Int32) (v4 : Int32) (v5 : Int32) (h : Hz) (H : Heap) (locs : List Loc) (ls : Array Slot) (hl : lv_has ls 7 [(0, .ref o), (1, .int v1), (2, .int v2), (3, .int v3), (4, .int v4), (5, .int v5)]) (hW : zW A cy D h H) (hS : va_S A s.heap H locs) (h : fX11_letter o v1 v2 v3 v4 v5 h = some (r0, h0)) : W p l e ({ frames := 0, cells := 0, slots := 0, locals := 0 } : Room) s m args below meth c H locs 0 0 (MQ below (va_Qi (fun r1 u => r1 = r0 ∧ u = h0) (zB A D cy) A) args s 0 0 A) (F0 m 0 ls []) := by
  obtain ⟨hx, hb, hts, hown, hK9, hml, hN9, hA9⟩ := id X
  unfold fX11_letter at h
  refine lv_aload_n hx hb dX11_letter_0 rfl (lv_at hl 0 rfl) ?_
  replace h := b1_some h
  obtain ⟨x1, gx1, h⟩ := h
  refine z_getI X hW gx1 kX11 (by decide) (by decide) kf_X11_199 dX11_letter_1 ?_
  refine lv_istore (lv' := [(6, .int x1), (0, .ref o), (1, .int v1), (2, .int v2), (3, .int v3), (4, .int v4), (5, .int v5)]) hx hb dX11_letter_4 hl (by decide) rfl (fun ls hl => ?_)
  refine lv_aload_n hx hb dX11_letter_6 rfl (lv_at hl 1 rfl) ?_
  replace h := b1_some h
  obtain ⟨a2, ga2, h⟩ := h
  refine z_getA X hW ga2 kX11 (by decide) (by decide) kf_X11_52 dX11_letter_7 ?_
  refine lv_iload hx hb dX11_letter_10 (lv_at hl 0 rfl) ?_
  refine lv_iload_n hx hb dX11_letter_12 rfl (lv_at hl 2 rfl) ?_
  replace h := b1_some h
  obtain ⟨s3, gs3, h⟩ := h
  refine z_astI X hW hS gs3 dX11_letter_13 (fun H locs hW hS => ?_)
  refine lv_aload_n hx hb dX11_letter_14 rfl (lv_at hl 1 rfl) ?_
  replace h := b1_some h
  obtain ⟨a4, ga4, h⟩ := h
  refine z_getA X hW ga4 kX11 (by decide) (by decide) kf_X11_55 dX11_letter_15 ?_
  refine lv_iload hx hb dX11_letter_18 (lv_at hl 0 rfl) ?_
  refine lv_iload_n hx hb dX11_letter_20 rfl (lv_at hl 3 rfl) ?_
  replace h := b1_some h
  obtain ⟨s5, gs5, h⟩ := h
  refine z_astI X hW hS gs5 dX11_letter_21 (fun H locs hW hS => ?_)
  refine lv_aload_n hx hb dX11_letter_22 rfl (lv_at hl 1 rfl) ?_
  replace h := b1_some h
  obtain ⟨a6, ga6, h⟩ := h
  refine z_getA X hW ga6 kX11 (by decide) (by decide) kf_X11_58 dX11_letter_23 ?_
  refine lv_iload hx hb dX11_letter_26 (lv_at hl 0 rfl) ?_
  refine lv_iload_n hx hb dX11_letter_28 rfl (lv_at hl 4 rfl) ?_
  replace h := b1_some h
  obtain ⟨s7, gs7, h⟩ := h
  refine z_astI X hW hS gs7 dX11_letter_29 (fun H locs hW hS => ?_)
  refine lv_aload_n hx hb dX11_letter_30 rfl (lv_at hl 1 rfl) ?_
  replace h := b1_some h
  obtain ⟨a8, ga8, h⟩ := h
  refine z_getA X hW ga8 kX11 (by decide) (by decide) kf_X11_61 dX11_letter_31 ?_
  refine lv_iload hx hb dX11_letter_34 (lv_at hl 0 rfl) ?_
  refine lv_iload hx hb dX11_letter_36 (lv_at hl 5 rfl) ?_
  replace h := b1_some h
  obtain ⟨s9, gs9, h⟩ := h
  refine z_astI X hW hS gs9 dX11_letter_38 (fun H locs hW hS => ?_)
  refine lv_aload_n hx hb dX11_letter_39 rfl (lv_at hl 1 rfl) ?_
  replace h := b1_some h
  obtain ⟨a10, ga10, h⟩ := h
  refine z_getA X hW ga10 kX11 (by decide) (by decide) kf_X11_64 dX11_letter_40 ?_
  refine lv_iload hx hb dX11_letter_43 (lv_at hl 0 rfl) ?_
  refine lv_iload hx hb dX11_letter_45 (lv_at hl 6 rfl) ?_
  replace h := b1_some h
  obtain ⟨s11, gs11, h⟩ := h
  refine z_astI X hW hS gs11 dX11_letter_47 (fun H locs hW hS => ?_)
  refine lv_aload_n hx hb dX11_letter_48 rfl (lv_at hl 1 rfl) ?_
  replace h := b1_some h
  obtain ⟨a12, ga12, h⟩ := h
  refine z_getA X hW ga12 kX11 (by decide) (by decide) kf_X11_67 dX11_letter_49 ?_
  refine lv_iload hx hb dX11_letter_52 (lv_at hl 0 rfl) ?_
  refine lv_iconst (v := (-1)) hx hb dX11_letter_54 (by decide) ?_
  replace h := b1_some h
  obtain ⟨s13, gs13, h⟩ := h
  refine z_astI X hW hS gs13 dX11_letter_55 (fun H locs hW hS => ?_)
  refine lv_aload_n hx hb dX11_letter_56 rfl (lv_at hl 1 rfl) ?_
  replace h := b1_some h
  obtain ⟨a14, ga14, h⟩ := h
  refine z_getA X hW ga14 kX11 (by decide) (by decide) kf_X11_70 dX11_letter_57 ?_
  refine lv_iload hx hb dX11_letter_60 (lv_at hl 0 rfl) ?_
  refine lv_iconst (v := (-1)) hx hb dX11_letter_62 (by decide) ?_
  replace h := b1_some h
  obtain ⟨s15, gs15, h⟩ := h
  refine z_astI X hW hS gs15 dX11_letter_63 (fun H locs hW hS => ?_)
  refine lv_aload_n hx hb dX11_letter_64 rfl (lv_at hl 1 rfl) ?_
  replace h := b1_some h
  obtain ⟨a16, ga16, h⟩ := h
  refine z_getA X hW ga16 kX11 (by decide) (by decide) kf_X11_73 dX11_letter_65 ?_
  refine lv_iload hx hb dX11_letter_68 (lv_at hl 0 rfl) ?_
  refine lv_iconst (v := (-1)) hx hb dX11_letter_70 (by decide) ?_
  replace h := b1_some h
  obtain ⟨s17, gs17, h⟩ := h
  refine z_astI X hW hS gs17 dX11_letter_71 (fun H locs hW hS => ?_)
  refine lv_aload_n hx hb dX11_letter_72 rfl (lv_at hl 1 rfl) ?_
  replace h := b1_some h
  obtain ⟨a18, ga18, h⟩ := h
  refine z_getA X hW ga18 kX11 (by decide) (by decide) kf_X11_79 dX11_letter_73 ?_
  refine lv_iload hx hb dX11_letter_76 (lv_at hl 0 rfl) ?_
  refine lv_iconst (v := 1) hx hb dX11_letter_78 (by decide) ?_
  replace h := b1_some h
  obtain ⟨s19, gs19, h⟩ := h
  refine z_astZ X hW hS gs19 dX11_letter_79 (fun H locs hW hS => ?_)
  refine lv_aload_n hx hb dX11_letter_80 rfl (lv_at hl 1 rfl) ?_
  refine lv_dup hx hb dX11_letter_81 rfl ?_
  replace h := b1_some h
  obtain ⟨x20, gx20, h⟩ := h
  refine z_getI X hW gx20 kX11 (by decide) (by decide) kf_X11_199 dX11_letter_82 ?_
  refine lv_iconst (v := 1) hx hb dX11_letter_85 (by decide) ?_
  refine lv_iadd hx hb dX11_letter_86 ?_
  replace h := b1_some h
  obtain ⟨s21, gs21, h⟩ := h
  refine z_putI X hW hS gs21 kX11 (by decide) (by decide) rfl (Or.inl rfl) kf_X11_199 dX11_letter_87 (fun H locs hW hS => ?_)
  refine lv_iload hx hb dX11_letter_90 (lv_at hl 0 rfl) ?_
  exact z_eti X hlk hr hW hS h (by decide) (by decide) dX11_letter_92

set_option maxHeartbeats 4000000 in
set_option maxRecDepth 100000 in
theorem cX11_letter_met {l : Launch} {A : Nat → Prop} {D : va_G} {cy : Nat → ClassId} {r0 : Int32} {h0 : Hz} {o : Nat} {v1 : Int32} {v2 : Int32} {v3 : Int32} {v4 : Int32} {v5 : Int32} {h : Hz} (g : fX11_letter o v1 v2 v3 v4 v5 h = some (r0, h0)) : Met l yX11_letter (Cond.code yX11_letter cX11_letter 7 (some .int) :: wT) ({ frames := 0, cells := 0, slots := 0, locals := 0 } : Room) (va_Pc [.ref o, .int v1, .int v2, .int v3, .int v4, .int v5] (zS A D cy h)) (va_Qi (fun r1 u => r1 = r0 ∧ u = h0) (zB A D cy) A) 0 0 A := by
  refine Met.ofW (cc := cX11_letter) (maxL := 7) (ret := (some .int)) (by decide) rfl ?_
  intro p e s m args below meth c s₁ B hml hv
  obtain ⟨rfl, hW, hK, hN, hA⟩ := hv
  have X : zX A D cy p s m _ c cX11_letter RX11 7 := ⟨B.exec, B.bytes, fun w hw => atoms_spec (ws := Cond.code yX11_letter cX11_letter 7 (some .int) :: wT) B.pre w (List.mem_cons_of_mem _ hw), findClass_of_methodNamed B.named, hK, hml, hN, hA⟩
  have hl := lv_entry [.ref o, .int v1, .int v2, .int v3, .int v4, .int v5] (n := 7) (Nat.le_of_ble_eq_true rfl)
  rw [lg_entry_eq]
  generalize (lg_sl [.ref o, .int v1, .int v2, .int v3, .int v4, .int v5] ++ List.replicate (7 - (lg_sl [.ref o, .int v1, .int v2, .int v3, .int v4, .int v5]).length) Slot.unset).toArray = ls at hl ⊢
  have hl : lv_has ls 7 [(0, .ref o), (1, .int v1), (2, .int v2), (3, .int v3), (4, .int v4), (5, .int v5)] := hl
  exact wX11_letter_0 X B.notSynchronized B.returns o v1 v2 v3 v4 v5 _ _ _ _ (lv_sub hl [0, 1, 2, 3, 4, 5] rfl) hW va_S.rf g

theorem dX11_name_0 : decode cX11_name 0 = .ok (.aload_n 0, 1) := by decide +kernel
theorem dX11_name_1 : decode cX11_name 1 = .ok (.iconst 0, 1) := by decide +kernel
theorem dX11_name_2 : decode cX11_name 2 = .ok (.aload_n 0, 1) := by decide +kernel
theorem dX11_name_3 : decode cX11_name 3 = .ok (.getfield 13, 3) := by decide +kernel
theorem dX11_name_6 : decode cX11_name 6 = .ok (.iload 4, 2) := by decide +kernel
theorem dX11_name_8 : decode cX11_name 8 = .ok (.iaload, 1) := by decide +kernel
theorem dX11_name_9 : decode cX11_name 9 = .ok (.iload_n 3, 1) := by decide +kernel
theorem dX11_name_10 : decode cX11_name 10 = .ok (.iload_n 1, 1) := by decide +kernel
theorem dX11_name_11 : decode cX11_name 11 = .ok (.iload_n 2, 1) := by decide +kernel
theorem dX11_name_12 : decode cX11_name 12 = .ok (.invokevirtual 202, 3) := by decide +kernel
theorem dX11_name_15 : decode cX11_name 15 = .ok (.istore 6, 2) := by decide +kernel
theorem dX11_name_17 : decode cX11_name 17 = .ok (.aload_n 0, 1) := by decide +kernel
theorem dX11_name_18 : decode cX11_name 18 = .ok (.getfield 67, 3) := by decide +kernel
theorem dX11_name_21 : decode cX11_name 21 = .ok (.iload 6, 2) := by decide +kernel
theorem dX11_name_23 : decode cX11_name 23 = .ok (.iload 4, 2) := by decide +kernel
theorem dX11_name_25 : decode cX11_name 25 = .ok (.iastore, 1) := by decide +kernel
theorem dX11_name_26 : decode cX11_name 26 = .ok (.aload_n 0, 1) := by decide +kernel
theorem dX11_name_27 : decode cX11_name 27 = .ok (.getfield 70, 3) := by decide +kernel
theorem dX11_name_30 : decode cX11_name 30 = .ok (.iload 6, 2) := by decide +kernel
theorem dX11_name_32 : decode cX11_name 32 = .ok (.iload 5, 2) := by decide +kernel
theorem dX11_name_34 : decode cX11_name 34 = .ok (.iastore, 1) := by decide +kernel
theorem dX11_name_35 : decode cX11_name 35 = .ok (.iload 6, 2) := by decide +kernel
theorem dX11_name_37 : decode cX11_name 37 = .ok (.ireturn, 1) := by decide +kernel
def fX11_name (o : Nat) (v1 : Int32) (v2 : Int32) (v3 : Int32) (v4 : Int32) (v5 : Int32) (h : Hz) : Option (Int32 × Hz) := (b1 (gA 11 1 o h) fun a1 => (b1 (xI 12 a1 v4 h) fun x2 => (b1 (tg 11 o h) fun _ => (b2 (fX11_letter o 0 x2 v3 v1 v2 h) fun x4 s5 => (b1 (gA 11 19 o s5) fun a6 => (b1 (yI a6 x4 v4 s5) fun s7 => (b1 (gA 11 20 o s7) fun a8 => (b1 (yI a8 x4 v5 s7) fun s9 => some (x4, s9)))))))))
set_option maxHeartbeats 4000000 in
set_option maxRecDepth 100000 in
theorem wX11_name_0 {r0 : Int32} {h0 : Hz} (X : zX A D cy p s m args c cX11_name RX11 7) (hlk : meth.locks = false) (hr : meth.sig.returnType = (some .int)) (o : Nat) (v1 : Int32) (v2 : Int32) (v3 : Int32) (v4 : Int32) (v5 : Int32) (h : Hz) (H : Heap) (locs : List Loc) (ls : Array Slot) (hl : lv_has ls 7 [(0, .ref o), (1, .int v1), (2, .int v2), (3, .int v3), (4, .int v4), (5, .int v5)]) (hW : zW A cy D h H) (hS : va_S A s.heap H locs) (h : fX11_name o v1 v2 v3 v4 v5 h = some (r0, h0)) : W p l e ({ frames := 1, cells := 0, slots := 0, locals := 26 } : Room) s m args below meth c H locs 0 0 (MQ below (va_Qi (fun r1 u => r1 = r0 ∧ u = h0) (zB A D cy) A) args s 0 0 A) (F0 m 0 ls []) := by
  obtain ⟨hx, hb, hts, hown, hK9, hml, hN9, hA9⟩ := id X
  unfold fX11_name at h
  refine lv_aload_n hx hb dX11_name_0 rfl (lv_at hl 0 rfl) ?_
  refine lv_iconst (v := 0) hx hb dX11_name_1 (by decide) ?_
  refine lv_aload_n hx hb dX11_name_2 rfl (lv_at hl 0 rfl) ?_
  replace h := b1_some h
  obtain ⟨a1, ga1, h⟩ := h
  refine z_getA X hW ga1 kX11 (by decide) (by decide) kf_X11_13 dX11_name_3 ?_
  refine lv_iload hx hb dX11_name_6 (lv_at hl 4 rfl) ?_
  replace h := b1_some h
  obtain ⟨x2, gx2, h⟩ := h
  refine z_aldI X hW gx2 dX11_name_8 ?_
  refine lv_iload_n hx hb dX11_name_9 rfl (lv_at hl 3 rfl) ?_
  refine lv_iload_n hx hb dX11_name_10 rfl (lv_at hl 1 rfl) ?_
  refine lv_iload_n hx hb dX11_name_11 rfl (lv_at hl 2 rfl) ?_
  replace h := b1_some h
  obtain ⟨q3, gq3, h⟩ := h
  replace h := b2_some h
  obtain ⟨x4, s5, gs5, h⟩ := h
  refine z_callVi (rest := []) X hW hS (cX11_letter_met gs5) kb_X11_letter kv_X11_letter kl_X11_202 (it_v gq3).1 kX11 rfl rfl ⟨Nat.le_of_ble_eq_true rfl, Nat.le_of_ble_eq_true rfl⟩ rfl rfl (by decide) hl.1 dX11_name_12 ⟨(by decide), (by decide)⟩ (fun H locs hW hS => ?_)
  refine lv_istore (lv' := [(6, .int x4), (0, .ref o), (1, .int v1), (2, .int v2), (3, .int v3), (4, .int v4), (5, .int v5)]) hx hb dX11_name_15 hl (by decide) rfl (fun ls hl => ?_)
  refine lv_aload_n hx hb dX11_name_17 rfl (lv_at hl 1 rfl) ?_
  replace h := b1_some h
  obtain ⟨a6, ga6, h⟩ := h
  refine z_getA X hW ga6 kX11 (by decide) (by decide) kf_X11_67 dX11_name_18 ?_
  refine lv_iload hx hb dX11_name_21 (lv_at hl 0 rfl) ?_
  refine lv_iload hx hb dX11_name_23 (lv_at hl 5 rfl) ?_
  replace h := b1_some h
  obtain ⟨s7, gs7, h⟩ := h
  refine z_astI X hW hS gs7 dX11_name_25 (fun H locs hW hS => ?_)
  refine lv_aload_n hx hb dX11_name_26 rfl (lv_at hl 1 rfl) ?_
  replace h := b1_some h
  obtain ⟨a8, ga8, h⟩ := h
  refine z_getA X hW ga8 kX11 (by decide) (by decide) kf_X11_70 dX11_name_27 ?_
  refine lv_iload hx hb dX11_name_30 (lv_at hl 0 rfl) ?_
  refine lv_iload hx hb dX11_name_32 (lv_at hl 6 rfl) ?_
  replace h := b1_some h
  obtain ⟨s9, gs9, h⟩ := h
  refine z_astI X hW hS gs9 dX11_name_34 (fun H locs hW hS => ?_)
  refine lv_iload hx hb dX11_name_35 (lv_at hl 0 rfl) ?_
  exact z_eti X hlk hr hW hS h (by decide) (by decide) dX11_name_37

set_option maxHeartbeats 4000000 in
set_option maxRecDepth 100000 in
theorem cX11_name_met {l : Launch} {A : Nat → Prop} {D : va_G} {cy : Nat → ClassId} {r0 : Int32} {h0 : Hz} {o : Nat} {v1 : Int32} {v2 : Int32} {v3 : Int32} {v4 : Int32} {v5 : Int32} {h : Hz} (g : fX11_name o v1 v2 v3 v4 v5 h = some (r0, h0)) : Met l yX11_name (Cond.code yX11_name cX11_name 7 (some .int) :: wT) ({ frames := 1, cells := 0, slots := 0, locals := 26 } : Room) (va_Pc [.ref o, .int v1, .int v2, .int v3, .int v4, .int v5] (zS A D cy h)) (va_Qi (fun r1 u => r1 = r0 ∧ u = h0) (zB A D cy) A) 0 0 A := by
  refine Met.ofW (cc := cX11_name) (maxL := 7) (ret := (some .int)) (by decide) rfl ?_
  intro p e s m args below meth c s₁ B hml hv
  obtain ⟨rfl, hW, hK, hN, hA⟩ := hv
  have X : zX A D cy p s m _ c cX11_name RX11 7 := ⟨B.exec, B.bytes, fun w hw => atoms_spec (ws := Cond.code yX11_name cX11_name 7 (some .int) :: wT) B.pre w (List.mem_cons_of_mem _ hw), findClass_of_methodNamed B.named, hK, hml, hN, hA⟩
  have hl := lv_entry [.ref o, .int v1, .int v2, .int v3, .int v4, .int v5] (n := 7) (Nat.le_of_ble_eq_true rfl)
  rw [lg_entry_eq]
  generalize (lg_sl [.ref o, .int v1, .int v2, .int v3, .int v4, .int v5] ++ List.replicate (7 - (lg_sl [.ref o, .int v1, .int v2, .int v3, .int v4, .int v5]).length) Slot.unset).toArray = ls at hl ⊢
  have hl : lv_has ls 7 [(0, .ref o), (1, .int v1), (2, .int v2), (3, .int v3), (4, .int v4), (5, .int v5)] := hl
  exact wX11_name_0 X B.notSynchronized B.returns o v1 v2 v3 v4 v5 _ _ _ _ (lv_sub hl [0, 1, 2, 3, 4, 5] rfl) hW va_S.rf g

theorem dX11_half_0 : decode cX11_half 0 = .ok (.aload_n 0, 1) := by decide +kernel
theorem dX11_half_1 : decode cX11_half 1 = .ok (.getfield 28, 3) := by decide +kernel
theorem dX11_half_4 : decode cX11_half 4 = .ok (.iload_n 1, 1) := by decide +kernel
theorem dX11_half_5 : decode cX11_half 5 = .ok (.iaload, 1) := by decide +kernel
theorem dX11_half_6 : decode cX11_half 6 = .ok (.iconst 2, 1) := by decide +kernel
theorem dX11_half_7 : decode cX11_half 7 = .ok (.idiv, 1) := by decide +kernel
theorem dX11_half_8 : decode cX11_half 8 = .ok (.istore 4, 2) := by decide +kernel
theorem dX11_half_10 : decode cX11_half 10 = .ok (.aload_n 0, 1) := by decide +kernel
theorem dX11_half_11 : decode cX11_half 11 = .ok (.getfield 28, 3) := by decide +kernel
theorem dX11_half_14 : decode cX11_half 14 = .ok (.iload_n 1, 1) := by decide +kernel
theorem dX11_half_15 : decode cX11_half 15 = .ok (.dup2, 1) := by decide +kernel
theorem dX11_half_16 : decode cX11_half 16 = .ok (.iaload, 1) := by decide +kernel
theorem dX11_half_17 : decode cX11_half 17 = .ok (.iload 4, 2) := by decide +kernel
theorem dX11_half_19 : decode cX11_half 19 = .ok (.isub, 1) := by decide +kernel
theorem dX11_half_20 : decode cX11_half 20 = .ok (.iastore, 1) := by decide +kernel
theorem dX11_half_21 : decode cX11_half 21 = .ok (.aload_n 0, 1) := by decide +kernel
theorem dX11_half_22 : decode cX11_half 22 = .ok (.aload_n 0, 1) := by decide +kernel
theorem dX11_half_23 : decode cX11_half 23 = .ok (.getfield 25, 3) := by decide +kernel
theorem dX11_half_26 : decode cX11_half 26 = .ok (.iload_n 1, 1) := by decide +kernel
theorem dX11_half_27 : decode cX11_half 27 = .ok (.iaload, 1) := by decide +kernel
theorem dX11_half_28 : decode cX11_half 28 = .ok (.iload 4, 2) := by decide +kernel
theorem dX11_half_30 : decode cX11_half 30 = .ok (.aload_n 0, 1) := by decide +kernel
theorem dX11_half_31 : decode cX11_half 31 = .ok (.getfield 13, 3) := by decide +kernel
theorem dX11_half_34 : decode cX11_half 34 = .ok (.iload_n 1, 1) := by decide +kernel
theorem dX11_half_35 : decode cX11_half 35 = .ok (.iaload, 1) := by decide +kernel
theorem dX11_half_36 : decode cX11_half 36 = .ok (.iload_n 2, 1) := by decide +kernel
theorem dX11_half_37 : decode cX11_half 37 = .ok (.iload_n 3, 1) := by decide +kernel
theorem dX11_half_38 : decode cX11_half 38 = .ok (.invokevirtual 206, 3) := by decide +kernel
theorem dX11_half_41 : decode cX11_half 41 = .ok (.ireturn, 1) := by decide +kernel
def fX11_half (o : Nat) (v1 : Int32) (v2 : Int32) (v3 : Int32) (h : Hz) : Option (Int32 × Hz) := (b1 (gA 11 6 o h) fun a1 => (b1 (xI 12 a1 v1 h) fun x2 => (b1 (gA 11 6 o h) fun a3 => (b1 (xI 12 a3 v1 h) fun x4 => (b1 (yI a3 v1 (x4 - (x2 / 2)) h) fun s5 => (b1 (gA 11 5 o s5) fun a6 => (b1 (xI 12 a6 v1 s5) fun x7 => (b1 (gA 11 1 o s5) fun a8 => (b1 (xI 12 a8 v1 s5) fun x9 => (b1 (tg 11 o s5) fun _ => (b2 (fX11_name o x7 (x2 / 2) x9 v2 v3 s5) fun x11 s12 => some (x11, s12))))))))))))
set_option maxHeartbeats 4000000 in
set_option maxRecDepth 100000 in
theorem wX11_half_0 {r0 : Int32} {h0 : Hz} (X : zX A D cy p s m args c cX11_half RX11 5) (hlk : meth.locks = false) (hr : meth.sig.returnType = (some .int)) (o : Nat) (v1 : Int32) (v2 : Int32) (v3 : Int32) (h : Hz) (H : Heap) (locs : List Loc) (ls : Array Slot) (hl : lv_has ls 5 [(0, .ref o), (1, .int v1), (2, .int v2), (3, .int v3)]) (hW : zW A cy D h H) (hS : va_S A s.heap H locs) (h : fX11_half o v1 v2 v3 h = some (r0, h0)) : W p l e ({ frames := 2, cells := 0, slots := 0, locals := 52 } : Room) s m args below meth c H locs 0 0 (MQ below (va_Qi (fun r1 u => r1 = r0 ∧ u = h0) (zB A D cy) A) args s 0 0 A) (F0 m 0 ls []) := by
  obtain ⟨hx, hb, hts, hown, hK9, hml, hN9, hA9⟩ := id X
  unfold fX11_half at h
  refine lv_aload_n hx hb dX11_half_0 rfl (lv_at hl 0 rfl) ?_
  replace h := b1_some h
  obtain ⟨a1, ga1, h⟩ := h
  refine z_getA X hW ga1 kX11 (by decide) (by decide) kf_X11_28 dX11_half_1 ?_
  refine lv_iload_n hx hb dX11_half_4 rfl (lv_at hl 1 rfl) ?_
  replace h := b1_some h
  obtain ⟨x2, gx2, h⟩ := h
  refine z_aldI X hW gx2 dX11_half_5 ?_
  refine lv_iconst (v := 2) hx hb dX11_half_6 (by decide) ?_
  refine lv_idiv hx hb dX11_half_7 (by decide) ?_
  refine lv_istore (lv' := [(4, .int (x2 / 2)), (0, .ref o), (1, .int v1), (2, .int v2), (3, .int v3)]) hx hb dX11_half_8 hl (by decide) rfl (fun ls hl => ?_)
  refine lv_aload_n hx hb dX11_half_10 rfl (lv_at hl 1 rfl) ?_
  replace h := b1_some h
  obtain ⟨a3, ga3, h⟩ := h
  refine z_getA X hW ga3 kX11 (by decide) (by decide) kf_X11_28 dX11_half_11 ?_
  refine lv_iload_n hx hb dX11_half_14 rfl (lv_at hl 2 rfl) ?_
  refine lv_dup2_11 hx hb dX11_half_15 rfl rfl ?_
  replace h := b1_some h
  obtain ⟨x4, gx4, h⟩ := h
  refine z_aldI X hW gx4 dX11_half_16 ?_
  refine lv_iload hx hb dX11_half_17 (lv_at hl 0 rfl) ?_
  refine lv_isub hx hb dX11_half_19 ?_
  replace h := b1_some h
  obtain ⟨s5, gs5, h⟩ := h
  refine z_astI X hW hS gs5 dX11_half_20 (fun H locs hW hS => ?_)
  refine lv_aload_n hx hb dX11_half_21 rfl (lv_at hl 1 rfl) ?_
  refine lv_aload_n hx hb dX11_half_22 rfl (lv_at hl 1 rfl) ?_
  replace h := b1_some h
  obtain ⟨a6, ga6, h⟩ := h
  refine z_getA X hW ga6 kX11 (by decide) (by decide) kf_X11_25 dX11_half_23 ?_
  refine lv_iload_n hx hb dX11_half_26 rfl (lv_at hl 2 rfl) ?_
  replace h := b1_some h
  obtain ⟨x7, gx7, h⟩ := h
  refine z_aldI X hW gx7 dX11_half_27 ?_
  refine lv_iload hx hb dX11_half_28 (lv_at hl 0 rfl) ?_
  refine lv_aload_n hx hb dX11_half_30 rfl (lv_at hl 1 rfl) ?_
  replace h := b1_some h
  obtain ⟨a8, ga8, h⟩ := h
  refine z_getA X hW ga8 kX11 (by decide) (by decide) kf_X11_13 dX11_half_31 ?_
  refine lv_iload_n hx hb dX11_half_34 rfl (lv_at hl 2 rfl) ?_
  replace h := b1_some h
  obtain ⟨x9, gx9, h⟩ := h
  refine z_aldI X hW gx9 dX11_half_35 ?_
  refine lv_iload_n hx hb dX11_half_36 rfl (lv_at hl 3 rfl) ?_
  refine lv_iload_n hx hb dX11_half_37 rfl (lv_at hl 4 rfl) ?_
  replace h := b1_some h
  obtain ⟨q10, gq10, h⟩ := h
  replace h := b2_some h
  obtain ⟨x11, s12, gs12, h⟩ := h
  refine z_callVi (rest := []) X hW hS (cX11_name_met gs12) kb_X11_name kv_X11_name kl_X11_206 (it_v gq10).1 kX11 rfl rfl ⟨Nat.le_of_ble_eq_true rfl, Nat.le_of_ble_eq_true rfl⟩ rfl rfl (by decide) hl.1 dX11_half_38 ⟨(by decide), (by decide)⟩ (fun H locs hW hS => ?_)
  exact z_eti X hlk hr hW hS h (by decide) (by decide) dX11_half_41

set_option maxHeartbeats 4000000 in
set_option maxRecDepth 100000 in
theorem cX11_half_met {l : Launch} {A : Nat → Prop} {D : va_G} {cy : Nat → ClassId} {r0 : Int32} {h0 : Hz} {o : Nat} {v1 : Int32} {v2 : Int32} {v3 : Int32} {h : Hz} (g : fX11_half o v1 v2 v3 h = some (r0, h0)) : Met l yX11_half (Cond.code yX11_half cX11_half 5 (some .int) :: wT) ({ frames := 2, cells := 0, slots := 0, locals := 52 } : Room) (va_Pc [.ref o, .int v1, .int v2, .int v3] (zS A D cy h)) (va_Qi (fun r1 u => r1 = r0 ∧ u = h0) (zB A D cy) A) 0 0 A := by
  refine Met.ofW (cc := cX11_half) (maxL := 5) (ret := (some .int)) (by decide) rfl ?_
  intro p e s m args below meth c s₁ B hml hv
  obtain ⟨rfl, hW, hK, hN, hA⟩ := hv
  have X : zX A D cy p s m _ c cX11_half RX11 5 := ⟨B.exec, B.bytes, fun w hw => atoms_spec (ws := Cond.code yX11_half cX11_half 5 (some .int) :: wT) B.pre w (List.mem_cons_of_mem _ hw), findClass_of_methodNamed B.named, hK, hml, hN, hA⟩
  have hl := lv_entry [.ref o, .int v1, .int v2, .int v3] (n := 5) (Nat.le_of_ble_eq_true rfl)
  rw [lg_entry_eq]
  generalize (lg_sl [.ref o, .int v1, .int v2, .int v3] ++ List.replicate (5 - (lg_sl [.ref o, .int v1, .int v2, .int v3]).length) Slot.unset).toArray = ls at hl ⊢
  have hl : lv_has ls 5 [(0, .ref o), (1, .int v1), (2, .int v2), (3, .int v3)] := hl
  exact wX11_half_0 X B.notSynchronized B.returns o v1 v2 v3 _ _ _ _ (lv_sub hl [0, 1, 2, 3] rfl) hW va_S.rf g

theorem dX11_send_0 : decode cX11_send 0 = .ok (.aload_n 0, 1) := by decide +kernel
theorem dX11_send_1 : decode cX11_send 1 = .ok (.iload_n 1, 1) := by decide +kernel
theorem dX11_send_2 : decode cX11_send 2 = .ok (.invokevirtual 178, 3) := by decide +kernel
theorem dX11_send_5 : decode cX11_send 5 = .ok (.ifCond .eq 11, 3) := by decide +kernel
theorem dX11_send_8 : decode cX11_send 8 = .ok (.aload_n 0, 1) := by decide +kernel
theorem dX11_send_9 : decode cX11_send 9 = .ok (.iload_n 2, 1) := by decide +kernel
theorem dX11_send_10 : decode cX11_send 10 = .ok (.invokevirtual 178, 3) := by decide +kernel
theorem dX11_send_13 : decode cX11_send 13 = .ok (.ifCond .ne 9, 3) := by decide +kernel
theorem dX11_send_16 : decode cX11_send 16 = .ok (.aload_n 0, 1) := by decide +kernel
theorem dX11_send_17 : decode cX11_send 17 = .ok (.iconst (-1), 1) := by decide +kernel
theorem dX11_send_18 : decode cX11_send 18 = .ok (.invokevirtual 170, 3) := by decide +kernel
theorem dX11_send_21 : decode cX11_send 21 = .ok (.ireturn, 1) := by decide +kernel
theorem dX11_send_22 : decode cX11_send 22 = .ok (.aload_n 0, 1) := by decide +kernel
theorem dX11_send_23 : decode cX11_send 23 = .ok (.getfield 9, 3) := by decide +kernel
theorem dX11_send_26 : decode cX11_send 26 = .ok (.iload_n 2, 1) := by decide +kernel
theorem dX11_send_27 : decode cX11_send 27 = .ok (.iaload, 1) := by decide +kernel
theorem dX11_send_28 : decode cX11_send 28 = .ok (.iconst 2, 1) := by decide +kernel
theorem dX11_send_29 : decode cX11_send 29 = .ok (.if_icmp .eq 10, 3) := by decide +kernel
theorem dX11_send_32 : decode cX11_send 32 = .ok (.aload_n 0, 1) := by decide +kernel
theorem dX11_send_33 : decode cX11_send 33 = .ok (.bipush (-2), 2) := by decide +kernel
theorem dX11_send_35 : decode cX11_send 35 = .ok (.invokevirtual 170, 3) := by decide +kernel
theorem dX11_send_38 : decode cX11_send 38 = .ok (.ireturn, 1) := by decide +kernel
theorem dX11_send_39 : decode cX11_send 39 = .ok (.iload_n 3, 1) := by decide +kernel
theorem dX11_send_40 : decode cX11_send 40 = .ok (.aload_n 0, 1) := by decide +kernel
theorem dX11_send_41 : decode cX11_send 41 = .ok (.getfield 19, 3) := by decide +kernel
theorem dX11_send_44 : decode cX11_send 44 = .ok (.iload_n 2, 1) := by decide +kernel
theorem dX11_send_45 : decode cX11_send 45 = .ok (.iaload, 1) := by decide +kernel
theorem dX11_send_46 : decode cX11_send 46 = .ok (.invokestatic 149, 3) := by decide +kernel
theorem dX11_send_49 : decode cX11_send 49 = .ok (.ifCond .ne 10, 3) := by decide +kernel
theorem dX11_send_52 : decode cX11_send 52 = .ok (.aload_n 0, 1) := by decide +kernel
theorem dX11_send_53 : decode cX11_send 53 = .ok (.bipush (-3), 2) := by decide +kernel
theorem dX11_send_55 : decode cX11_send 55 = .ok (.invokevirtual 170, 3) := by decide +kernel
theorem dX11_send_58 : decode cX11_send 58 = .ok (.ireturn, 1) := by decide +kernel
theorem dX11_send_59 : decode cX11_send 59 = .ok (.aload_n 0, 1) := by decide +kernel
theorem dX11_send_60 : decode cX11_send 60 = .ok (.getfield 13, 3) := by decide +kernel
theorem dX11_send_63 : decode cX11_send 63 = .ok (.iload_n 1, 1) := by decide +kernel
theorem dX11_send_64 : decode cX11_send 64 = .ok (.iaload, 1) := by decide +kernel
theorem dX11_send_65 : decode cX11_send 65 = .ok (.aload_n 0, 1) := by decide +kernel
theorem dX11_send_66 : decode cX11_send 66 = .ok (.getfield 13, 3) := by decide +kernel
theorem dX11_send_69 : decode cX11_send 69 = .ok (.iload_n 2, 1) := by decide +kernel
theorem dX11_send_70 : decode cX11_send 70 = .ok (.iaload, 1) := by decide +kernel
theorem dX11_send_71 : decode cX11_send 71 = .ok (.if_icmp .eq 11, 3) := by decide +kernel
theorem dX11_send_74 : decode cX11_send 74 = .ok (.aload_n 0, 1) := by decide +kernel
theorem dX11_send_75 : decode cX11_send 75 = .ok (.iload_n 1, 1) := by decide +kernel
theorem dX11_send_76 : decode cX11_send 76 = .ok (.invokevirtual 167, 3) := by decide +kernel
theorem dX11_send_79 : decode cX11_send 79 = .ok (.ifCond .ne 10, 3) := by decide +kernel
theorem dX11_send_82 : decode cX11_send 82 = .ok (.aload_n 0, 1) := by decide +kernel
theorem dX11_send_83 : decode cX11_send 83 = .ok (.bipush (-5), 2) := by decide +kernel
theorem dX11_send_85 : decode cX11_send 85 = .ok (.invokevirtual 170, 3) := by decide +kernel
theorem dX11_send_88 : decode cX11_send 88 = .ok (.ireturn, 1) := by decide +kernel
theorem dX11_send_89 : decode cX11_send 89 = .ok (.aload_n 0, 1) := by decide +kernel
theorem dX11_send_90 : decode cX11_send 90 = .ok (.getfield 9, 3) := by decide +kernel
theorem dX11_send_93 : decode cX11_send 93 = .ok (.iload_n 1, 1) := by decide +kernel
theorem dX11_send_94 : decode cX11_send 94 = .ok (.iaload, 1) := by decide +kernel
theorem dX11_send_95 : decode cX11_send 95 = .ok (.iconst 3, 1) := by decide +kernel
theorem dX11_send_96 : decode cX11_send 96 = .ok (.if_icmp .ne 17, 3) := by decide +kernel
theorem dX11_send_99 : decode cX11_send 99 = .ok (.aload_n 0, 1) := by decide +kernel
theorem dX11_send_100 : decode cX11_send 100 = .ok (.getfield 28, 3) := by decide +kernel
theorem dX11_send_103 : decode cX11_send 103 = .ok (.iload_n 1, 1) := by decide +kernel
theorem dX11_send_104 : decode cX11_send 104 = .ok (.iaload, 1) := by decide +kernel
theorem dX11_send_105 : decode cX11_send 105 = .ok (.iconst 1, 1) := by decide +kernel
theorem dX11_send_106 : decode cX11_send 106 = .ok (.if_icmp .ne 7, 3) := by decide +kernel
theorem dX11_send_109 : decode cX11_send 109 = .ok (.iconst 1, 1) := by decide +kernel
theorem dX11_send_110 : decode cX11_send 110 = .ok (.goto 4, 3) := by decide +kernel
theorem dX11_send_113 : decode cX11_send 113 = .ok (.iconst 0, 1) := by decide +kernel
theorem dX11_send_114 : decode cX11_send 114 = .ok (.istore 4, 2) := by decide +kernel
theorem dX11_send_116 : decode cX11_send 116 = .ok (.aload_n 0, 1) := by decide +kernel
theorem dX11_send_117 : decode cX11_send 117 = .ok (.getfield 199, 3) := by decide +kernel
theorem dX11_send_120 : decode cX11_send 120 = .ok (.sipush 600, 3) := by decide +kernel
theorem dX11_send_123 : decode cX11_send 123 = .ok (.if_icmp .eq 17, 3) := by decide +kernel
theorem dX11_send_126 : decode cX11_send 126 = .ok (.iload 4, 2) := by decide +kernel
theorem dX11_send_128 : decode cX11_send 128 = .ok (.ifCond .eq 19, 3) := by decide +kernel
theorem dX11_send_131 : decode cX11_send 131 = .ok (.aload_n 0, 1) := by decide +kernel
theorem dX11_send_132 : decode cX11_send 132 = .ok (.getfield 160, 3) := by decide +kernel
theorem dX11_send_135 : decode cX11_send 135 = .ok (.bipush 16, 2) := by decide +kernel
theorem dX11_send_137 : decode cX11_send 137 = .ok (.if_icmp .ne 10, 3) := by decide +kernel
theorem dX11_send_140 : decode cX11_send 140 = .ok (.aload_n 0, 1) := by decide +kernel
theorem dX11_send_141 : decode cX11_send 141 = .ok (.bipush (-6), 2) := by decide +kernel
theorem dX11_send_143 : decode cX11_send 143 = .ok (.invokevirtual 170, 3) := by decide +kernel
theorem dX11_send_146 : decode cX11_send 146 = .ok (.ireturn, 1) := by decide +kernel
theorem dX11_send_147 : decode cX11_send 147 = .ok (.aload_n 0, 1) := by decide +kernel
theorem dX11_send_148 : decode cX11_send 148 = .ok (.getfield 91, 3) := by decide +kernel
theorem dX11_send_151 : decode cX11_send 151 = .ok (.aload_n 0, 1) := by decide +kernel
theorem dX11_send_152 : decode cX11_send 152 = .ok (.getfield 13, 3) := by decide +kernel
theorem dX11_send_155 : decode cX11_send 155 = .ok (.iload_n 1, 1) := by decide +kernel
theorem dX11_send_156 : decode cX11_send 156 = .ok (.iaload, 1) := by decide +kernel
theorem dX11_send_157 : decode cX11_send 157 = .ok (.dup2, 1) := by decide +kernel
theorem dX11_send_158 : decode cX11_send 158 = .ok (.iaload, 1) := by decide +kernel
theorem dX11_send_159 : decode cX11_send 159 = .ok (.iconst 1, 1) := by decide +kernel
theorem dX11_send_160 : decode cX11_send 160 = .ok (.iadd, 1) := by decide +kernel
theorem dX11_send_161 : decode cX11_send 161 = .ok (.iastore, 1) := by decide +kernel
theorem dX11_send_162 : decode cX11_send 162 = .ok (.aload_n 0, 1) := by decide +kernel
theorem dX11_send_163 : decode cX11_send 163 = .ok (.getfield 9, 3) := by decide +kernel
theorem dX11_send_166 : decode cX11_send 166 = .ok (.iload_n 1, 1) := by decide +kernel
theorem dX11_send_167 : decode cX11_send 167 = .ok (.iaload, 1) := by decide +kernel
theorem dX11_send_168 : decode cX11_send 168 = .ok (.iconst 3, 1) := by decide +kernel
theorem dX11_send_169 : decode cX11_send 169 = .ok (.if_icmp .eq 30, 3) := by decide +kernel
theorem dX11_send_172 : decode cX11_send 172 = .ok (.aload_n 0, 1) := by decide +kernel
theorem dX11_send_173 : decode cX11_send 173 = .ok (.getfield 22, 3) := by decide +kernel
theorem dX11_send_176 : decode cX11_send 176 = .ok (.iload_n 1, 1) := by decide +kernel
theorem dX11_send_177 : decode cX11_send 177 = .ok (.dup2, 1) := by decide +kernel
theorem dX11_send_178 : decode cX11_send 178 = .ok (.iaload, 1) := by decide +kernel
theorem dX11_send_179 : decode cX11_send 179 = .ok (.bipush 64, 2) := by decide +kernel
theorem dX11_send_181 : decode cX11_send 181 = .ok (.iadd, 1) := by decide +kernel
theorem dX11_send_182 : decode cX11_send 182 = .ok (.iastore, 1) := by decide +kernel
theorem dX11_send_183 : decode cX11_send 183 = .ok (.aload_n 0, 1) := by decide +kernel
theorem dX11_send_184 : decode cX11_send 184 = .ok (.iload_n 1, 1) := by decide +kernel
theorem dX11_send_185 : decode cX11_send 185 = .ok (.bipush 64, 2) := by decide +kernel
theorem dX11_send_187 : decode cX11_send 187 = .ok (.aload_n 0, 1) := by decide +kernel
theorem dX11_send_188 : decode cX11_send 188 = .ok (.getfield 13, 3) := by decide +kernel
theorem dX11_send_191 : decode cX11_send 191 = .ok (.iload_n 1, 1) := by decide +kernel
theorem dX11_send_192 : decode cX11_send 192 = .ok (.iaload, 1) := by decide +kernel
theorem dX11_send_193 : decode cX11_send 193 = .ok (.iload_n 2, 1) := by decide +kernel
theorem dX11_send_194 : decode cX11_send 194 = .ok (.iload_n 3, 1) := by decide +kernel
theorem dX11_send_195 : decode cX11_send 195 = .ok (.invokevirtual 206, 3) := by decide +kernel
theorem dX11_send_198 : decode cX11_send 198 = .ok (.ireturn, 1) := by decide +kernel
theorem dX11_send_199 : decode cX11_send 199 = .ok (.iload 4, 2) := by decide +kernel
theorem dX11_send_201 : decode cX11_send 201 = .ok (.ifCond .ne 11, 3) := by decide +kernel
theorem dX11_send_204 : decode cX11_send 204 = .ok (.aload_n 0, 1) := by decide +kernel
theorem dX11_send_205 : decode cX11_send 205 = .ok (.iload_n 1, 1) := by decide +kernel
theorem dX11_send_206 : decode cX11_send 206 = .ok (.iload_n 2, 1) := by decide +kernel
theorem dX11_send_207 : decode cX11_send 207 = .ok (.iload_n 3, 1) := by decide +kernel
theorem dX11_send_208 : decode cX11_send 208 = .ok (.invokevirtual 209, 3) := by decide +kernel
theorem dX11_send_211 : decode cX11_send 211 = .ok (.ireturn, 1) := by decide +kernel
theorem dX11_send_212 : decode cX11_send 212 = .ok (.aload_n 0, 1) := by decide +kernel
theorem dX11_send_213 : decode cX11_send 213 = .ok (.getfield 82, 3) := by decide +kernel
theorem dX11_send_216 : decode cX11_send 216 = .ok (.aload_n 0, 1) := by decide +kernel
theorem dX11_send_217 : decode cX11_send 217 = .ok (.getfield 160, 3) := by decide +kernel
theorem dX11_send_220 : decode cX11_send 220 = .ok (.iload_n 1, 1) := by decide +kernel
theorem dX11_send_221 : decode cX11_send 221 = .ok (.iastore, 1) := by decide +kernel
theorem dX11_send_222 : decode cX11_send 222 = .ok (.aload_n 0, 1) := by decide +kernel
theorem dX11_send_223 : decode cX11_send 223 = .ok (.getfield 85, 3) := by decide +kernel
theorem dX11_send_226 : decode cX11_send 226 = .ok (.aload_n 0, 1) := by decide +kernel
theorem dX11_send_227 : decode cX11_send 227 = .ok (.getfield 160, 3) := by decide +kernel
theorem dX11_send_230 : decode cX11_send 230 = .ok (.iload_n 2, 1) := by decide +kernel
theorem dX11_send_231 : decode cX11_send 231 = .ok (.iastore, 1) := by decide +kernel
theorem dX11_send_232 : decode cX11_send 232 = .ok (.aload_n 0, 1) := by decide +kernel
theorem dX11_send_233 : decode cX11_send 233 = .ok (.getfield 88, 3) := by decide +kernel
theorem dX11_send_236 : decode cX11_send 236 = .ok (.aload_n 0, 1) := by decide +kernel
theorem dX11_send_237 : decode cX11_send 237 = .ok (.getfield 160, 3) := by decide +kernel
theorem dX11_send_240 : decode cX11_send 240 = .ok (.iload_n 3, 1) := by decide +kernel
theorem dX11_send_241 : decode cX11_send 241 = .ok (.iastore, 1) := by decide +kernel
theorem dX11_send_242 : decode cX11_send 242 = .ok (.aload_n 0, 1) := by decide +kernel
theorem dX11_send_243 : decode cX11_send 243 = .ok (.dup, 1) := by decide +kernel
theorem dX11_send_244 : decode cX11_send 244 = .ok (.getfield 160, 3) := by decide +kernel
theorem dX11_send_247 : decode cX11_send 247 = .ok (.iconst 1, 1) := by decide +kernel
theorem dX11_send_248 : decode cX11_send 248 = .ok (.iadd, 1) := by decide +kernel
theorem dX11_send_249 : decode cX11_send 249 = .ok (.putfield 160, 3) := by decide +kernel
theorem dX11_send_252 : decode cX11_send 252 = .ok (.aload_n 0, 1) := by decide +kernel
theorem dX11_send_253 : decode cX11_send 253 = .ok (.iconst 1, 1) := by decide +kernel
theorem dX11_send_254 : decode cX11_send 254 = .ok (.aload_n 0, 1) := by decide +kernel
theorem dX11_send_255 : decode cX11_send 255 = .ok (.getfield 13, 3) := by decide +kernel
theorem dX11_send_258 : decode cX11_send 258 = .ok (.aload_n 0, 1) := by decide +kernel
theorem dX11_send_259 : decode cX11_send 259 = .ok (.getfield 25, 3) := by decide +kernel
theorem dX11_send_262 : decode cX11_send 262 = .ok (.iload_n 1, 1) := by decide +kernel
theorem dX11_send_263 : decode cX11_send 263 = .ok (.iaload, 1) := by decide +kernel
theorem dX11_send_264 : decode cX11_send 264 = .ok (.iaload, 1) := by decide +kernel
theorem dX11_send_265 : decode cX11_send 265 = .ok (.aload_n 0, 1) := by decide +kernel
theorem dX11_send_266 : decode cX11_send 266 = .ok (.getfield 13, 3) := by decide +kernel
theorem dX11_send_269 : decode cX11_send 269 = .ok (.iload_n 1, 1) := by decide +kernel
theorem dX11_send_270 : decode cX11_send 270 = .ok (.iaload, 1) := by decide +kernel
theorem dX11_send_271 : decode cX11_send 271 = .ok (.aload_n 0, 1) := by decide +kernel
theorem dX11_send_272 : decode cX11_send 272 = .ok (.getfield 25, 3) := by decide +kernel
theorem dX11_send_275 : decode cX11_send 275 = .ok (.iload_n 1, 1) := by decide +kernel
theorem dX11_send_276 : decode cX11_send 276 = .ok (.iaload, 1) := by decide +kernel
theorem dX11_send_277 : decode cX11_send 277 = .ok (.iconst 0, 1) := by decide +kernel
theorem dX11_send_278 : decode cX11_send 278 = .ok (.invokevirtual 202, 3) := by decide +kernel
theorem dX11_send_281 : decode cX11_send 281 = .ok (.ireturn, 1) := by decide +kernel
def fX11_send_16 (o : Nat) (h : Hz) : Option (Int32 × Hz) := (b1 (tg 11 o h) fun _ => (b2 (fX11_refuse o (-1) h) fun x2 s3 => some (x2, s3)))
set_option maxHeartbeats 4000000 in
set_option maxRecDepth 100000 in
theorem wX11_send_16 {r0 : Int32} {h0 : Hz} (X : zX A D cy p s m args c cX11_send RX11 5) (hlk : meth.locks = false) (hr : meth.sig.returnType = (some .int)) (o : Nat) (h : Hz) (H : Heap) (locs : List Loc) (ls : Array Slot) (hl : lv_has ls 5 [(0, .ref o)]) (hW : zW A cy D h H) (hS : va_S A s.heap H locs) (h : fX11_send_16 o h = some (r0, h0)) : W p l e ({ frames := 3, cells := 0, slots := 0, locals := 76 } : Room) s m args below meth c H locs 0 0 (MQ below (va_Qi (fun r1 u => r1 = r0 ∧ u = h0) (zB A D cy) A) args s 0 0 A) (F0 m 16 ls []) := by
  obtain ⟨hx, hb, hts, hown, hK9, hml, hN9, hA9⟩ := id X
  unfold fX11_send_16 at h
  refine lv_aload_n hx hb dX11_send_16 rfl (lv_at hl 0 rfl) ?_
  refine lv_iconst (v := (-1)) hx hb dX11_send_17 (by decide) ?_
  replace h := b1_some h
  obtain ⟨q1, gq1, h⟩ := h
  replace h := b2_some h
  obtain ⟨x2, s3, gs3, h⟩ := h
  refine z_callVi (rest := []) X hW hS (cX11_refuse_met gs3) kb_X11_refuse kv_X11_refuse kl_X11_170 (it_v gq1).1 kX11 rfl rfl ⟨Nat.le_of_ble_eq_true rfl, Nat.le_of_ble_eq_true rfl⟩ rfl rfl (by decide) hl.1 dX11_send_18 ⟨(by decide), (by decide)⟩ (fun H locs hW hS => ?_)
  exact z_eti X hlk hr hW hS h (by decide) (by decide) dX11_send_21

def fX11_send_82 (o : Nat) (h : Hz) : Option (Int32 × Hz) := (b1 (tg 11 o h) fun _ => (b2 (fX11_refuse o (-5) h) fun x2 s3 => some (x2, s3)))
set_option maxHeartbeats 4000000 in
set_option maxRecDepth 100000 in
theorem wX11_send_82 {r0 : Int32} {h0 : Hz} (X : zX A D cy p s m args c cX11_send RX11 5) (hlk : meth.locks = false) (hr : meth.sig.returnType = (some .int)) (o : Nat) (h : Hz) (H : Heap) (locs : List Loc) (ls : Array Slot) (hl : lv_has ls 5 [(0, .ref o)]) (hW : zW A cy D h H) (hS : va_S A s.heap H locs) (h : fX11_send_82 o h = some (r0, h0)) : W p l e ({ frames := 3, cells := 0, slots := 0, locals := 76 } : Room) s m args below meth c H locs 0 0 (MQ below (va_Qi (fun r1 u => r1 = r0 ∧ u = h0) (zB A D cy) A) args s 0 0 A) (F0 m 82 ls []) := by
  obtain ⟨hx, hb, hts, hown, hK9, hml, hN9, hA9⟩ := id X
  unfold fX11_send_82 at h
  refine lv_aload_n hx hb dX11_send_82 rfl (lv_at hl 0 rfl) ?_
  refine lv_bipush (v := (-5)) hx hb dX11_send_83 (by decide) ?_
  replace h := b1_some h
  obtain ⟨q1, gq1, h⟩ := h
  replace h := b2_some h
  obtain ⟨x2, s3, gs3, h⟩ := h
  refine z_callVi (rest := []) X hW hS (cX11_refuse_met gs3) kb_X11_refuse kv_X11_refuse kl_X11_170 (it_v gq1).1 kX11 rfl rfl ⟨Nat.le_of_ble_eq_true rfl, Nat.le_of_ble_eq_true rfl⟩ rfl rfl (by decide) hl.1 dX11_send_85 ⟨(by decide), (by decide)⟩ (fun H locs hW hS => ?_)
  exact z_eti X hlk hr hW hS h (by decide) (by decide) dX11_send_88

def fX11_send_140 (o : Nat) (h : Hz) : Option (Int32 × Hz) := (b1 (tg 11 o h) fun _ => (b2 (fX11_refuse o (-6) h) fun x2 s3 => some (x2, s3)))
set_option maxHeartbeats 4000000 in
set_option maxRecDepth 100000 in
theorem wX11_send_140 {r0 : Int32} {h0 : Hz} (X : zX A D cy p s m args c cX11_send RX11 5) (hlk : meth.locks = false) (hr : meth.sig.returnType = (some .int)) (o : Nat) (h : Hz) (H : Heap) (locs : List Loc) (ls : Array Slot) (hl : lv_has ls 5 [(0, .ref o)]) (hW : zW A cy D h H) (hS : va_S A s.heap H locs) (h : fX11_send_140 o h = some (r0, h0)) : W p l e ({ frames := 3, cells := 0, slots := 0, locals := 76 } : Room) s m args below meth c H locs 0 0 (MQ below (va_Qi (fun r1 u => r1 = r0 ∧ u = h0) (zB A D cy) A) args s 0 0 A) (F0 m 140 ls []) := by
  obtain ⟨hx, hb, hts, hown, hK9, hml, hN9, hA9⟩ := id X
  unfold fX11_send_140 at h
  refine lv_aload_n hx hb dX11_send_140 rfl (lv_at hl 0 rfl) ?_
  refine lv_bipush (v := (-6)) hx hb dX11_send_141 (by decide) ?_
  replace h := b1_some h
  obtain ⟨q1, gq1, h⟩ := h
  replace h := b2_some h
  obtain ⟨x2, s3, gs3, h⟩ := h
  refine z_callVi (rest := []) X hW hS (cX11_refuse_met gs3) kb_X11_refuse kv_X11_refuse kl_X11_170 (it_v gq1).1 kX11 rfl rfl ⟨Nat.le_of_ble_eq_true rfl, Nat.le_of_ble_eq_true rfl⟩ rfl rfl (by decide) hl.1 dX11_send_143 ⟨(by decide), (by decide)⟩ (fun H locs hW hS => ?_)
  exact z_eti X hlk hr hW hS h (by decide) (by decide) dX11_send_146

def fX11_send_147 (o : Nat) (v1 : Int32) (v2 : Int32) (v3 : Int32) (v4 : Int32) (h : Hz) : Option (Int32 × Hz) := (b1 (gA 11 30 o h) fun a1 => (b1 (gA 11 1 o h) fun a2 => (b1 (xI 12 a2 v1 h) fun x3 => (b1 (xI 12 a1 x3 h) fun x4 => (b1 (yI a1 x3 (x4 + 1) h) fun s5 => (b1 (gA 11 0 o s5) fun a6 => (b1 (xI 12 a6 v1 s5) fun x7 => (if x7 = 3 then (if v4 = 0 then (b1 (tg 11 o s5) fun _ => (b2 (fX11_half o v1 v2 v3 s5) fun x33 s34 => some (x33, s34))) else (b1 (gA 11 26 o s5) fun a10 => (b1 (gI 11 29 o s5) fun x11 => (b1 (yI a10 x11 v1 s5) fun s12 => (b1 (gA 11 27 o s12) fun a13 => (b1 (gI 11 29 o s12) fun x14 => (b1 (yI a13 x14 v2 s12) fun s15 => (b1 (gA 11 28 o s15) fun a16 => (b1 (gI 11 29 o s15) fun x17 => (b1 (yI a16 x17 v3 s15) fun s18 => (b1 (gI 11 29 o s18) fun x19 => (b1 (pI 11 29 o (x19 + 1) s18) fun s20 => (b1 (gA 11 1 o s20) fun a21 => (b1 (gA 11 5 o s20) fun a22 => (b1 (xI 12 a22 v1 s20) fun x23 => (b1 (xI 12 a21 x23 s20) fun x24 => (b1 (gA 11 1 o s20) fun a25 => (b1 (xI 12 a25 v1 s20) fun x26 => (b1 (gA 11 5 o s20) fun a27 => (b1 (xI 12 a27 v1 s20) fun x28 => (b1 (tg 11 o s20) fun _ => (b2 (fX11_letter o 1 x24 x26 x28 0 s20) fun x30 s31 => some (x30, s31))))))))))))))))))))))) else (b1 (gA 11 4 o s5) fun a35 => (b1 (xI 12 a35 v1 s5) fun x36 => (b1 (yI a35 v1 (x36 + 64) s5) fun s37 => (b1 (gA 11 1 o s37) fun a38 => (b1 (xI 12 a38 v1 s37) fun x39 => (b1 (tg 11 o s37) fun _ => (b2 (fX11_name o v1 64 x39 v2 v3 s37) fun x41 s42 => some (x41, s42))))))))))))))))
set_option maxHeartbeats 4000000 in
set_option maxRecDepth 100000 in
theorem wX11_send_147 {r0 : Int32} {h0 : Hz} (X : zX A D cy p s m args c cX11_send RX11 5) (hlk : meth.locks = false) (hr : meth.sig.returnType = (some .int)) (o : Nat) (v1 : Int32) (v2 : Int32) (v3 : Int32) (v4 : Int32) (h : Hz) (H : Heap) (locs : List Loc) (ls : Array Slot) (hl : lv_has ls 5 [(0, .ref o), (1, .int v1), (2, .int v2), (3, .int v3), (4, .int v4)]) (hW : zW A cy D h H) (hS : va_S A s.heap H locs) (h : fX11_send_147 o v1 v2 v3 v4 h = some (r0, h0)) : W p l e ({ frames := 3, cells := 0, slots := 0, locals := 76 } : Room) s m args below meth c H locs 0 0 (MQ below (va_Qi (fun r1 u => r1 = r0 ∧ u = h0) (zB A D cy) A) args s 0 0 A) (F0 m 147 ls []) := by
  obtain ⟨hx, hb, hts, hown, hK9, hml, hN9, hA9⟩ := id X
  unfold fX11_send_147 at h
  refine lv_aload_n hx hb dX11_send_147 rfl (lv_at hl 0 rfl) ?_
  replace h := b1_some h
  obtain ⟨a1, ga1, h⟩ := h
  refine z_getA X hW ga1 kX11 (by decide) (by decide) kf_X11_91 dX11_send_148 ?_
  refine lv_aload_n hx hb dX11_send_151 rfl (lv_at hl 0 rfl) ?_
  replace h := b1_some h
  obtain ⟨a2, ga2, h⟩ := h
  refine z_getA X hW ga2 kX11 (by decide) (by decide) kf_X11_13 dX11_send_152 ?_
  refine lv_iload_n hx hb dX11_send_155 rfl (lv_at hl 1 rfl) ?_
  replace h := b1_some h
  obtain ⟨x3, gx3, h⟩ := h
  refine z_aldI X hW gx3 dX11_send_156 ?_
  refine lv_dup2_11 hx hb dX11_send_157 rfl rfl ?_
  replace h := b1_some h
  obtain ⟨x4, gx4, h⟩ := h
  refine z_aldI X hW gx4 dX11_send_158 ?_
  refine lv_iconst (v := 1) hx hb dX11_send_159 (by decide) ?_
  refine lv_iadd hx hb dX11_send_160 ?_
  replace h := b1_some h
  obtain ⟨s5, gs5, h⟩ := h
  refine z_astI X hW hS gs5 dX11_send_161 (fun H locs hW hS => ?_)
  refine lv_aload_n hx hb dX11_send_162 rfl (lv_at hl 0 rfl) ?_
  replace h := b1_some h
  obtain ⟨a6, ga6, h⟩ := h
  refine z_getA X hW ga6 kX11 (by decide) (by decide) kf_X11_9 dX11_send_163 ?_
  refine lv_iload_n hx hb dX11_send_166 rfl (lv_at hl 1 rfl) ?_
  replace h := b1_some h
  obtain ⟨x7, gx7, h⟩ := h
  refine z_aldI X hW gx7 dX11_send_167 ?_
  refine lv_iconst (v := 3) hx hb dX11_send_168 (by decide) ?_
  refine lv_icmp_eq (tgt := 199) hx hb dX11_send_169 (by decide) (fun c8 => ?_) (fun c8 => ?_)
  · replace h := it_t h c8
    refine lv_iload hx hb dX11_send_199 (lv_at hl 4 rfl) ?_
    refine lv_if_ne (tgt := 212) hx hb dX11_send_201 (by decide) (fun c9 => ?_) (fun c9 => ?_)
    · replace h := it_f h c9
      refine lv_aload_n hx hb dX11_send_212 rfl (lv_at hl 0 rfl) ?_
      replace h := b1_some h
      obtain ⟨a10, ga10, h⟩ := h
      refine z_getA X hW ga10 kX11 (by decide) (by decide) kf_X11_82 dX11_send_213 ?_
      refine lv_aload_n hx hb dX11_send_216 rfl (lv_at hl 0 rfl) ?_
      replace h := b1_some h
      obtain ⟨x11, gx11, h⟩ := h
      refine z_getI X hW gx11 kX11 (by decide) (by decide) kf_X11_160 dX11_send_217 ?_
      refine lv_iload_n hx hb dX11_send_220 rfl (lv_at hl 1 rfl) ?_
      replace h := b1_some h
      obtain ⟨s12, gs12, h⟩ := h
      refine z_astI X hW hS gs12 dX11_send_221 (fun H locs hW hS => ?_)
      refine lv_aload_n hx hb dX11_send_222 rfl (lv_at hl 0 rfl) ?_
      replace h := b1_some h
      obtain ⟨a13, ga13, h⟩ := h
      refine z_getA X hW ga13 kX11 (by decide) (by decide) kf_X11_85 dX11_send_223 ?_
      refine lv_aload_n hx hb dX11_send_226 rfl (lv_at hl 0 rfl) ?_
      replace h := b1_some h
      obtain ⟨x14, gx14, h⟩ := h
      refine z_getI X hW gx14 kX11 (by decide) (by decide) kf_X11_160 dX11_send_227 ?_
      refine lv_iload_n hx hb dX11_send_230 rfl (lv_at hl 2 rfl) ?_
      replace h := b1_some h
      obtain ⟨s15, gs15, h⟩ := h
      refine z_astI X hW hS gs15 dX11_send_231 (fun H locs hW hS => ?_)
      refine lv_aload_n hx hb dX11_send_232 rfl (lv_at hl 0 rfl) ?_
      replace h := b1_some h
      obtain ⟨a16, ga16, h⟩ := h
      refine z_getA X hW ga16 kX11 (by decide) (by decide) kf_X11_88 dX11_send_233 ?_
      refine lv_aload_n hx hb dX11_send_236 rfl (lv_at hl 0 rfl) ?_
      replace h := b1_some h
      obtain ⟨x17, gx17, h⟩ := h
      refine z_getI X hW gx17 kX11 (by decide) (by decide) kf_X11_160 dX11_send_237 ?_
      refine lv_iload_n hx hb dX11_send_240 rfl (lv_at hl 3 rfl) ?_
      replace h := b1_some h
      obtain ⟨s18, gs18, h⟩ := h
      refine z_astI X hW hS gs18 dX11_send_241 (fun H locs hW hS => ?_)
      refine lv_aload_n hx hb dX11_send_242 rfl (lv_at hl 0 rfl) ?_
      refine lv_dup hx hb dX11_send_243 rfl ?_
      replace h := b1_some h
      obtain ⟨x19, gx19, h⟩ := h
      refine z_getI X hW gx19 kX11 (by decide) (by decide) kf_X11_160 dX11_send_244 ?_
      refine lv_iconst (v := 1) hx hb dX11_send_247 (by decide) ?_
      refine lv_iadd hx hb dX11_send_248 ?_
      replace h := b1_some h
      obtain ⟨s20, gs20, h⟩ := h
      refine z_putI X hW hS gs20 kX11 (by decide) (by decide) rfl (Or.inl rfl) kf_X11_160 dX11_send_249 (fun H locs hW hS => ?_)
      refine lv_aload_n hx hb dX11_send_252 rfl (lv_at hl 0 rfl) ?_
      refine lv_iconst (v := 1) hx hb dX11_send_253 (by decide) ?_
      refine lv_aload_n hx hb dX11_send_254 rfl (lv_at hl 0 rfl) ?_
      replace h := b1_some h
      obtain ⟨a21, ga21, h⟩ := h
      refine z_getA X hW ga21 kX11 (by decide) (by decide) kf_X11_13 dX11_send_255 ?_
      refine lv_aload_n hx hb dX11_send_258 rfl (lv_at hl 0 rfl) ?_
      replace h := b1_some h
      obtain ⟨a22, ga22, h⟩ := h
      refine z_getA X hW ga22 kX11 (by decide) (by decide) kf_X11_25 dX11_send_259 ?_
      refine lv_iload_n hx hb dX11_send_262 rfl (lv_at hl 1 rfl) ?_
      replace h := b1_some h
      obtain ⟨x23, gx23, h⟩ := h
      refine z_aldI X hW gx23 dX11_send_263 ?_
      replace h := b1_some h
      obtain ⟨x24, gx24, h⟩ := h
      refine z_aldI X hW gx24 dX11_send_264 ?_
      refine lv_aload_n hx hb dX11_send_265 rfl (lv_at hl 0 rfl) ?_
      replace h := b1_some h
      obtain ⟨a25, ga25, h⟩ := h
      refine z_getA X hW ga25 kX11 (by decide) (by decide) kf_X11_13 dX11_send_266 ?_
      refine lv_iload_n hx hb dX11_send_269 rfl (lv_at hl 1 rfl) ?_
      replace h := b1_some h
      obtain ⟨x26, gx26, h⟩ := h
      refine z_aldI X hW gx26 dX11_send_270 ?_
      refine lv_aload_n hx hb dX11_send_271 rfl (lv_at hl 0 rfl) ?_
      replace h := b1_some h
      obtain ⟨a27, ga27, h⟩ := h
      refine z_getA X hW ga27 kX11 (by decide) (by decide) kf_X11_25 dX11_send_272 ?_
      refine lv_iload_n hx hb dX11_send_275 rfl (lv_at hl 1 rfl) ?_
      replace h := b1_some h
      obtain ⟨x28, gx28, h⟩ := h
      refine z_aldI X hW gx28 dX11_send_276 ?_
      refine lv_iconst (v := 0) hx hb dX11_send_277 (by decide) ?_
      replace h := b1_some h
      obtain ⟨q29, gq29, h⟩ := h
      replace h := b2_some h
      obtain ⟨x30, s31, gs31, h⟩ := h
      refine z_callVi (rest := []) X hW hS (cX11_letter_met gs31) kb_X11_letter kv_X11_letter kl_X11_202 (it_v gq29).1 kX11 rfl rfl ⟨Nat.le_of_ble_eq_true rfl, Nat.le_of_ble_eq_true rfl⟩ rfl rfl (by decide) hl.1 dX11_send_278 ⟨(by decide), (by decide)⟩ (fun H locs hW hS => ?_)
      exact z_eti X hlk hr hW hS h (by decide) (by decide) dX11_send_281
    · replace h := it_t h c9
      refine lv_aload_n hx hb dX11_send_204 rfl (lv_at hl 0 rfl) ?_
      refine lv_iload_n hx hb dX11_send_205 rfl (lv_at hl 1 rfl) ?_
      refine lv_iload_n hx hb dX11_send_206 rfl (lv_at hl 2 rfl) ?_
      refine lv_iload_n hx hb dX11_send_207 rfl (lv_at hl 3 rfl) ?_
      replace h := b1_some h
      obtain ⟨q32, gq32, h⟩ := h
      replace h := b2_some h
      obtain ⟨x33, s34, gs34, h⟩ := h
      refine z_callVi (rest := []) X hW hS (cX11_half_met gs34) kb_X11_half kv_X11_half kl_X11_209 (it_v gq32).1 kX11 rfl rfl ⟨Nat.le_of_ble_eq_true rfl, Nat.le_of_ble_eq_true rfl⟩ rfl rfl (by decide) hl.1 dX11_send_208 ⟨(by decide), (by decide)⟩ (fun H locs hW hS => ?_)
      exact z_eti X hlk hr hW hS h (by decide) (by decide) dX11_send_211
  · replace h := it_f h c8
    refine lv_aload_n hx hb dX11_send_172 rfl (lv_at hl 0 rfl) ?_
    replace h := b1_some h
    obtain ⟨a35, ga35, h⟩ := h
    refine z_getA X hW ga35 kX11 (by decide) (by decide) kf_X11_22 dX11_send_173 ?_
    refine lv_iload_n hx hb dX11_send_176 rfl (lv_at hl 1 rfl) ?_
    refine lv_dup2_11 hx hb dX11_send_177 rfl rfl ?_
    replace h := b1_some h
    obtain ⟨x36, gx36, h⟩ := h
    refine z_aldI X hW gx36 dX11_send_178 ?_
    refine lv_bipush (v := 64) hx hb dX11_send_179 (by decide) ?_
    refine lv_iadd hx hb dX11_send_181 ?_
    replace h := b1_some h
    obtain ⟨s37, gs37, h⟩ := h
    refine z_astI X hW hS gs37 dX11_send_182 (fun H locs hW hS => ?_)
    refine lv_aload_n hx hb dX11_send_183 rfl (lv_at hl 0 rfl) ?_
    refine lv_iload_n hx hb dX11_send_184 rfl (lv_at hl 1 rfl) ?_
    refine lv_bipush (v := 64) hx hb dX11_send_185 (by decide) ?_
    refine lv_aload_n hx hb dX11_send_187 rfl (lv_at hl 0 rfl) ?_
    replace h := b1_some h
    obtain ⟨a38, ga38, h⟩ := h
    refine z_getA X hW ga38 kX11 (by decide) (by decide) kf_X11_13 dX11_send_188 ?_
    refine lv_iload_n hx hb dX11_send_191 rfl (lv_at hl 1 rfl) ?_
    replace h := b1_some h
    obtain ⟨x39, gx39, h⟩ := h
    refine z_aldI X hW gx39 dX11_send_192 ?_
    refine lv_iload_n hx hb dX11_send_193 rfl (lv_at hl 2 rfl) ?_
    refine lv_iload_n hx hb dX11_send_194 rfl (lv_at hl 3 rfl) ?_
    replace h := b1_some h
    obtain ⟨q40, gq40, h⟩ := h
    replace h := b2_some h
    obtain ⟨x41, s42, gs42, h⟩ := h
    refine z_callVi (rest := []) X hW hS (cX11_name_met gs42) kb_X11_name kv_X11_name kl_X11_206 (it_v gq40).1 kX11 rfl rfl ⟨Nat.le_of_ble_eq_true rfl, Nat.le_of_ble_eq_true rfl⟩ rfl rfl (by decide) hl.1 dX11_send_195 ⟨(by decide), (by decide)⟩ (fun H locs hW hS => ?_)
    exact z_eti X hlk hr hW hS h (by decide) (by decide) dX11_send_198

def fX11_send_114 (o : Nat) (v1 : Int32) (v2 : Int32) (v3 : Int32) (w0 : Int32) (h : Hz) : Option (Int32 × Hz) := (b1 (gI 11 24 o h) fun x1 => (if x1 = 600 then fX11_send_140 o h else (if w0 = 0 then fX11_send_147 o v1 v2 v3 w0 h else (b1 (gI 11 29 o h) fun x4 => (if x4 = 16 then fX11_send_140 o h else fX11_send_147 o v1 v2 v3 w0 h)))))
set_option maxHeartbeats 4000000 in
set_option maxRecDepth 100000 in
theorem wX11_send_114 {r0 : Int32} {h0 : Hz} (X : zX A D cy p s m args c cX11_send RX11 5) (hlk : meth.locks = false) (hr : meth.sig.returnType = (some .int)) (o : Nat) (v1 : Int32) (v2 : Int32) (v3 : Int32) (w0 : Int32) (h : Hz) (H : Heap) (locs : List Loc) (ls : Array Slot) (hl : lv_has ls 5 [(0, .ref o), (1, .int v1), (2, .int v2), (3, .int v3)]) (hW : zW A cy D h H) (hS : va_S A s.heap H locs) (h : fX11_send_114 o v1 v2 v3 w0 h = some (r0, h0)) : W p l e ({ frames := 3, cells := 0, slots := 0, locals := 76 } : Room) s m args below meth c H locs 0 0 (MQ below (va_Qi (fun r1 u => r1 = r0 ∧ u = h0) (zB A D cy) A) args s 0 0 A) (F0 m 114 ls [.int w0]) := by
  obtain ⟨hx, hb, hts, hown, hK9, hml, hN9, hA9⟩ := id X
  unfold fX11_send_114 at h
  refine lv_istore (lv' := [(4, .int w0), (0, .ref o), (1, .int v1), (2, .int v2), (3, .int v3)]) hx hb dX11_send_114 hl (by decide) rfl (fun ls hl => ?_)
  refine lv_aload_n hx hb dX11_send_116 rfl (lv_at hl 1 rfl) ?_
  replace h := b1_some h
  obtain ⟨x1, gx1, h⟩ := h
  refine z_getI X hW gx1 kX11 (by decide) (by decide) kf_X11_199 dX11_send_117 ?_
  refine lv_sipush (v := 600) hx hb dX11_send_120 (by decide) ?_
  refine lv_icmp_eq (tgt := 140) hx hb dX11_send_123 (by decide) (fun c2 => ?_) (fun c2 => ?_)
  · replace h := it_t h c2
    exact wX11_send_140 X hlk hr o _ _ _ _ (lv_sub hl [1] rfl) hW hS h
  · replace h := it_f h c2
    refine lv_iload hx hb dX11_send_126 (lv_at hl 0 rfl) ?_
    refine lv_if_eq (tgt := 147) hx hb dX11_send_128 (by decide) (fun c3 => ?_) (fun c3 => ?_)
    · replace h := it_t h c3
      exact wX11_send_147 X hlk hr o v1 v2 v3 w0 _ _ _ _ (lv_sub hl [1, 2, 3, 4, 0] rfl) hW hS h
    · replace h := it_f h c3
      refine lv_aload_n hx hb dX11_send_131 rfl (lv_at hl 1 rfl) ?_
      replace h := b1_some h
      obtain ⟨x4, gx4, h⟩ := h
      refine z_getI X hW gx4 kX11 (by decide) (by decide) kf_X11_160 dX11_send_132 ?_
      refine lv_bipush (v := 16) hx hb dX11_send_135 (by decide) ?_
      refine lv_icmp_ne (tgt := 147) hx hb dX11_send_137 (by decide) (fun c5 => ?_) (fun c5 => ?_)
      · replace h := it_f h c5
        exact wX11_send_147 X hlk hr o v1 v2 v3 w0 _ _ _ _ (lv_sub hl [1, 2, 3, 4, 0] rfl) hW hS h
      · replace h := it_t h c5
        exact wX11_send_140 X hlk hr o _ _ _ _ (lv_sub hl [1] rfl) hW hS h

def fX11_send_113 (o : Nat) (v1 : Int32) (v2 : Int32) (v3 : Int32) (h : Hz) : Option (Int32 × Hz) := fX11_send_114 o v1 v2 v3 0 h
set_option maxHeartbeats 4000000 in
set_option maxRecDepth 100000 in
theorem wX11_send_113 {r0 : Int32} {h0 : Hz} (X : zX A D cy p s m args c cX11_send RX11 5) (hlk : meth.locks = false) (hr : meth.sig.returnType = (some .int)) (o : Nat) (v1 : Int32) (v2 : Int32) (v3 : Int32) (h : Hz) (H : Heap) (locs : List Loc) (ls : Array Slot) (hl : lv_has ls 5 [(0, .ref o), (1, .int v1), (2, .int v2), (3, .int v3)]) (hW : zW A cy D h H) (hS : va_S A s.heap H locs) (h : fX11_send_113 o v1 v2 v3 h = some (r0, h0)) : W p l e ({ frames := 3, cells := 0, slots := 0, locals := 76 } : Room) s m args below meth c H locs 0 0 (MQ below (va_Qi (fun r1 u => r1 = r0 ∧ u = h0) (zB A D cy) A) args s 0 0 A) (F0 m 113 ls []) := by
  obtain ⟨hx, hb, hts, hown, hK9, hml, hN9, hA9⟩ := id X
  unfold fX11_send_113 at h
  refine lv_iconst (v := 0) hx hb dX11_send_113 (by decide) ?_
  exact wX11_send_114 X hlk hr o v1 v2 v3 0 _ _ _ _ (lv_sub hl [0, 1, 2, 3] rfl) hW hS h

def fX11_send (o : Nat) (v1 : Int32) (v2 : Int32) (v3 : Int32) (h : Hz) : Option (Int32 × Hz) := (b1 (tg 11 o h) fun _ => (b2 (fX11_isThere o v1 h) fun x2 s3 => (if x2 = 0 then fX11_send_16 o s3 else (b1 (tg 11 o s3) fun _ => (b2 (fX11_isThere o v2 s3) fun x6 s7 => (if x6 = 0 then fX11_send_16 o s7 else (b1 (gA 11 0 o s7) fun a9 => (b1 (xI 12 a9 v2 s7) fun x10 => (if x10 = 2 then (b1 (gA 11 3 o s7) fun a12 => (b1 (xI 12 a12 v2 s7) fun x13 => (b2 (fX11_isIn v3 x13 s7) fun x14 s15 => (if x14 = 0 then (b1 (tg 11 o s15) fun _ => (b2 (fX11_refuse o (-3) s15) fun x33 s34 => some (x33, s34))) else (b1 (gA 11 1 o s15) fun a17 => (b1 (xI 12 a17 v1 s15) fun x18 => (b1 (gA 11 1 o s15) fun a19 => (b1 (xI 12 a19 v2 s15) fun x20 => (if x18 = x20 then fX11_send_82 o s15 else (b1 (tg 11 o s15) fun _ => (b2 (fX11_isNear o v1 s15) fun x23 s24 => (if x23 = 0 then fX11_send_82 o s24 else (b1 (gA 11 0 o s24) fun a26 => (b1 (xI 12 a26 v1 s24) fun x27 => (if x27 = 3 then (b1 (gA 11 6 o s24) fun a29 => (b1 (xI 12 a29 v1 s24) fun x30 => (if x30 = 1 then fX11_send_114 o v1 v2 v3 1 s24 else fX11_send_113 o v1 v2 v3 s24))) else fX11_send_113 o v1 v2 v3 s24))))))))))))))) else (b1 (tg 11 o s7) fun _ => (b2 (fX11_refuse o (-2) s7) fun x36 s37 => some (x36, s37))))))))))))
set_option maxHeartbeats 4000000 in
set_option maxRecDepth 100000 in
theorem wX11_send_0 {r0 : Int32} {h0 : Hz} (X : zX A D cy p s m args c cX11_send RX11 5) (hlk : meth.locks = false) (hr : meth.sig.returnType = (some .int)) (o : Nat) (v1 : Int32) (v2 : Int32) (v3 : Int32) (h : Hz) (H : Heap) (locs : List Loc) (ls : Array Slot) (hl : lv_has ls 5 [(0, .ref o), (1, .int v1), (2, .int v2), (3, .int v3)]) (hW : zW A cy D h H) (hS : va_S A s.heap H locs) (h : fX11_send o v1 v2 v3 h = some (r0, h0)) : W p l e ({ frames := 3, cells := 0, slots := 0, locals := 76 } : Room) s m args below meth c H locs 0 0 (MQ below (va_Qi (fun r1 u => r1 = r0 ∧ u = h0) (zB A D cy) A) args s 0 0 A) (F0 m 0 ls []) := by
  obtain ⟨hx, hb, hts, hown, hK9, hml, hN9, hA9⟩ := id X
  unfold fX11_send at h
  refine lv_aload_n hx hb dX11_send_0 rfl (lv_at hl 0 rfl) ?_
  refine lv_iload_n hx hb dX11_send_1 rfl (lv_at hl 1 rfl) ?_
  replace h := b1_some h
  obtain ⟨q1, gq1, h⟩ := h
  replace h := b2_some h
  obtain ⟨x2, s3, gs3, h⟩ := h
  refine z_callVi (rest := []) X hW hS (cX11_isThere_met gs3) kb_X11_isThere kv_X11_isThere kl_X11_178 (it_v gq1).1 kX11 rfl rfl ⟨Nat.le_of_ble_eq_true rfl, Nat.le_of_ble_eq_true rfl⟩ rfl rfl (by decide) hl.1 dX11_send_2 ⟨(by decide), (by decide)⟩ (fun H locs hW hS => ?_)
  refine lv_if_eq (tgt := 16) hx hb dX11_send_5 (by decide) (fun c4 => ?_) (fun c4 => ?_)
  · replace h := it_t h c4
    exact wX11_send_16 X hlk hr o _ _ _ _ (lv_sub hl [0] rfl) hW hS h
  · replace h := it_f h c4
    refine lv_aload_n hx hb dX11_send_8 rfl (lv_at hl 0 rfl) ?_
    refine lv_iload_n hx hb dX11_send_9 rfl (lv_at hl 2 rfl) ?_
    replace h := b1_some h
    obtain ⟨q5, gq5, h⟩ := h
    replace h := b2_some h
    obtain ⟨x6, s7, gs7, h⟩ := h
    refine z_callVi (rest := []) X hW hS (cX11_isThere_met gs7) kb_X11_isThere kv_X11_isThere kl_X11_178 (it_v gq5).1 kX11 rfl rfl ⟨Nat.le_of_ble_eq_true rfl, Nat.le_of_ble_eq_true rfl⟩ rfl rfl (by decide) hl.1 dX11_send_10 ⟨(by decide), (by decide)⟩ (fun H locs hW hS => ?_)
    refine lv_if_ne (tgt := 22) hx hb dX11_send_13 (by decide) (fun c8 => ?_) (fun c8 => ?_)
    · replace h := it_f h c8
      refine lv_aload_n hx hb dX11_send_22 rfl (lv_at hl 0 rfl) ?_
      replace h := b1_some h
      obtain ⟨a9, ga9, h⟩ := h
      refine z_getA X hW ga9 kX11 (by decide) (by decide) kf_X11_9 dX11_send_23 ?_
      refine lv_iload_n hx hb dX11_send_26 rfl (lv_at hl 2 rfl) ?_
      replace h := b1_some h
      obtain ⟨x10, gx10, h⟩ := h
      refine z_aldI X hW gx10 dX11_send_27 ?_
      refine lv_iconst (v := 2) hx hb dX11_send_28 (by decide) ?_
      refine lv_icmp_eq (tgt := 39) hx hb dX11_send_29 (by decide) (fun c11 => ?_) (fun c11 => ?_)
      · replace h := it_t h c11
        refine lv_iload_n hx hb dX11_send_39 rfl (lv_at hl 3 rfl) ?_
        refine lv_aload_n hx hb dX11_send_40 rfl (lv_at hl 0 rfl) ?_
        replace h := b1_some h
        obtain ⟨a12, ga12, h⟩ := h
        refine z_getA X hW ga12 kX11 (by decide) (by decide) kf_X11_19 dX11_send_41 ?_
        refine lv_iload_n hx hb dX11_send_44 rfl (lv_at hl 2 rfl) ?_
        replace h := b1_some h
        obtain ⟨x13, gx13, h⟩ := h
        refine z_aldI X hW gx13 dX11_send_45 ?_
        replace h := b2_some h
        obtain ⟨x14, s15, gs15, h⟩ := h
        refine z_callSi (rest := []) X hW hS (cX11_isIn_met gs15) kb_X11_isIn ks_X11_isIn kl_X11_149 rfl rfl ⟨Nat.le_of_ble_eq_true rfl, Nat.le_of_ble_eq_true rfl⟩ rfl rfl (by decide) hl.1 dX11_send_46 ⟨(by decide), (by decide)⟩ (fun H locs hW hS => ?_)
        refine lv_if_ne (tgt := 59) hx hb dX11_send_49 (by decide) (fun c16 => ?_) (fun c16 => ?_)
        · replace h := it_f h c16
          refine lv_aload_n hx hb dX11_send_59 rfl (lv_at hl 0 rfl) ?_
          replace h := b1_some h
          obtain ⟨a17, ga17, h⟩ := h
          refine z_getA X hW ga17 kX11 (by decide) (by decide) kf_X11_13 dX11_send_60 ?_
          refine lv_iload_n hx hb dX11_send_63 rfl (lv_at hl 1 rfl) ?_
          replace h := b1_some h
          obtain ⟨x18, gx18, h⟩ := h
          refine z_aldI X hW gx18 dX11_send_64 ?_
          refine lv_aload_n hx hb dX11_send_65 rfl (lv_at hl 0 rfl) ?_
          replace h := b1_some h
          obtain ⟨a19, ga19, h⟩ := h
          refine z_getA X hW ga19 kX11 (by decide) (by decide) kf_X11_13 dX11_send_66 ?_
          refine lv_iload_n hx hb dX11_send_69 rfl (lv_at hl 2 rfl) ?_
          replace h := b1_some h
          obtain ⟨x20, gx20, h⟩ := h
          refine z_aldI X hW gx20 dX11_send_70 ?_
          refine lv_icmp_eq (tgt := 82) hx hb dX11_send_71 (by decide) (fun c21 => ?_) (fun c21 => ?_)
          · replace h := it_t h c21
            exact wX11_send_82 X hlk hr o _ _ _ _ (lv_sub hl [0] rfl) hW hS h
          · replace h := it_f h c21
            refine lv_aload_n hx hb dX11_send_74 rfl (lv_at hl 0 rfl) ?_
            refine lv_iload_n hx hb dX11_send_75 rfl (lv_at hl 1 rfl) ?_
            replace h := b1_some h
            obtain ⟨q22, gq22, h⟩ := h
            replace h := b2_some h
            obtain ⟨x23, s24, gs24, h⟩ := h
            refine z_callVi (rest := []) X hW hS (cX11_isNear_met gs24) kb_X11_isNear kv_X11_isNear kl_X11_167 (it_v gq22).1 kX11 rfl rfl ⟨Nat.le_of_ble_eq_true rfl, Nat.le_of_ble_eq_true rfl⟩ rfl rfl (by decide) hl.1 dX11_send_76 ⟨(by decide), (by decide)⟩ (fun H locs hW hS => ?_)
            refine lv_if_ne (tgt := 89) hx hb dX11_send_79 (by decide) (fun c25 => ?_) (fun c25 => ?_)
            · replace h := it_f h c25
              refine lv_aload_n hx hb dX11_send_89 rfl (lv_at hl 0 rfl) ?_
              replace h := b1_some h
              obtain ⟨a26, ga26, h⟩ := h
              refine z_getA X hW ga26 kX11 (by decide) (by decide) kf_X11_9 dX11_send_90 ?_
              refine lv_iload_n hx hb dX11_send_93 rfl (lv_at hl 1 rfl) ?_
              replace h := b1_some h
              obtain ⟨x27, gx27, h⟩ := h
              refine z_aldI X hW gx27 dX11_send_94 ?_
              refine lv_iconst (v := 3) hx hb dX11_send_95 (by decide) ?_
              refine lv_icmp_ne (tgt := 113) hx hb dX11_send_96 (by decide) (fun c28 => ?_) (fun c28 => ?_)
              · replace h := it_f h c28
                exact wX11_send_113 X hlk hr o v1 v2 v3 _ _ _ _ (lv_sub hl [0, 1, 2, 3] rfl) hW hS h
              · replace h := it_t h c28
                refine lv_aload_n hx hb dX11_send_99 rfl (lv_at hl 0 rfl) ?_
                replace h := b1_some h
                obtain ⟨a29, ga29, h⟩ := h
                refine z_getA X hW ga29 kX11 (by decide) (by decide) kf_X11_28 dX11_send_100 ?_
                refine lv_iload_n hx hb dX11_send_103 rfl (lv_at hl 1 rfl) ?_
                replace h := b1_some h
                obtain ⟨x30, gx30, h⟩ := h
                refine z_aldI X hW gx30 dX11_send_104 ?_
                refine lv_iconst (v := 1) hx hb dX11_send_105 (by decide) ?_
                refine lv_icmp_ne (tgt := 113) hx hb dX11_send_106 (by decide) (fun c31 => ?_) (fun c31 => ?_)
                · replace h := it_f h c31
                  exact wX11_send_113 X hlk hr o v1 v2 v3 _ _ _ _ (lv_sub hl [0, 1, 2, 3] rfl) hW hS h
                · replace h := it_t h c31
                  refine lv_iconst (v := 1) hx hb dX11_send_109 (by decide) ?_
                  refine lv_goto (tgt := 114) hx hb dX11_send_110 (by decide) ?_
                  exact wX11_send_114 X hlk hr o v1 v2 v3 1 _ _ _ _ (lv_sub hl [0, 1, 2, 3] rfl) hW hS h
            · replace h := it_t h c25
              exact wX11_send_82 X hlk hr o _ _ _ _ (lv_sub hl [0] rfl) hW hS h
        · replace h := it_t h c16
          refine lv_aload_n hx hb dX11_send_52 rfl (lv_at hl 0 rfl) ?_
          refine lv_bipush (v := (-3)) hx hb dX11_send_53 (by decide) ?_
          replace h := b1_some h
          obtain ⟨q32, gq32, h⟩ := h
          replace h := b2_some h
          obtain ⟨x33, s34, gs34, h⟩ := h
          refine z_callVi (rest := []) X hW hS (cX11_refuse_met gs34) kb_X11_refuse kv_X11_refuse kl_X11_170 (it_v gq32).1 kX11 rfl rfl ⟨Nat.le_of_ble_eq_true rfl, Nat.le_of_ble_eq_true rfl⟩ rfl rfl (by decide) hl.1 dX11_send_55 ⟨(by decide), (by decide)⟩ (fun H locs hW hS => ?_)
          exact z_eti X hlk hr hW hS h (by decide) (by decide) dX11_send_58
      · replace h := it_f h c11
        refine lv_aload_n hx hb dX11_send_32 rfl (lv_at hl 0 rfl) ?_
        refine lv_bipush (v := (-2)) hx hb dX11_send_33 (by decide) ?_
        replace h := b1_some h
        obtain ⟨q35, gq35, h⟩ := h
        replace h := b2_some h
        obtain ⟨x36, s37, gs37, h⟩ := h
        refine z_callVi (rest := []) X hW hS (cX11_refuse_met gs37) kb_X11_refuse kv_X11_refuse kl_X11_170 (it_v gq35).1 kX11 rfl rfl ⟨Nat.le_of_ble_eq_true rfl, Nat.le_of_ble_eq_true rfl⟩ rfl rfl (by decide) hl.1 dX11_send_35 ⟨(by decide), (by decide)⟩ (fun H locs hW hS => ?_)
        exact z_eti X hlk hr hW hS h (by decide) (by decide) dX11_send_38
    · replace h := it_t h c8
      exact wX11_send_16 X hlk hr o _ _ _ _ (lv_sub hl [0] rfl) hW hS h

set_option maxHeartbeats 4000000 in
set_option maxRecDepth 100000 in
theorem cX11_send_met {l : Launch} {A : Nat → Prop} {D : va_G} {cy : Nat → ClassId} {r0 : Int32} {h0 : Hz} {o : Nat} {v1 : Int32} {v2 : Int32} {v3 : Int32} {h : Hz} (g : fX11_send o v1 v2 v3 h = some (r0, h0)) : Met l yX11_send (Cond.code yX11_send cX11_send 5 (some .int) :: wT) ({ frames := 3, cells := 0, slots := 0, locals := 76 } : Room) (va_Pc [.ref o, .int v1, .int v2, .int v3] (zS A D cy h)) (va_Qi (fun r1 u => r1 = r0 ∧ u = h0) (zB A D cy) A) 0 0 A := by
  refine Met.ofW (cc := cX11_send) (maxL := 5) (ret := (some .int)) (by decide) rfl ?_
  intro p e s m args below meth c s₁ B hml hv
  obtain ⟨rfl, hW, hK, hN, hA⟩ := hv
  have X : zX A D cy p s m _ c cX11_send RX11 5 := ⟨B.exec, B.bytes, fun w hw => atoms_spec (ws := Cond.code yX11_send cX11_send 5 (some .int) :: wT) B.pre w (List.mem_cons_of_mem _ hw), findClass_of_methodNamed B.named, hK, hml, hN, hA⟩
  have hl := lv_entry [.ref o, .int v1, .int v2, .int v3] (n := 5) (Nat.le_of_ble_eq_true rfl)
  rw [lg_entry_eq]
  generalize (lg_sl [.ref o, .int v1, .int v2, .int v3] ++ List.replicate (5 - (lg_sl [.ref o, .int v1, .int v2, .int v3]).length) Slot.unset).toArray = ls at hl ⊢
  have hl : lv_has ls 5 [(0, .ref o), (1, .int v1), (2, .int v2), (3, .int v3)] := hl
  exact wX11_send_0 X B.notSynchronized B.returns o v1 v2 v3 _ _ _ _ (lv_sub hl [0, 1, 2, 3] rfl) hW va_S.rf g

end Z12_modelb
