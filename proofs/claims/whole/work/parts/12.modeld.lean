section Z12_modeld
variable {p : Program} {l : Launch} {e : Env} {s : State} {m : MethodId} {args : Array Value} {below : List Frame} {meth : Method} {c : Code} {A : Nat → Prop} {D : va_G} {cy : Nat → ClassId}
theorem dX11_deliver_0 : decode cX11_deliver 0 = .ok (.iload_n 1, 1) := by decide +kernel
theorem dX11_deliver_1 : decode cX11_deliver 1 = .ok (.aload_n 0, 1) := by decide +kernel
theorem dX11_deliver_2 : decode cX11_deliver 2 = .ok (.getfield 199, 3) := by decide +kernel
theorem dX11_deliver_5 : decode cX11_deliver 5 = .ok (.invokestatic 149, 3) := by decide +kernel
theorem dX11_deliver_8 : decode cX11_deliver 8 = .ok (.ifCond .ne 9, 3) := by decide +kernel
theorem dX11_deliver_11 : decode cX11_deliver 11 = .ok (.aload_n 0, 1) := by decide +kernel
theorem dX11_deliver_12 : decode cX11_deliver 12 = .ok (.iconst (-1), 1) := by decide +kernel
theorem dX11_deliver_13 : decode cX11_deliver 13 = .ok (.invokevirtual 170, 3) := by decide +kernel
theorem dX11_deliver_16 : decode cX11_deliver 16 = .ok (.ireturn, 1) := by decide +kernel
theorem dX11_deliver_17 : decode cX11_deliver 17 = .ok (.aload_n 0, 1) := by decide +kernel
theorem dX11_deliver_18 : decode cX11_deliver 18 = .ok (.getfield 79, 3) := by decide +kernel
theorem dX11_deliver_21 : decode cX11_deliver 21 = .ok (.iload_n 1, 1) := by decide +kernel
theorem dX11_deliver_22 : decode cX11_deliver 22 = .ok (.baload, 1) := by decide +kernel
theorem dX11_deliver_23 : decode cX11_deliver 23 = .ok (.ifCond .ne 15, 3) := by decide +kernel
theorem dX11_deliver_26 : decode cX11_deliver 26 = .ok (.aload_n 0, 1) := by decide +kernel
theorem dX11_deliver_27 : decode cX11_deliver 27 = .ok (.dup, 1) := by decide +kernel
theorem dX11_deliver_28 : decode cX11_deliver 28 = .ok (.getfield 215, 3) := by decide +kernel
theorem dX11_deliver_31 : decode cX11_deliver 31 = .ok (.iconst 1, 1) := by decide +kernel
theorem dX11_deliver_32 : decode cX11_deliver 32 = .ok (.iadd, 1) := by decide +kernel
theorem dX11_deliver_33 : decode cX11_deliver 33 = .ok (.putfield 215, 3) := by decide +kernel
theorem dX11_deliver_36 : decode cX11_deliver 36 = .ok (.iconst 0, 1) := by decide +kernel
theorem dX11_deliver_37 : decode cX11_deliver 37 = .ok (.ireturn, 1) := by decide +kernel
theorem dX11_deliver_38 : decode cX11_deliver 38 = .ok (.aload_n 0, 1) := by decide +kernel
theorem dX11_deliver_39 : decode cX11_deliver 39 = .ok (.getfield 61, 3) := by decide +kernel
theorem dX11_deliver_42 : decode cX11_deliver 42 = .ok (.iload_n 1, 1) := by decide +kernel
theorem dX11_deliver_43 : decode cX11_deliver 43 = .ok (.iaload, 1) := by decide +kernel
theorem dX11_deliver_44 : decode cX11_deliver 44 = .ok (.istore_n 2, 1) := by decide +kernel
theorem dX11_deliver_45 : decode cX11_deliver 45 = .ok (.aload_n 0, 1) := by decide +kernel
theorem dX11_deliver_46 : decode cX11_deliver 46 = .ok (.getfield 55, 3) := by decide +kernel
theorem dX11_deliver_49 : decode cX11_deliver 49 = .ok (.iload_n 1, 1) := by decide +kernel
theorem dX11_deliver_50 : decode cX11_deliver 50 = .ok (.iaload, 1) := by decide +kernel
theorem dX11_deliver_51 : decode cX11_deliver 51 = .ok (.istore_n 3, 1) := by decide +kernel
theorem dX11_deliver_52 : decode cX11_deliver 52 = .ok (.aload_n 0, 1) := by decide +kernel
theorem dX11_deliver_53 : decode cX11_deliver 53 = .ok (.getfield 52, 3) := by decide +kernel
theorem dX11_deliver_56 : decode cX11_deliver 56 = .ok (.iload_n 1, 1) := by decide +kernel
theorem dX11_deliver_57 : decode cX11_deliver 57 = .ok (.iaload, 1) := by decide +kernel
theorem dX11_deliver_58 : decode cX11_deliver 58 = .ok (.ifCond .ne 27, 3) := by decide +kernel
theorem dX11_deliver_61 : decode cX11_deliver 61 = .ok (.aload_n 0, 1) := by decide +kernel
theorem dX11_deliver_62 : decode cX11_deliver 62 = .ok (.getfield 13, 3) := by decide +kernel
theorem dX11_deliver_65 : decode cX11_deliver 65 = .ok (.iload_n 2, 1) := by decide +kernel
theorem dX11_deliver_66 : decode cX11_deliver 66 = .ok (.iaload, 1) := by decide +kernel
theorem dX11_deliver_67 : decode cX11_deliver 67 = .ok (.iload_n 3, 1) := by decide +kernel
theorem dX11_deliver_68 : decode cX11_deliver 68 = .ok (.if_icmp .eq 17, 3) := by decide +kernel
theorem dX11_deliver_71 : decode cX11_deliver 71 = .ok (.aload_n 0, 1) := by decide +kernel
theorem dX11_deliver_72 : decode cX11_deliver 72 = .ok (.iload_n 3, 1) := by decide +kernel
theorem dX11_deliver_73 : decode cX11_deliver 73 = .ok (.iload_n 2, 1) := by decide +kernel
theorem dX11_deliver_74 : decode cX11_deliver 74 = .ok (.invokevirtual 196, 3) := by decide +kernel
theorem dX11_deliver_77 : decode cX11_deliver 77 = .ok (.iconst (-1), 1) := by decide +kernel
theorem dX11_deliver_78 : decode cX11_deliver 78 = .ok (.if_icmp .ne 7, 3) := by decide +kernel
theorem dX11_deliver_81 : decode cX11_deliver 81 = .ok (.iconst 1, 1) := by decide +kernel
theorem dX11_deliver_82 : decode cX11_deliver 82 = .ok (.goto 4, 3) := by decide +kernel
theorem dX11_deliver_85 : decode cX11_deliver 85 = .ok (.iconst 0, 1) := by decide +kernel
theorem dX11_deliver_86 : decode cX11_deliver 86 = .ok (.istore 4, 2) := by decide +kernel
theorem dX11_deliver_88 : decode cX11_deliver 88 = .ok (.aload_n 0, 1) := by decide +kernel
theorem dX11_deliver_89 : decode cX11_deliver 89 = .ok (.getfield 199, 3) := by decide +kernel
theorem dX11_deliver_92 : decode cX11_deliver 92 = .ok (.aload_n 0, 1) := by decide +kernel
theorem dX11_deliver_93 : decode cX11_deliver 93 = .ok (.iload_n 1, 1) := by decide +kernel
theorem dX11_deliver_94 : decode cX11_deliver 94 = .ok (.invokevirtual 218, 3) := by decide +kernel
theorem dX11_deliver_97 : decode cX11_deliver 97 = .ok (.iadd, 1) := by decide +kernel
theorem dX11_deliver_98 : decode cX11_deliver 98 = .ok (.sipush 600, 3) := by decide +kernel
theorem dX11_deliver_101 : decode cX11_deliver 101 = .ok (.if_icmp .gt 18, 3) := by decide +kernel
theorem dX11_deliver_104 : decode cX11_deliver 104 = .ok (.iload 4, 2) := by decide +kernel
theorem dX11_deliver_106 : decode cX11_deliver 106 = .ok (.ifCond .eq 20, 3) := by decide +kernel
theorem dX11_deliver_109 : decode cX11_deliver 109 = .ok (.aload_n 0, 1) := by decide +kernel
theorem dX11_deliver_110 : decode cX11_deliver 110 = .ok (.getfield 145, 3) := by decide +kernel
theorem dX11_deliver_113 : decode cX11_deliver 113 = .ok (.sipush 300, 3) := by decide +kernel
theorem dX11_deliver_116 : decode cX11_deliver 116 = .ok (.if_icmp .ne 10, 3) := by decide +kernel
theorem dX11_deliver_119 : decode cX11_deliver 119 = .ok (.aload_n 0, 1) := by decide +kernel
theorem dX11_deliver_120 : decode cX11_deliver 120 = .ok (.bipush (-6), 2) := by decide +kernel
theorem dX11_deliver_122 : decode cX11_deliver 122 = .ok (.invokevirtual 170, 3) := by decide +kernel
theorem dX11_deliver_125 : decode cX11_deliver 125 = .ok (.ireturn, 1) := by decide +kernel
theorem dX11_deliver_126 : decode cX11_deliver 126 = .ok (.aload_n 0, 1) := by decide +kernel
theorem dX11_deliver_127 : decode cX11_deliver 127 = .ok (.getfield 79, 3) := by decide +kernel
theorem dX11_deliver_130 : decode cX11_deliver 130 = .ok (.iload_n 1, 1) := by decide +kernel
theorem dX11_deliver_131 : decode cX11_deliver 131 = .ok (.iconst 0, 1) := by decide +kernel
theorem dX11_deliver_132 : decode cX11_deliver 132 = .ok (.bastore, 1) := by decide +kernel
theorem dX11_deliver_133 : decode cX11_deliver 133 = .ok (.aload_n 0, 1) := by decide +kernel
theorem dX11_deliver_134 : decode cX11_deliver 134 = .ok (.getfield 52, 3) := by decide +kernel
theorem dX11_deliver_137 : decode cX11_deliver 137 = .ok (.iload_n 1, 1) := by decide +kernel
theorem dX11_deliver_138 : decode cX11_deliver 138 = .ok (.iaload, 1) := by decide +kernel
theorem dX11_deliver_139 : decode cX11_deliver 139 = .ok (.tableswitch 144 0 4 #[33, 53, 93, 112, 136], 33) := by decide +kernel
theorem dX11_deliver_172 : decode cX11_deliver 172 = .ok (.aload_n 0, 1) := by decide +kernel
theorem dX11_deliver_173 : decode cX11_deliver 173 = .ok (.iload_n 1, 1) := by decide +kernel
theorem dX11_deliver_174 : decode cX11_deliver 174 = .ok (.iload_n 2, 1) := by decide +kernel
theorem dX11_deliver_175 : decode cX11_deliver 175 = .ok (.iload_n 3, 1) := by decide +kernel
theorem dX11_deliver_176 : decode cX11_deliver 176 = .ok (.invokevirtual 221, 3) := by decide +kernel
theorem dX11_deliver_179 : decode cX11_deliver 179 = .ok (.aload_n 0, 1) := by decide +kernel
theorem dX11_deliver_180 : decode cX11_deliver 180 = .ok (.getfield 91, 3) := by decide +kernel
theorem dX11_deliver_183 : decode cX11_deliver 183 = .ok (.iload_n 3, 1) := by decide +kernel
theorem dX11_deliver_184 : decode cX11_deliver 184 = .ok (.dup2, 1) := by decide +kernel
theorem dX11_deliver_185 : decode cX11_deliver 185 = .ok (.iaload, 1) := by decide +kernel
theorem dX11_deliver_186 : decode cX11_deliver 186 = .ok (.iconst 1, 1) := by decide +kernel
theorem dX11_deliver_187 : decode cX11_deliver 187 = .ok (.iadd, 1) := by decide +kernel
theorem dX11_deliver_188 : decode cX11_deliver 188 = .ok (.iastore, 1) := by decide +kernel
theorem dX11_deliver_189 : decode cX11_deliver 189 = .ok (.goto 99, 3) := by decide +kernel
theorem dX11_deliver_192 : decode cX11_deliver 192 = .ok (.aload_n 0, 1) := by decide +kernel
theorem dX11_deliver_193 : decode cX11_deliver 193 = .ok (.getfield 22, 3) := by decide +kernel
theorem dX11_deliver_196 : decode cX11_deliver 196 = .ok (.iload_n 2, 1) := by decide +kernel
theorem dX11_deliver_197 : decode cX11_deliver 197 = .ok (.dup2, 1) := by decide +kernel
theorem dX11_deliver_198 : decode cX11_deliver 198 = .ok (.iaload, 1) := by decide +kernel
theorem dX11_deliver_199 : decode cX11_deliver 199 = .ok (.bipush 64, 2) := by decide +kernel
theorem dX11_deliver_201 : decode cX11_deliver 201 = .ok (.iadd, 1) := by decide +kernel
theorem dX11_deliver_202 : decode cX11_deliver 202 = .ok (.iastore, 1) := by decide +kernel
theorem dX11_deliver_203 : decode cX11_deliver 203 = .ok (.aload_n 0, 1) := by decide +kernel
theorem dX11_deliver_204 : decode cX11_deliver 204 = .ok (.iconst 2, 1) := by decide +kernel
theorem dX11_deliver_205 : decode cX11_deliver 205 = .ok (.aload_n 0, 1) := by decide +kernel
theorem dX11_deliver_206 : decode cX11_deliver 206 = .ok (.getfield 58, 3) := by decide +kernel
theorem dX11_deliver_209 : decode cX11_deliver 209 = .ok (.iload_n 1, 1) := by decide +kernel
theorem dX11_deliver_210 : decode cX11_deliver 210 = .ok (.iaload, 1) := by decide +kernel
theorem dX11_deliver_211 : decode cX11_deliver 211 = .ok (.iload_n 3, 1) := by decide +kernel
theorem dX11_deliver_212 : decode cX11_deliver 212 = .ok (.iload_n 2, 1) := by decide +kernel
theorem dX11_deliver_213 : decode cX11_deliver 213 = .ok (.bipush 64, 2) := by decide +kernel
theorem dX11_deliver_215 : decode cX11_deliver 215 = .ok (.invokevirtual 202, 3) := by decide +kernel
theorem dX11_deliver_218 : decode cX11_deliver 218 = .ok (.pop, 1) := by decide +kernel
theorem dX11_deliver_219 : decode cX11_deliver 219 = .ok (.aload_n 0, 1) := by decide +kernel
theorem dX11_deliver_220 : decode cX11_deliver 220 = .ok (.getfield 91, 3) := by decide +kernel
theorem dX11_deliver_223 : decode cX11_deliver 223 = .ok (.iload_n 3, 1) := by decide +kernel
theorem dX11_deliver_224 : decode cX11_deliver 224 = .ok (.dup2, 1) := by decide +kernel
theorem dX11_deliver_225 : decode cX11_deliver 225 = .ok (.iaload, 1) := by decide +kernel
theorem dX11_deliver_226 : decode cX11_deliver 226 = .ok (.iconst 1, 1) := by decide +kernel
theorem dX11_deliver_227 : decode cX11_deliver 227 = .ok (.iadd, 1) := by decide +kernel
theorem dX11_deliver_228 : decode cX11_deliver 228 = .ok (.iastore, 1) := by decide +kernel
theorem dX11_deliver_229 : decode cX11_deliver 229 = .ok (.goto 59, 3) := by decide +kernel
theorem dX11_deliver_232 : decode cX11_deliver 232 = .ok (.aload_n 0, 1) := by decide +kernel
theorem dX11_deliver_233 : decode cX11_deliver 233 = .ok (.iload_n 2, 1) := by decide +kernel
theorem dX11_deliver_234 : decode cX11_deliver 234 = .ok (.iload_n 3, 1) := by decide +kernel
theorem dX11_deliver_235 : decode cX11_deliver 235 = .ok (.invokevirtual 224, 3) := by decide +kernel
theorem dX11_deliver_238 : decode cX11_deliver 238 = .ok (.aload_n 0, 1) := by decide +kernel
theorem dX11_deliver_239 : decode cX11_deliver 239 = .ok (.getfield 91, 3) := by decide +kernel
theorem dX11_deliver_242 : decode cX11_deliver 242 = .ok (.iload_n 3, 1) := by decide +kernel
theorem dX11_deliver_243 : decode cX11_deliver 243 = .ok (.dup2, 1) := by decide +kernel
theorem dX11_deliver_244 : decode cX11_deliver 244 = .ok (.iaload, 1) := by decide +kernel
theorem dX11_deliver_245 : decode cX11_deliver 245 = .ok (.iconst 1, 1) := by decide +kernel
theorem dX11_deliver_246 : decode cX11_deliver 246 = .ok (.iadd, 1) := by decide +kernel
theorem dX11_deliver_247 : decode cX11_deliver 247 = .ok (.iastore, 1) := by decide +kernel
theorem dX11_deliver_248 : decode cX11_deliver 248 = .ok (.goto 40, 3) := by decide +kernel
theorem dX11_deliver_251 : decode cX11_deliver 251 = .ok (.aload_n 0, 1) := by decide +kernel
theorem dX11_deliver_252 : decode cX11_deliver 252 = .ok (.iload_n 2, 1) := by decide +kernel
theorem dX11_deliver_253 : decode cX11_deliver 253 = .ok (.aload_n 0, 1) := by decide +kernel
theorem dX11_deliver_254 : decode cX11_deliver 254 = .ok (.getfield 64, 3) := by decide +kernel
theorem dX11_deliver_257 : decode cX11_deliver 257 = .ok (.iload_n 1, 1) := by decide +kernel
theorem dX11_deliver_258 : decode cX11_deliver 258 = .ok (.iaload, 1) := by decide +kernel
theorem dX11_deliver_259 : decode cX11_deliver 259 = .ok (.invokevirtual 228, 3) := by decide +kernel
theorem dX11_deliver_262 : decode cX11_deliver 262 = .ok (.aload_n 0, 1) := by decide +kernel
theorem dX11_deliver_263 : decode cX11_deliver 263 = .ok (.getfield 91, 3) := by decide +kernel
theorem dX11_deliver_266 : decode cX11_deliver 266 = .ok (.iload_n 3, 1) := by decide +kernel
theorem dX11_deliver_267 : decode cX11_deliver 267 = .ok (.dup2, 1) := by decide +kernel
theorem dX11_deliver_268 : decode cX11_deliver 268 = .ok (.iaload, 1) := by decide +kernel
theorem dX11_deliver_269 : decode cX11_deliver 269 = .ok (.iconst 1, 1) := by decide +kernel
theorem dX11_deliver_270 : decode cX11_deliver 270 = .ok (.iadd, 1) := by decide +kernel
theorem dX11_deliver_271 : decode cX11_deliver 271 = .ok (.iastore, 1) := by decide +kernel
theorem dX11_deliver_272 : decode cX11_deliver 272 = .ok (.goto 16, 3) := by decide +kernel
theorem dX11_deliver_275 : decode cX11_deliver 275 = .ok (.aload_n 0, 1) := by decide +kernel
theorem dX11_deliver_276 : decode cX11_deliver 276 = .ok (.iload_n 1, 1) := by decide +kernel
theorem dX11_deliver_277 : decode cX11_deliver 277 = .ok (.invokevirtual 231, 3) := by decide +kernel
theorem dX11_deliver_280 : decode cX11_deliver 280 = .ok (.goto 8, 3) := by decide +kernel
theorem dX11_deliver_283 : decode cX11_deliver 283 = .ok (.aload_n 0, 1) := by decide +kernel
theorem dX11_deliver_284 : decode cX11_deliver 284 = .ok (.iload_n 1, 1) := by decide +kernel
theorem dX11_deliver_285 : decode cX11_deliver 285 = .ok (.invokevirtual 234, 3) := by decide +kernel
theorem dX11_deliver_288 : decode cX11_deliver 288 = .ok (.iconst 1, 1) := by decide +kernel
theorem dX11_deliver_289 : decode cX11_deliver 289 = .ok (.ireturn, 1) := by decide +kernel
def fX11_deliver_119 (o : Nat) (h : Hz) : Option (Int32 × Hz) := (b1 (tg 11 o h) fun _ => (b2 (fX11_refuse o (-6) h) fun x2 s3 => some (x2, s3)))
set_option maxHeartbeats 4000000 in
set_option maxRecDepth 100000 in
theorem wX11_deliver_119 {r0 : Int32} {h0 : Hz} (X : zX A D cy p s m args c cX11_deliver RX11 5) (hlk : meth.locks = false) (hr : meth.sig.returnType = (some .int)) (o : Nat) (h : Hz) (H : Heap) (locs : List Loc) (ls : Array Slot) (hl : lv_has ls 5 [(0, .ref o)]) (hW : zW A cy D h H) (hS : va_S A s.heap H locs) (h : fX11_deliver_119 o h = some (r0, h0)) : W p l e ({ frames := 5, cells := 0, slots := 0, locals := 119 } : Room) s m args below meth c H locs 0 0 (MQ below (va_Qi (fun r1 u => r1 = r0 ∧ u = h0) (zB A D cy) A) args s 0 0 A) (F0 m 119 ls []) := by
  obtain ⟨hx, hb, hts, hown, hK9, hml, hN9, hA9⟩ := id X
  unfold fX11_deliver_119 at h
  refine lv_aload_n hx hb dX11_deliver_119 rfl (lv_at hl 0 rfl) ?_
  refine lv_bipush (v := (-6)) hx hb dX11_deliver_120 (by decide) ?_
  replace h := b1_some h
  obtain ⟨q1, gq1, h⟩ := h
  replace h := b2_some h
  obtain ⟨x2, s3, gs3, h⟩ := h
  refine z_callVi (rest := []) X hW hS (cX11_refuse_met gs3) kb_X11_refuse kv_X11_refuse kl_X11_170 (it_v gq1).1 kX11 rfl rfl ⟨Nat.le_of_ble_eq_true rfl, Nat.le_of_ble_eq_true rfl⟩ rfl rfl (by decide) hl.1 dX11_deliver_122 ⟨(by decide), (by decide)⟩ (fun H locs hW hS => ?_)
  exact z_eti X hlk hr hW hS h (by decide) (by decide) dX11_deliver_125

def fX11_deliver_126 (o : Nat) (v1 : Int32) (v2 : Int32) (v3 : Int32) (h : Hz) : Option (Int32 × Hz) := (b1 (gA 11 23 o h) fun a1 => (b1 (yZ a1 v1 0 h) fun s2 => (b1 (gA 11 14 o s2) fun a3 => (b1 (xI 12 a3 v1 s2) fun x4 => (if x4 = 0 then (b1 (tg 11 o s2) fun _ => (b2 (fX11_named o v1 v2 v3 s2) fun _ s8 => (b1 (gA 11 30 o s8) fun a9 => (b1 (xI 12 a9 v3 s8) fun x10 => (b1 (yI a9 v3 (x10 + 1) s8) fun s11 => some (1, s11)))))) else (if x4 = 1 then (b1 (gA 11 4 o s2) fun a13 => (b1 (xI 12 a13 v2 s2) fun x14 => (b1 (yI a13 v2 (x14 + 64) s2) fun s15 => (b1 (gA 11 16 o s15) fun a16 => (b1 (xI 12 a16 v1 s15) fun x17 => (b1 (tg 11 o s15) fun _ => (b2 (fX11_letter o 2 x17 v3 v2 64 s15) fun x19 s20 => (b1 (gA 11 30 o s20) fun a21 => (b1 (xI 12 a21 v3 s20) fun x22 => (b1 (yI a21 v3 (x22 + 1) s20) fun s23 => some (1, s23))))))))))) else (if x4 = 2 then (b1 (tg 11 o s2) fun _ => (b2 (fX11_given o v2 v3 s2) fun _ s27 => (b1 (gA 11 30 o s27) fun a28 => (b1 (xI 12 a28 v3 s27) fun x29 => (b1 (yI a28 v3 (x29 + 1) s27) fun s30 => some (1, s30)))))) else (if x4 = 3 then (b1 (gA 11 18 o s2) fun a32 => (b1 (xI 12 a32 v1 s2) fun x33 => (b1 (tg 11 o s2) fun _ => (b2 (fX11_takes o v2 x33 s2) fun _ s36 => (b1 (gA 11 30 o s36) fun a37 => (b1 (xI 12 a37 v3 s36) fun x38 => (b1 (yI a37 v3 (x38 + 1) s36) fun s39 => some (1, s39)))))))) else (if x4 = 4 then (b1 (tg 11 o s2) fun _ => (b2 (fX11_stepped o v1 s2) fun _ s43 => some (1, s43))) else (b1 (tg 11 o s2) fun _ => (b2 (fX11_backs o v1 s2) fun _ s46 => some (1, s46))))))))))))
set_option maxHeartbeats 4000000 in
set_option maxRecDepth 100000 in
theorem wX11_deliver_126 {r0 : Int32} {h0 : Hz} (X : zX A D cy p s m args c cX11_deliver RX11 5) (hlk : meth.locks = false) (hr : meth.sig.returnType = (some .int)) (o : Nat) (v1 : Int32) (v2 : Int32) (v3 : Int32) (h : Hz) (H : Heap) (locs : List Loc) (ls : Array Slot) (hl : lv_has ls 5 [(0, .ref o), (1, .int v1), (2, .int v2), (3, .int v3)]) (hW : zW A cy D h H) (hS : va_S A s.heap H locs) (h : fX11_deliver_126 o v1 v2 v3 h = some (r0, h0)) : W p l e ({ frames := 5, cells := 0, slots := 0, locals := 119 } : Room) s m args below meth c H locs 0 0 (MQ below (va_Qi (fun r1 u => r1 = r0 ∧ u = h0) (zB A D cy) A) args s 0 0 A) (F0 m 126 ls []) := by
  obtain ⟨hx, hb, hts, hown, hK9, hml, hN9, hA9⟩ := id X
  unfold fX11_deliver_126 at h
  refine lv_aload_n hx hb dX11_deliver_126 rfl (lv_at hl 0 rfl) ?_
  replace h := b1_some h
  obtain ⟨a1, ga1, h⟩ := h
  refine z_getA X hW ga1 kX11 (by decide) (by decide) kf_X11_79 dX11_deliver_127 ?_
  refine lv_iload_n hx hb dX11_deliver_130 rfl (lv_at hl 1 rfl) ?_
  refine lv_iconst (v := 0) hx hb dX11_deliver_131 (by decide) ?_
  replace h := b1_some h
  obtain ⟨s2, gs2, h⟩ := h
  refine z_astZ X hW hS gs2 dX11_deliver_132 (fun H locs hW hS => ?_)
  refine lv_aload_n hx hb dX11_deliver_133 rfl (lv_at hl 0 rfl) ?_
  replace h := b1_some h
  obtain ⟨a3, ga3, h⟩ := h
  refine z_getA X hW ga3 kX11 (by decide) (by decide) kf_X11_52 dX11_deliver_134 ?_
  refine lv_iload_n hx hb dX11_deliver_137 rfl (lv_at hl 1 rfl) ?_
  replace h := b1_some h
  obtain ⟨x4, gx4, h⟩ := h
  refine z_aldI X hW gx4 dX11_deliver_138 ?_
  by_cases c5 : x4 = 0
  · replace h := it_t h c5
    refine lv_tableIn (off := 33) (tgt := 172) hx hb dX11_deliver_139 (by rw [c5]; decide) (by rw [c5]; decide) (by rw [c5]; rfl) (by decide) ?_
    refine lv_aload_n hx hb dX11_deliver_172 rfl (lv_at hl 0 rfl) ?_
    refine lv_iload_n hx hb dX11_deliver_173 rfl (lv_at hl 1 rfl) ?_
    refine lv_iload_n hx hb dX11_deliver_174 rfl (lv_at hl 2 rfl) ?_
    refine lv_iload_n hx hb dX11_deliver_175 rfl (lv_at hl 3 rfl) ?_
    replace h := b1_some h
    obtain ⟨q6, gq6, h⟩ := h
    replace h := b2_some h
    obtain ⟨_ur7, s8, gs8, h⟩ := h
    refine z_callVv (rest := []) X hW hS (cX11_named_met gs8) kb_X11_named kv_X11_named kl_X11_221 (it_v gq6).1 kX11 rfl rfl ⟨Nat.le_of_ble_eq_true rfl, Nat.le_of_ble_eq_true rfl⟩ rfl rfl (by decide) hl.1 dX11_deliver_176 ⟨(by decide), (by decide)⟩ (fun H locs hW hS => ?_)
    refine lv_aload_n hx hb dX11_deliver_179 rfl (lv_at hl 0 rfl) ?_
    replace h := b1_some h
    obtain ⟨a9, ga9, h⟩ := h
    refine z_getA X hW ga9 kX11 (by decide) (by decide) kf_X11_91 dX11_deliver_180 ?_
    refine lv_iload_n hx hb dX11_deliver_183 rfl (lv_at hl 3 rfl) ?_
    refine lv_dup2_11 hx hb dX11_deliver_184 rfl rfl ?_
    replace h := b1_some h
    obtain ⟨x10, gx10, h⟩ := h
    refine z_aldI X hW gx10 dX11_deliver_185 ?_
    refine lv_iconst (v := 1) hx hb dX11_deliver_186 (by decide) ?_
    refine lv_iadd hx hb dX11_deliver_187 ?_
    replace h := b1_some h
    obtain ⟨s11, gs11, h⟩ := h
    refine z_astI X hW hS gs11 dX11_deliver_188 (fun H locs hW hS => ?_)
    refine lv_goto (tgt := 288) hx hb dX11_deliver_189 (by decide) ?_
    refine lv_iconst (v := 1) hx hb dX11_deliver_288 (by decide) ?_
    exact z_eti X hlk hr hW hS h (by decide) (by decide) dX11_deliver_289
  · replace h := it_f h c5
    by_cases c12 : x4 = 1
    · replace h := it_t h c12
      refine lv_tableIn (off := 53) (tgt := 192) hx hb dX11_deliver_139 (by rw [c12]; decide) (by rw [c12]; decide) (by rw [c12]; rfl) (by decide) ?_
      refine lv_aload_n hx hb dX11_deliver_192 rfl (lv_at hl 0 rfl) ?_
      replace h := b1_some h
      obtain ⟨a13, ga13, h⟩ := h
      refine z_getA X hW ga13 kX11 (by decide) (by decide) kf_X11_22 dX11_deliver_193 ?_
      refine lv_iload_n hx hb dX11_deliver_196 rfl (lv_at hl 2 rfl) ?_
      refine lv_dup2_11 hx hb dX11_deliver_197 rfl rfl ?_
      replace h := b1_some h
      obtain ⟨x14, gx14, h⟩ := h
      refine z_aldI X hW gx14 dX11_deliver_198 ?_
      refine lv_bipush (v := 64) hx hb dX11_deliver_199 (by decide) ?_
      refine lv_iadd hx hb dX11_deliver_201 ?_
      replace h := b1_some h
      obtain ⟨s15, gs15, h⟩ := h
      refine z_astI X hW hS gs15 dX11_deliver_202 (fun H locs hW hS => ?_)
      refine lv_aload_n hx hb dX11_deliver_203 rfl (lv_at hl 0 rfl) ?_
      refine lv_iconst (v := 2) hx hb dX11_deliver_204 (by decide) ?_
      refine lv_aload_n hx hb dX11_deliver_205 rfl (lv_at hl 0 rfl) ?_
      replace h := b1_some h
      obtain ⟨a16, ga16, h⟩ := h
      refine z_getA X hW ga16 kX11 (by decide) (by decide) kf_X11_58 dX11_deliver_206 ?_
      refine lv_iload_n hx hb dX11_deliver_209 rfl (lv_at hl 1 rfl) ?_
      replace h := b1_some h
      obtain ⟨x17, gx17, h⟩ := h
      refine z_aldI X hW gx17 dX11_deliver_210 ?_
      refine lv_iload_n hx hb dX11_deliver_211 rfl (lv_at hl 3 rfl) ?_
      refine lv_iload_n hx hb dX11_deliver_212 rfl (lv_at hl 2 rfl) ?_
      refine lv_bipush (v := 64) hx hb dX11_deliver_213 (by decide) ?_
      replace h := b1_some h
      obtain ⟨q18, gq18, h⟩ := h
      replace h := b2_some h
      obtain ⟨x19, s20, gs20, h⟩ := h
      refine z_callVi (rest := []) X hW hS (cX11_letter_met gs20) kb_X11_letter kv_X11_letter kl_X11_202 (it_v gq18).1 kX11 rfl rfl ⟨Nat.le_of_ble_eq_true rfl, Nat.le_of_ble_eq_true rfl⟩ rfl rfl (by decide) hl.1 dX11_deliver_215 ⟨(by decide), (by decide)⟩ (fun H locs hW hS => ?_)
      refine lv_pop hx hb dX11_deliver_218 rfl ?_
      refine lv_aload_n hx hb dX11_deliver_219 rfl (lv_at hl 0 rfl) ?_
      replace h := b1_some h
      obtain ⟨a21, ga21, h⟩ := h
      refine z_getA X hW ga21 kX11 (by decide) (by decide) kf_X11_91 dX11_deliver_220 ?_
      refine lv_iload_n hx hb dX11_deliver_223 rfl (lv_at hl 3 rfl) ?_
      refine lv_dup2_11 hx hb dX11_deliver_224 rfl rfl ?_
      replace h := b1_some h
      obtain ⟨x22, gx22, h⟩ := h
      refine z_aldI X hW gx22 dX11_deliver_225 ?_
      refine lv_iconst (v := 1) hx hb dX11_deliver_226 (by decide) ?_
      refine lv_iadd hx hb dX11_deliver_227 ?_
      replace h := b1_some h
      obtain ⟨s23, gs23, h⟩ := h
      refine z_astI X hW hS gs23 dX11_deliver_228 (fun H locs hW hS => ?_)
      refine lv_goto (tgt := 288) hx hb dX11_deliver_229 (by decide) ?_
      refine lv_iconst (v := 1) hx hb dX11_deliver_288 (by decide) ?_
      exact z_eti X hlk hr hW hS h (by decide) (by decide) dX11_deliver_289
    · replace h := it_f h c12
      by_cases c24 : x4 = 2
      · replace h := it_t h c24
        refine lv_tableIn (off := 93) (tgt := 232) hx hb dX11_deliver_139 (by rw [c24]; decide) (by rw [c24]; decide) (by rw [c24]; rfl) (by decide) ?_
        refine lv_aload_n hx hb dX11_deliver_232 rfl (lv_at hl 0 rfl) ?_
        refine lv_iload_n hx hb dX11_deliver_233 rfl (lv_at hl 2 rfl) ?_
        refine lv_iload_n hx hb dX11_deliver_234 rfl (lv_at hl 3 rfl) ?_
        replace h := b1_some h
        obtain ⟨q25, gq25, h⟩ := h
        replace h := b2_some h
        obtain ⟨_ur26, s27, gs27, h⟩ := h
        refine z_callVv (rest := []) X hW hS (cX11_given_met gs27) kb_X11_given kv_X11_given kl_X11_224 (it_v gq25).1 kX11 rfl rfl ⟨Nat.le_of_ble_eq_true rfl, Nat.le_of_ble_eq_true rfl⟩ rfl rfl (by decide) hl.1 dX11_deliver_235 ⟨(by decide), (by decide)⟩ (fun H locs hW hS => ?_)
        refine lv_aload_n hx hb dX11_deliver_238 rfl (lv_at hl 0 rfl) ?_
        replace h := b1_some h
        obtain ⟨a28, ga28, h⟩ := h
        refine z_getA X hW ga28 kX11 (by decide) (by decide) kf_X11_91 dX11_deliver_239 ?_
        refine lv_iload_n hx hb dX11_deliver_242 rfl (lv_at hl 3 rfl) ?_
        refine lv_dup2_11 hx hb dX11_deliver_243 rfl rfl ?_
        replace h := b1_some h
        obtain ⟨x29, gx29, h⟩ := h
        refine z_aldI X hW gx29 dX11_deliver_244 ?_
        refine lv_iconst (v := 1) hx hb dX11_deliver_245 (by decide) ?_
        refine lv_iadd hx hb dX11_deliver_246 ?_
        replace h := b1_some h
        obtain ⟨s30, gs30, h⟩ := h
        refine z_astI X hW hS gs30 dX11_deliver_247 (fun H locs hW hS => ?_)
        refine lv_goto (tgt := 288) hx hb dX11_deliver_248 (by decide) ?_
        refine lv_iconst (v := 1) hx hb dX11_deliver_288 (by decide) ?_
        exact z_eti X hlk hr hW hS h (by decide) (by decide) dX11_deliver_289
      · replace h := it_f h c24
        by_cases c31 : x4 = 3
        · replace h := it_t h c31
          refine lv_tableIn (off := 112) (tgt := 251) hx hb dX11_deliver_139 (by rw [c31]; decide) (by rw [c31]; decide) (by rw [c31]; rfl) (by decide) ?_
          refine lv_aload_n hx hb dX11_deliver_251 rfl (lv_at hl 0 rfl) ?_
          refine lv_iload_n hx hb dX11_deliver_252 rfl (lv_at hl 2 rfl) ?_
          refine lv_aload_n hx hb dX11_deliver_253 rfl (lv_at hl 0 rfl) ?_
          replace h := b1_some h
          obtain ⟨a32, ga32, h⟩ := h
          refine z_getA X hW ga32 kX11 (by decide) (by decide) kf_X11_64 dX11_deliver_254 ?_
          refine lv_iload_n hx hb dX11_deliver_257 rfl (lv_at hl 1 rfl) ?_
          replace h := b1_some h
          obtain ⟨x33, gx33, h⟩ := h
          refine z_aldI X hW gx33 dX11_deliver_258 ?_
          replace h := b1_some h
          obtain ⟨q34, gq34, h⟩ := h
          replace h := b2_some h
          obtain ⟨_ur35, s36, gs36, h⟩ := h
          refine z_callVv (rest := []) X hW hS (cX11_takes_met gs36) kb_X11_takes kv_X11_takes kl_X11_228 (it_v gq34).1 kX11 rfl rfl ⟨Nat.le_of_ble_eq_true rfl, Nat.le_of_ble_eq_true rfl⟩ rfl rfl (by decide) hl.1 dX11_deliver_259 ⟨(by decide), (by decide)⟩ (fun H locs hW hS => ?_)
          refine lv_aload_n hx hb dX11_deliver_262 rfl (lv_at hl 0 rfl) ?_
          replace h := b1_some h
          obtain ⟨a37, ga37, h⟩ := h
          refine z_getA X hW ga37 kX11 (by decide) (by decide) kf_X11_91 dX11_deliver_263 ?_
          refine lv_iload_n hx hb dX11_deliver_266 rfl (lv_at hl 3 rfl) ?_
          refine lv_dup2_11 hx hb dX11_deliver_267 rfl rfl ?_
          replace h := b1_some h
          obtain ⟨x38, gx38, h⟩ := h
          refine z_aldI X hW gx38 dX11_deliver_268 ?_
          refine lv_iconst (v := 1) hx hb dX11_deliver_269 (by decide) ?_
          refine lv_iadd hx hb dX11_deliver_270 ?_
          replace h := b1_some h
          obtain ⟨s39, gs39, h⟩ := h
          refine z_astI X hW hS gs39 dX11_deliver_271 (fun H locs hW hS => ?_)
          refine lv_goto (tgt := 288) hx hb dX11_deliver_272 (by decide) ?_
          refine lv_iconst (v := 1) hx hb dX11_deliver_288 (by decide) ?_
          exact z_eti X hlk hr hW hS h (by decide) (by decide) dX11_deliver_289
        · replace h := it_f h c31
          by_cases c40 : x4 = 4
          · replace h := it_t h c40
            refine lv_tableIn (off := 136) (tgt := 275) hx hb dX11_deliver_139 (by rw [c40]; decide) (by rw [c40]; decide) (by rw [c40]; rfl) (by decide) ?_
            refine lv_aload_n hx hb dX11_deliver_275 rfl (lv_at hl 0 rfl) ?_
            refine lv_iload_n hx hb dX11_deliver_276 rfl (lv_at hl 1 rfl) ?_
            replace h := b1_some h
            obtain ⟨q41, gq41, h⟩ := h
            replace h := b2_some h
            obtain ⟨_ur42, s43, gs43, h⟩ := h
            refine z_callVv (rest := []) X hW hS (cX11_stepped_met gs43) kb_X11_stepped kv_X11_stepped kl_X11_231 (it_v gq41).1 kX11 rfl rfl ⟨Nat.le_of_ble_eq_true rfl, Nat.le_of_ble_eq_true rfl⟩ rfl rfl (by decide) hl.1 dX11_deliver_277 ⟨(by decide), (by decide)⟩ (fun H locs hW hS => ?_)
            refine lv_goto (tgt := 288) hx hb dX11_deliver_280 (by decide) ?_
            refine lv_iconst (v := 1) hx hb dX11_deliver_288 (by decide) ?_
            exact z_eti X hlk hr hW hS h (by decide) (by decide) dX11_deliver_289
          · replace h := it_f h c40
            have nc5 := lv_neT c5 (a := 0) rfl
            have nc12 := lv_neT c12 (a := 1) rfl
            have nc24 := lv_neT c24 (a := 2) rfl
            have nc31 := lv_neT c31 (a := 3) rfl
            have nc40 := lv_neT c40 (a := 4) rfl
            refine lv_tableOut (tgt := 283) hx hb dX11_deliver_139 (by omega) (by decide) ?_
            refine lv_aload_n hx hb dX11_deliver_283 rfl (lv_at hl 0 rfl) ?_
            refine lv_iload_n hx hb dX11_deliver_284 rfl (lv_at hl 1 rfl) ?_
            replace h := b1_some h
            obtain ⟨q44, gq44, h⟩ := h
            replace h := b2_some h
            obtain ⟨_ur45, s46, gs46, h⟩ := h
            refine z_callVv (rest := []) X hW hS (cX11_backs_met gs46) kb_X11_backs kv_X11_backs kl_X11_234 (it_v gq44).1 kX11 rfl rfl ⟨Nat.le_of_ble_eq_true rfl, Nat.le_of_ble_eq_true rfl⟩ rfl rfl (by decide) hl.1 dX11_deliver_285 ⟨(by decide), (by decide)⟩ (fun H locs hW hS => ?_)
            refine lv_iconst (v := 1) hx hb dX11_deliver_288 (by decide) ?_
            exact z_eti X hlk hr hW hS h (by decide) (by decide) dX11_deliver_289

def fX11_deliver_86 (o : Nat) (v1 : Int32) (v2 : Int32) (v3 : Int32) (w0 : Int32) (h : Hz) : Option (Int32 × Hz) := (b1 (gI 11 24 o h) fun x1 => (b1 (tg 11 o h) fun _ => (b2 (fX11_sends o v1 h) fun x3 s4 => (if 600 < (x1 + x3) then fX11_deliver_119 o s4 else (if w0 = 0 then fX11_deliver_126 o v1 v2 v3 s4 else (b1 (gI 11 9 o s4) fun x7 => (if x7 = 300 then fX11_deliver_119 o s4 else fX11_deliver_126 o v1 v2 v3 s4)))))))
set_option maxHeartbeats 4000000 in
set_option maxRecDepth 100000 in
theorem wX11_deliver_86 {r0 : Int32} {h0 : Hz} (X : zX A D cy p s m args c cX11_deliver RX11 5) (hlk : meth.locks = false) (hr : meth.sig.returnType = (some .int)) (o : Nat) (v1 : Int32) (v2 : Int32) (v3 : Int32) (w0 : Int32) (h : Hz) (H : Heap) (locs : List Loc) (ls : Array Slot) (hl : lv_has ls 5 [(0, .ref o), (1, .int v1), (2, .int v2), (3, .int v3)]) (hW : zW A cy D h H) (hS : va_S A s.heap H locs) (h : fX11_deliver_86 o v1 v2 v3 w0 h = some (r0, h0)) : W p l e ({ frames := 5, cells := 0, slots := 0, locals := 119 } : Room) s m args below meth c H locs 0 0 (MQ below (va_Qi (fun r1 u => r1 = r0 ∧ u = h0) (zB A D cy) A) args s 0 0 A) (F0 m 86 ls [.int w0]) := by
  obtain ⟨hx, hb, hts, hown, hK9, hml, hN9, hA9⟩ := id X
  unfold fX11_deliver_86 at h
  refine lv_istore (lv' := [(4, .int w0), (0, .ref o), (1, .int v1), (2, .int v2), (3, .int v3)]) hx hb dX11_deliver_86 hl (by decide) rfl (fun ls hl => ?_)
  refine lv_aload_n hx hb dX11_deliver_88 rfl (lv_at hl 1 rfl) ?_
  replace h := b1_some h
  obtain ⟨x1, gx1, h⟩ := h
  refine z_getI X hW gx1 kX11 (by decide) (by decide) kf_X11_199 dX11_deliver_89 ?_
  refine lv_aload_n hx hb dX11_deliver_92 rfl (lv_at hl 1 rfl) ?_
  refine lv_iload_n hx hb dX11_deliver_93 rfl (lv_at hl 2 rfl) ?_
  replace h := b1_some h
  obtain ⟨q2, gq2, h⟩ := h
  replace h := b2_some h
  obtain ⟨x3, s4, gs4, h⟩ := h
  refine z_callVi (rest := [.int x1]) X hW hS (cX11_sends_met gs4) kb_X11_sends kv_X11_sends kl_X11_218 (it_v gq2).1 kX11 rfl rfl ⟨Nat.le_of_ble_eq_true rfl, Nat.le_of_ble_eq_true rfl⟩ rfl rfl (Nat.le_of_ble_eq_true rfl) hl.1 dX11_deliver_94 ⟨(by decide), (by decide)⟩ (fun H locs hW hS => ?_)
  refine lv_iadd hx hb dX11_deliver_97 ?_
  refine lv_sipush (v := 600) hx hb dX11_deliver_98 (by decide) ?_
  refine lv_icmp_gt (tgt := 119) hx hb dX11_deliver_101 (by decide) (fun c5 => ?_) (fun c5 => ?_)
  · replace h := it_t h c5
    exact wX11_deliver_119 X hlk hr o _ _ _ _ (lv_sub hl [1] rfl) hW hS h
  · replace h := it_f h c5
    refine lv_iload hx hb dX11_deliver_104 (lv_at hl 0 rfl) ?_
    refine lv_if_eq (tgt := 126) hx hb dX11_deliver_106 (by decide) (fun c6 => ?_) (fun c6 => ?_)
    · replace h := it_t h c6
      exact wX11_deliver_126 X hlk hr o v1 v2 v3 _ _ _ _ (lv_sub hl [1, 2, 3, 4] rfl) hW hS h
    · replace h := it_f h c6
      refine lv_aload_n hx hb dX11_deliver_109 rfl (lv_at hl 1 rfl) ?_
      replace h := b1_some h
      obtain ⟨x7, gx7, h⟩ := h
      refine z_getI X hW gx7 kX11 (by decide) (by decide) kf_X11_145 dX11_deliver_110 ?_
      refine lv_sipush (v := 300) hx hb dX11_deliver_113 (by decide) ?_
      refine lv_icmp_ne (tgt := 126) hx hb dX11_deliver_116 (by decide) (fun c8 => ?_) (fun c8 => ?_)
      · replace h := it_f h c8
        exact wX11_deliver_126 X hlk hr o v1 v2 v3 _ _ _ _ (lv_sub hl [1, 2, 3, 4] rfl) hW hS h
      · replace h := it_t h c8
        exact wX11_deliver_119 X hlk hr o _ _ _ _ (lv_sub hl [1] rfl) hW hS h

def fX11_deliver_85 (o : Nat) (v1 : Int32) (v2 : Int32) (v3 : Int32) (h : Hz) : Option (Int32 × Hz) := fX11_deliver_86 o v1 v2 v3 0 h
set_option maxHeartbeats 4000000 in
set_option maxRecDepth 100000 in
theorem wX11_deliver_85 {r0 : Int32} {h0 : Hz} (X : zX A D cy p s m args c cX11_deliver RX11 5) (hlk : meth.locks = false) (hr : meth.sig.returnType = (some .int)) (o : Nat) (v1 : Int32) (v2 : Int32) (v3 : Int32) (h : Hz) (H : Heap) (locs : List Loc) (ls : Array Slot) (hl : lv_has ls 5 [(0, .ref o), (1, .int v1), (2, .int v2), (3, .int v3)]) (hW : zW A cy D h H) (hS : va_S A s.heap H locs) (h : fX11_deliver_85 o v1 v2 v3 h = some (r0, h0)) : W p l e ({ frames := 5, cells := 0, slots := 0, locals := 119 } : Room) s m args below meth c H locs 0 0 (MQ below (va_Qi (fun r1 u => r1 = r0 ∧ u = h0) (zB A D cy) A) args s 0 0 A) (F0 m 85 ls []) := by
  obtain ⟨hx, hb, hts, hown, hK9, hml, hN9, hA9⟩ := id X
  unfold fX11_deliver_85 at h
  refine lv_iconst (v := 0) hx hb dX11_deliver_85 (by decide) ?_
  exact wX11_deliver_86 X hlk hr o v1 v2 v3 0 _ _ _ _ (lv_sub hl [0, 1, 2, 3] rfl) hW hS h

def fX11_deliver (o : Nat) (v1 : Int32) (h : Hz) : Option (Int32 × Hz) := (b1 (gI 11 24 o h) fun x1 => (b2 (fX11_isIn v1 x1 h) fun x2 s3 => (if x2 = 0 then (b1 (tg 11 o s3) fun _ => (b2 (fX11_refuse o (-1) s3) fun x25 s26 => some (x25, s26))) else (b1 (gA 11 23 o s3) fun a5 => (b1 (xI 14 a5 v1 s3) fun x6 => (if x6 = 0 then (b1 (gI 11 25 o s3) fun x22 => (b1 (pI 11 25 o (x22 + 1) s3) fun s23 => some (0, s23))) else (b1 (gA 11 17 o s3) fun a8 => (b1 (xI 12 a8 v1 s3) fun x9 => (b1 (gA 11 15 o s3) fun a10 => (b1 (xI 12 a10 v1 s3) fun x11 => (b1 (gA 11 14 o s3) fun a12 => (b1 (xI 12 a12 v1 s3) fun x13 => (if x13 = 0 then (b1 (gA 11 1 o s3) fun a15 => (b1 (xI 12 a15 x9 s3) fun x16 => (if x16 = x11 then fX11_deliver_85 o v1 x9 x11 s3 else (b1 (tg 11 o s3) fun _ => (b2 (fX11_gateOf o x11 x9 s3) fun x19 s20 => (if x19 = (-1) then fX11_deliver_86 o v1 x9 x11 1 s20 else fX11_deliver_85 o v1 x9 x11 s20)))))) else fX11_deliver_85 o v1 x9 x11 s3)))))))))))))
set_option maxHeartbeats 4000000 in
set_option maxRecDepth 100000 in
theorem wX11_deliver_0 {r0 : Int32} {h0 : Hz} (X : zX A D cy p s m args c cX11_deliver RX11 5) (hlk : meth.locks = false) (hr : meth.sig.returnType = (some .int)) (o : Nat) (v1 : Int32) (h : Hz) (H : Heap) (locs : List Loc) (ls : Array Slot) (hl : lv_has ls 5 [(0, .ref o), (1, .int v1)]) (hW : zW A cy D h H) (hS : va_S A s.heap H locs) (h : fX11_deliver o v1 h = some (r0, h0)) : W p l e ({ frames := 5, cells := 0, slots := 0, locals := 119 } : Room) s m args below meth c H locs 0 0 (MQ below (va_Qi (fun r1 u => r1 = r0 ∧ u = h0) (zB A D cy) A) args s 0 0 A) (F0 m 0 ls []) := by
  obtain ⟨hx, hb, hts, hown, hK9, hml, hN9, hA9⟩ := id X
  unfold fX11_deliver at h
  refine lv_iload_n hx hb dX11_deliver_0 rfl (lv_at hl 1 rfl) ?_
  refine lv_aload_n hx hb dX11_deliver_1 rfl (lv_at hl 0 rfl) ?_
  replace h := b1_some h
  obtain ⟨x1, gx1, h⟩ := h
  refine z_getI X hW gx1 kX11 (by decide) (by decide) kf_X11_199 dX11_deliver_2 ?_
  replace h := b2_some h
  obtain ⟨x2, s3, gs3, h⟩ := h
  refine z_callSi (rest := []) X hW hS (cX11_isIn_met gs3) kb_X11_isIn ks_X11_isIn kl_X11_149 rfl rfl ⟨Nat.le_of_ble_eq_true rfl, Nat.le_of_ble_eq_true rfl⟩ rfl rfl (by decide) hl.1 dX11_deliver_5 ⟨(by decide), (by decide)⟩ (fun H locs hW hS => ?_)
  refine lv_if_ne (tgt := 17) hx hb dX11_deliver_8 (by decide) (fun c4 => ?_) (fun c4 => ?_)
  · replace h := it_f h c4
    refine lv_aload_n hx hb dX11_deliver_17 rfl (lv_at hl 0 rfl) ?_
    replace h := b1_some h
    obtain ⟨a5, ga5, h⟩ := h
    refine z_getA X hW ga5 kX11 (by decide) (by decide) kf_X11_79 dX11_deliver_18 ?_
    refine lv_iload_n hx hb dX11_deliver_21 rfl (lv_at hl 1 rfl) ?_
    replace h := b1_some h
    obtain ⟨x6, gx6, h⟩ := h
    refine z_aldZ X hW gx6 dX11_deliver_22 ?_
    refine lv_if_ne (tgt := 38) hx hb dX11_deliver_23 (by decide) (fun c7 => ?_) (fun c7 => ?_)
    · replace h := it_f h c7
      refine lv_aload_n hx hb dX11_deliver_38 rfl (lv_at hl 0 rfl) ?_
      replace h := b1_some h
      obtain ⟨a8, ga8, h⟩ := h
      refine z_getA X hW ga8 kX11 (by decide) (by decide) kf_X11_61 dX11_deliver_39 ?_
      refine lv_iload_n hx hb dX11_deliver_42 rfl (lv_at hl 1 rfl) ?_
      replace h := b1_some h
      obtain ⟨x9, gx9, h⟩ := h
      refine z_aldI X hW gx9 dX11_deliver_43 ?_
      refine lv_istore_n (lv' := [(2, .int x9), (0, .ref o), (1, .int v1)]) hx hb dX11_deliver_44 rfl hl (by decide) rfl (fun ls hl => ?_)
      refine lv_aload_n hx hb dX11_deliver_45 rfl (lv_at hl 1 rfl) ?_
      replace h := b1_some h
      obtain ⟨a10, ga10, h⟩ := h
      refine z_getA X hW ga10 kX11 (by decide) (by decide) kf_X11_55 dX11_deliver_46 ?_
      refine lv_iload_n hx hb dX11_deliver_49 rfl (lv_at hl 2 rfl) ?_
      replace h := b1_some h
      obtain ⟨x11, gx11, h⟩ := h
      refine z_aldI X hW gx11 dX11_deliver_50 ?_
      refine lv_istore_n (lv' := [(3, .int x11), (2, .int x9), (0, .ref o), (1, .int v1)]) hx hb dX11_deliver_51 rfl hl (by decide) rfl (fun ls hl => ?_)
      refine lv_aload_n hx hb dX11_deliver_52 rfl (lv_at hl 2 rfl) ?_
      replace h := b1_some h
      obtain ⟨a12, ga12, h⟩ := h
      refine z_getA X hW ga12 kX11 (by decide) (by decide) kf_X11_52 dX11_deliver_53 ?_
      refine lv_iload_n hx hb dX11_deliver_56 rfl (lv_at hl 3 rfl) ?_
      replace h := b1_some h
      obtain ⟨x13, gx13, h⟩ := h
      refine z_aldI X hW gx13 dX11_deliver_57 ?_
      refine lv_if_ne (tgt := 85) hx hb dX11_deliver_58 (by decide) (fun c14 => ?_) (fun c14 => ?_)
      · replace h := it_f h c14
        exact wX11_deliver_85 X hlk hr o v1 x9 x11 _ _ _ _ (lv_sub hl [2, 3, 1, 0] rfl) hW hS h
      · replace h := it_t h c14
        refine lv_aload_n hx hb dX11_deliver_61 rfl (lv_at hl 2 rfl) ?_
        replace h := b1_some h
        obtain ⟨a15, ga15, h⟩ := h
        refine z_getA X hW ga15 kX11 (by decide) (by decide) kf_X11_13 dX11_deliver_62 ?_
        refine lv_iload_n hx hb dX11_deliver_65 rfl (lv_at hl 1 rfl) ?_
        replace h := b1_some h
        obtain ⟨x16, gx16, h⟩ := h
        refine z_aldI X hW gx16 dX11_deliver_66 ?_
        refine lv_iload_n hx hb dX11_deliver_67 rfl (lv_at hl 0 rfl) ?_
        refine lv_icmp_eq (tgt := 85) hx hb dX11_deliver_68 (by decide) (fun c17 => ?_) (fun c17 => ?_)
        · replace h := it_t h c17
          exact wX11_deliver_85 X hlk hr o v1 x9 x11 _ _ _ _ (lv_sub hl [2, 3, 1, 0] rfl) hW hS h
        · replace h := it_f h c17
          refine lv_aload_n hx hb dX11_deliver_71 rfl (lv_at hl 2 rfl) ?_
          refine lv_iload_n hx hb dX11_deliver_72 rfl (lv_at hl 0 rfl) ?_
          refine lv_iload_n hx hb dX11_deliver_73 rfl (lv_at hl 1 rfl) ?_
          replace h := b1_some h
          obtain ⟨q18, gq18, h⟩ := h
          replace h := b2_some h
          obtain ⟨x19, s20, gs20, h⟩ := h
          refine z_callVi (rest := []) X hW hS (cX11_gateOf_met gs20) kb_X11_gateOf kv_X11_gateOf kl_X11_196 (it_v gq18).1 kX11 rfl rfl ⟨Nat.le_of_ble_eq_true rfl, Nat.le_of_ble_eq_true rfl⟩ rfl rfl (by decide) hl.1 dX11_deliver_74 ⟨(by decide), (by decide)⟩ (fun H locs hW hS => ?_)
          refine lv_iconst (v := (-1)) hx hb dX11_deliver_77 (by decide) ?_
          refine lv_icmp_ne (tgt := 85) hx hb dX11_deliver_78 (by decide) (fun c21 => ?_) (fun c21 => ?_)
          · replace h := it_f h c21
            exact wX11_deliver_85 X hlk hr o v1 x9 x11 _ _ _ _ (lv_sub hl [2, 3, 1, 0] rfl) hW hS h
          · replace h := it_t h c21
            refine lv_iconst (v := 1) hx hb dX11_deliver_81 (by decide) ?_
            refine lv_goto (tgt := 86) hx hb dX11_deliver_82 (by decide) ?_
            exact wX11_deliver_86 X hlk hr o v1 x9 x11 1 _ _ _ _ (lv_sub hl [2, 3, 1, 0] rfl) hW hS h
    · replace h := it_t h c7
      refine lv_aload_n hx hb dX11_deliver_26 rfl (lv_at hl 0 rfl) ?_
      refine lv_dup hx hb dX11_deliver_27 rfl ?_
      replace h := b1_some h
      obtain ⟨x22, gx22, h⟩ := h
      refine z_getI X hW gx22 kX11 (by decide) (by decide) kf_X11_215 dX11_deliver_28 ?_
      refine lv_iconst (v := 1) hx hb dX11_deliver_31 (by decide) ?_
      refine lv_iadd hx hb dX11_deliver_32 ?_
      replace h := b1_some h
      obtain ⟨s23, gs23, h⟩ := h
      refine z_putI X hW hS gs23 kX11 (by decide) (by decide) rfl (Or.inl rfl) kf_X11_215 dX11_deliver_33 (fun H locs hW hS => ?_)
      refine lv_iconst (v := 0) hx hb dX11_deliver_36 (by decide) ?_
      exact z_eti X hlk hr hW hS h (by decide) (by decide) dX11_deliver_37
  · replace h := it_t h c4
    refine lv_aload_n hx hb dX11_deliver_11 rfl (lv_at hl 0 rfl) ?_
    refine lv_iconst (v := (-1)) hx hb dX11_deliver_12 (by decide) ?_
    replace h := b1_some h
    obtain ⟨q24, gq24, h⟩ := h
    replace h := b2_some h
    obtain ⟨x25, s26, gs26, h⟩ := h
    refine z_callVi (rest := []) X hW hS (cX11_refuse_met gs26) kb_X11_refuse kv_X11_refuse kl_X11_170 (it_v gq24).1 kX11 rfl rfl ⟨Nat.le_of_ble_eq_true rfl, Nat.le_of_ble_eq_true rfl⟩ rfl rfl (by decide) hl.1 dX11_deliver_13 ⟨(by decide), (by decide)⟩ (fun H locs hW hS => ?_)
    exact z_eti X hlk hr hW hS h (by decide) (by decide) dX11_deliver_16

set_option maxHeartbeats 4000000 in
set_option maxRecDepth 100000 in
theorem cX11_deliver_met {l : Launch} {A : Nat → Prop} {D : va_G} {cy : Nat → ClassId} {r0 : Int32} {h0 : Hz} {o : Nat} {v1 : Int32} {h : Hz} (g : fX11_deliver o v1 h = some (r0, h0)) : Met l yX11_deliver (Cond.code yX11_deliver cX11_deliver 5 (some .int) :: wT) ({ frames := 5, cells := 0, slots := 0, locals := 119 } : Room) (va_Pc [.ref o, .int v1] (zS A D cy h)) (va_Qi (fun r1 u => r1 = r0 ∧ u = h0) (zB A D cy) A) 0 0 A := by
  refine Met.ofW (cc := cX11_deliver) (maxL := 5) (ret := (some .int)) (by decide) rfl ?_
  intro p e s m args below meth c s₁ B hml hv
  obtain ⟨rfl, hW, hK, hN, hA⟩ := hv
  have X : zX A D cy p s m _ c cX11_deliver RX11 5 := ⟨B.exec, B.bytes, fun w hw => atoms_spec (ws := Cond.code yX11_deliver cX11_deliver 5 (some .int) :: wT) B.pre w (List.mem_cons_of_mem _ hw), findClass_of_methodNamed B.named, hK, hml, hN, hA⟩
  have hl := lv_entry [.ref o, .int v1] (n := 5) (Nat.le_of_ble_eq_true rfl)
  rw [lg_entry_eq]
  generalize (lg_sl [.ref o, .int v1] ++ List.replicate (5 - (lg_sl [.ref o, .int v1]).length) Slot.unset).toArray = ls at hl ⊢
  have hl : lv_has ls 5 [(0, .ref o), (1, .int v1)] := hl
  exact wX11_deliver_0 X B.notSynchronized B.returns o v1 _ _ _ _ (lv_sub hl [0, 1] rfl) hW va_S.rf g

theorem dX11_letter__0 : decode cX11_letter_ 0 = .ok (.iload_n 1, 1) := by decide +kernel
theorem dX11_letter__1 : decode cX11_letter_ 1 = .ok (.aload_n 0, 1) := by decide +kernel
theorem dX11_letter__2 : decode cX11_letter_ 2 = .ok (.getfield 199, 3) := by decide +kernel
theorem dX11_letter__5 : decode cX11_letter_ 5 = .ok (.invokestatic 149, 3) := by decide +kernel
theorem dX11_letter__8 : decode cX11_letter_ 8 = .ok (.ifCond .ne 5, 3) := by decide +kernel
theorem dX11_letter__11 : decode cX11_letter_ 11 = .ok (.iconst (-1), 1) := by decide +kernel
theorem dX11_letter__12 : decode cX11_letter_ 12 = .ok (.ireturn, 1) := by decide +kernel
theorem dX11_letter__13 : decode cX11_letter_ 13 = .ok (.iload_n 2, 1) := by decide +kernel
theorem dX11_letter__14 : decode cX11_letter_ 14 = .ok (.tableswitch 132 0 9 #[54, 61, 76, 83, 90, 97, 104, 111, 118, 125], 54) := by decide +kernel
theorem dX11_letter__68 : decode cX11_letter_ 68 = .ok (.aload_n 0, 1) := by decide +kernel
theorem dX11_letter__69 : decode cX11_letter_ 69 = .ok (.getfield 52, 3) := by decide +kernel
theorem dX11_letter__72 : decode cX11_letter_ 72 = .ok (.iload_n 1, 1) := by decide +kernel
theorem dX11_letter__73 : decode cX11_letter_ 73 = .ok (.iaload, 1) := by decide +kernel
theorem dX11_letter__74 : decode cX11_letter_ 74 = .ok (.ireturn, 1) := by decide +kernel
theorem dX11_letter__75 : decode cX11_letter_ 75 = .ok (.aload_n 0, 1) := by decide +kernel
theorem dX11_letter__76 : decode cX11_letter_ 76 = .ok (.getfield 79, 3) := by decide +kernel
theorem dX11_letter__79 : decode cX11_letter_ 79 = .ok (.iload_n 1, 1) := by decide +kernel
theorem dX11_letter__80 : decode cX11_letter_ 80 = .ok (.baload, 1) := by decide +kernel
theorem dX11_letter__81 : decode cX11_letter_ 81 = .ok (.ifCond .eq 7, 3) := by decide +kernel
theorem dX11_letter__84 : decode cX11_letter_ 84 = .ok (.iconst 1, 1) := by decide +kernel
theorem dX11_letter__85 : decode cX11_letter_ 85 = .ok (.goto 4, 3) := by decide +kernel
theorem dX11_letter__88 : decode cX11_letter_ 88 = .ok (.iconst 0, 1) := by decide +kernel
theorem dX11_letter__89 : decode cX11_letter_ 89 = .ok (.ireturn, 1) := by decide +kernel
theorem dX11_letter__90 : decode cX11_letter_ 90 = .ok (.aload_n 0, 1) := by decide +kernel
theorem dX11_letter__91 : decode cX11_letter_ 91 = .ok (.getfield 55, 3) := by decide +kernel
theorem dX11_letter__94 : decode cX11_letter_ 94 = .ok (.iload_n 1, 1) := by decide +kernel
theorem dX11_letter__95 : decode cX11_letter_ 95 = .ok (.iaload, 1) := by decide +kernel
theorem dX11_letter__96 : decode cX11_letter_ 96 = .ok (.ireturn, 1) := by decide +kernel
theorem dX11_letter__97 : decode cX11_letter_ 97 = .ok (.aload_n 0, 1) := by decide +kernel
theorem dX11_letter__98 : decode cX11_letter_ 98 = .ok (.getfield 58, 3) := by decide +kernel
theorem dX11_letter__101 : decode cX11_letter_ 101 = .ok (.iload_n 1, 1) := by decide +kernel
theorem dX11_letter__102 : decode cX11_letter_ 102 = .ok (.iaload, 1) := by decide +kernel
theorem dX11_letter__103 : decode cX11_letter_ 103 = .ok (.ireturn, 1) := by decide +kernel
theorem dX11_letter__104 : decode cX11_letter_ 104 = .ok (.aload_n 0, 1) := by decide +kernel
theorem dX11_letter__105 : decode cX11_letter_ 105 = .ok (.getfield 61, 3) := by decide +kernel
theorem dX11_letter__108 : decode cX11_letter_ 108 = .ok (.iload_n 1, 1) := by decide +kernel
theorem dX11_letter__109 : decode cX11_letter_ 109 = .ok (.iaload, 1) := by decide +kernel
theorem dX11_letter__110 : decode cX11_letter_ 110 = .ok (.ireturn, 1) := by decide +kernel
theorem dX11_letter__111 : decode cX11_letter_ 111 = .ok (.aload_n 0, 1) := by decide +kernel
theorem dX11_letter__112 : decode cX11_letter_ 112 = .ok (.getfield 64, 3) := by decide +kernel
theorem dX11_letter__115 : decode cX11_letter_ 115 = .ok (.iload_n 1, 1) := by decide +kernel
theorem dX11_letter__116 : decode cX11_letter_ 116 = .ok (.iaload, 1) := by decide +kernel
theorem dX11_letter__117 : decode cX11_letter_ 117 = .ok (.ireturn, 1) := by decide +kernel
theorem dX11_letter__118 : decode cX11_letter_ 118 = .ok (.aload_n 0, 1) := by decide +kernel
theorem dX11_letter__119 : decode cX11_letter_ 119 = .ok (.getfield 67, 3) := by decide +kernel
theorem dX11_letter__122 : decode cX11_letter_ 122 = .ok (.iload_n 1, 1) := by decide +kernel
theorem dX11_letter__123 : decode cX11_letter_ 123 = .ok (.iaload, 1) := by decide +kernel
theorem dX11_letter__124 : decode cX11_letter_ 124 = .ok (.ireturn, 1) := by decide +kernel
theorem dX11_letter__125 : decode cX11_letter_ 125 = .ok (.aload_n 0, 1) := by decide +kernel
theorem dX11_letter__126 : decode cX11_letter_ 126 = .ok (.getfield 70, 3) := by decide +kernel
theorem dX11_letter__129 : decode cX11_letter_ 129 = .ok (.iload_n 1, 1) := by decide +kernel
theorem dX11_letter__130 : decode cX11_letter_ 130 = .ok (.iaload, 1) := by decide +kernel
theorem dX11_letter__131 : decode cX11_letter_ 131 = .ok (.ireturn, 1) := by decide +kernel
theorem dX11_letter__132 : decode cX11_letter_ 132 = .ok (.aload_n 0, 1) := by decide +kernel
theorem dX11_letter__133 : decode cX11_letter_ 133 = .ok (.getfield 73, 3) := by decide +kernel
theorem dX11_letter__136 : decode cX11_letter_ 136 = .ok (.iload_n 1, 1) := by decide +kernel
theorem dX11_letter__137 : decode cX11_letter_ 137 = .ok (.iaload, 1) := by decide +kernel
theorem dX11_letter__138 : decode cX11_letter_ 138 = .ok (.ireturn, 1) := by decide +kernel
theorem dX11_letter__139 : decode cX11_letter_ 139 = .ok (.aload_n 0, 1) := by decide +kernel
theorem dX11_letter__140 : decode cX11_letter_ 140 = .ok (.getfield 76, 3) := by decide +kernel
theorem dX11_letter__143 : decode cX11_letter_ 143 = .ok (.iload_n 1, 1) := by decide +kernel
theorem dX11_letter__144 : decode cX11_letter_ 144 = .ok (.iaload, 1) := by decide +kernel
theorem dX11_letter__145 : decode cX11_letter_ 145 = .ok (.ireturn, 1) := by decide +kernel
theorem dX11_letter__146 : decode cX11_letter_ 146 = .ok (.iconst (-1), 1) := by decide +kernel
theorem dX11_letter__147 : decode cX11_letter_ 147 = .ok (.ireturn, 1) := by decide +kernel
def fX11_letter_ (o : Nat) (v1 : Int32) (v2 : Int32) (h : Hz) : Option (Int32 × Hz) := (b1 (gI 11 24 o h) fun x1 => (b2 (fX11_isIn v1 x1 h) fun x2 s3 => (if x2 = 0 then some ((-1), s3) else (if v2 = 0 then (b1 (gA 11 14 o s3) fun a6 => (b1 (xI 12 a6 v1 s3) fun x7 => some (x7, s3))) else (if v2 = 1 then (b1 (gA 11 23 o s3) fun a9 => (b1 (xI 14 a9 v1 s3) fun x10 => (if x10 = 0 then some (0, s3) else some (1, s3)))) else (if v2 = 2 then (b1 (gA 11 15 o s3) fun a13 => (b1 (xI 12 a13 v1 s3) fun x14 => some (x14, s3))) else (if v2 = 3 then (b1 (gA 11 16 o s3) fun a16 => (b1 (xI 12 a16 v1 s3) fun x17 => some (x17, s3))) else (if v2 = 4 then (b1 (gA 11 17 o s3) fun a19 => (b1 (xI 12 a19 v1 s3) fun x20 => some (x20, s3))) else (if v2 = 5 then (b1 (gA 11 18 o s3) fun a22 => (b1 (xI 12 a22 v1 s3) fun x23 => some (x23, s3))) else (if v2 = 6 then (b1 (gA 11 19 o s3) fun a25 => (b1 (xI 12 a25 v1 s3) fun x26 => some (x26, s3))) else (if v2 = 7 then (b1 (gA 11 20 o s3) fun a28 => (b1 (xI 12 a28 v1 s3) fun x29 => some (x29, s3))) else (if v2 = 8 then (b1 (gA 11 21 o s3) fun a31 => (b1 (xI 12 a31 v1 s3) fun x32 => some (x32, s3))) else (if v2 = 9 then (b1 (gA 11 22 o s3) fun a34 => (b1 (xI 12 a34 v1 s3) fun x35 => some (x35, s3))) else some ((-1), s3))))))))))))))
set_option maxHeartbeats 4000000 in
set_option maxRecDepth 100000 in
theorem wX11_letter__0 {r0 : Int32} {h0 : Hz} (X : zX A D cy p s m args c cX11_letter_ RX11 3) (hlk : meth.locks = false) (hr : meth.sig.returnType = (some .int)) (o : Nat) (v1 : Int32) (v2 : Int32) (h : Hz) (H : Heap) (locs : List Loc) (ls : Array Slot) (hl : lv_has ls 3 [(0, .ref o), (1, .int v1), (2, .int v2)]) (hW : zW A cy D h H) (hS : va_S A s.heap H locs) (h : fX11_letter_ o v1 v2 h = some (r0, h0)) : W p l e ({ frames := 1, cells := 0, slots := 0, locals := 21 } : Room) s m args below meth c H locs 0 0 (MQ below (va_Qi (fun r1 u => r1 = r0 ∧ u = h0) (zB A D cy) A) args s 0 0 A) (F0 m 0 ls []) := by
  obtain ⟨hx, hb, hts, hown, hK9, hml, hN9, hA9⟩ := id X
  unfold fX11_letter_ at h
  refine lv_iload_n hx hb dX11_letter__0 rfl (lv_at hl 1 rfl) ?_
  refine lv_aload_n hx hb dX11_letter__1 rfl (lv_at hl 0 rfl) ?_
  replace h := b1_some h
  obtain ⟨x1, gx1, h⟩ := h
  refine z_getI X hW gx1 kX11 (by decide) (by decide) kf_X11_199 dX11_letter__2 ?_
  replace h := b2_some h
  obtain ⟨x2, s3, gs3, h⟩ := h
  refine z_callSi (rest := []) X hW hS (cX11_isIn_met gs3) kb_X11_isIn ks_X11_isIn kl_X11_149 rfl rfl ⟨Nat.le_of_ble_eq_true rfl, Nat.le_of_ble_eq_true rfl⟩ rfl rfl (by decide) hl.1 dX11_letter__5 ⟨(by decide), (by decide)⟩ (fun H locs hW hS => ?_)
  refine lv_if_ne (tgt := 13) hx hb dX11_letter__8 (by decide) (fun c4 => ?_) (fun c4 => ?_)
  · replace h := it_f h c4
    refine lv_iload_n hx hb dX11_letter__13 rfl (lv_at hl 2 rfl) ?_
    by_cases c5 : v2 = 0
    · replace h := it_t h c5
      refine lv_tableIn (off := 54) (tgt := 68) hx hb dX11_letter__14 (by rw [c5]; decide) (by rw [c5]; decide) (by rw [c5]; rfl) (by decide) ?_
      refine lv_aload_n hx hb dX11_letter__68 rfl (lv_at hl 0 rfl) ?_
      replace h := b1_some h
      obtain ⟨a6, ga6, h⟩ := h
      refine z_getA X hW ga6 kX11 (by decide) (by decide) kf_X11_52 dX11_letter__69 ?_
      refine lv_iload_n hx hb dX11_letter__72 rfl (lv_at hl 1 rfl) ?_
      replace h := b1_some h
      obtain ⟨x7, gx7, h⟩ := h
      refine z_aldI X hW gx7 dX11_letter__73 ?_
      exact z_eti X hlk hr hW hS h (by decide) (by decide) dX11_letter__74
    · replace h := it_f h c5
      by_cases c8 : v2 = 1
      · replace h := it_t h c8
        refine lv_tableIn (off := 61) (tgt := 75) hx hb dX11_letter__14 (by rw [c8]; decide) (by rw [c8]; decide) (by rw [c8]; rfl) (by decide) ?_
        refine lv_aload_n hx hb dX11_letter__75 rfl (lv_at hl 0 rfl) ?_
        replace h := b1_some h
        obtain ⟨a9, ga9, h⟩ := h
        refine z_getA X hW ga9 kX11 (by decide) (by decide) kf_X11_79 dX11_letter__76 ?_
        refine lv_iload_n hx hb dX11_letter__79 rfl (lv_at hl 1 rfl) ?_
        replace h := b1_some h
        obtain ⟨x10, gx10, h⟩ := h
        refine z_aldZ X hW gx10 dX11_letter__80 ?_
        refine lv_if_eq (tgt := 88) hx hb dX11_letter__81 (by decide) (fun c11 => ?_) (fun c11 => ?_)
        · replace h := it_t h c11
          refine lv_iconst (v := 0) hx hb dX11_letter__88 (by decide) ?_
          exact z_eti X hlk hr hW hS h (by decide) (by decide) dX11_letter__89
        · replace h := it_f h c11
          refine lv_iconst (v := 1) hx hb dX11_letter__84 (by decide) ?_
          refine lv_goto (tgt := 89) hx hb dX11_letter__85 (by decide) ?_
          exact z_eti X hlk hr hW hS h (by decide) (by decide) dX11_letter__89
      · replace h := it_f h c8
        by_cases c12 : v2 = 2
        · replace h := it_t h c12
          refine lv_tableIn (off := 76) (tgt := 90) hx hb dX11_letter__14 (by rw [c12]; decide) (by rw [c12]; decide) (by rw [c12]; rfl) (by decide) ?_
          refine lv_aload_n hx hb dX11_letter__90 rfl (lv_at hl 0 rfl) ?_
          replace h := b1_some h
          obtain ⟨a13, ga13, h⟩ := h
          refine z_getA X hW ga13 kX11 (by decide) (by decide) kf_X11_55 dX11_letter__91 ?_
          refine lv_iload_n hx hb dX11_letter__94 rfl (lv_at hl 1 rfl) ?_
          replace h := b1_some h
          obtain ⟨x14, gx14, h⟩ := h
          refine z_aldI X hW gx14 dX11_letter__95 ?_
          exact z_eti X hlk hr hW hS h (by decide) (by decide) dX11_letter__96
        · replace h := it_f h c12
          by_cases c15 : v2 = 3
          · replace h := it_t h c15
            refine lv_tableIn (off := 83) (tgt := 97) hx hb dX11_letter__14 (by rw [c15]; decide) (by rw [c15]; decide) (by rw [c15]; rfl) (by decide) ?_
            refine lv_aload_n hx hb dX11_letter__97 rfl (lv_at hl 0 rfl) ?_
            replace h := b1_some h
            obtain ⟨a16, ga16, h⟩ := h
            refine z_getA X hW ga16 kX11 (by decide) (by decide) kf_X11_58 dX11_letter__98 ?_
            refine lv_iload_n hx hb dX11_letter__101 rfl (lv_at hl 1 rfl) ?_
            replace h := b1_some h
            obtain ⟨x17, gx17, h⟩ := h
            refine z_aldI X hW gx17 dX11_letter__102 ?_
            exact z_eti X hlk hr hW hS h (by decide) (by decide) dX11_letter__103
          · replace h := it_f h c15
            by_cases c18 : v2 = 4
            · replace h := it_t h c18
              refine lv_tableIn (off := 90) (tgt := 104) hx hb dX11_letter__14 (by rw [c18]; decide) (by rw [c18]; decide) (by rw [c18]; rfl) (by decide) ?_
              refine lv_aload_n hx hb dX11_letter__104 rfl (lv_at hl 0 rfl) ?_
              replace h := b1_some h
              obtain ⟨a19, ga19, h⟩ := h
              refine z_getA X hW ga19 kX11 (by decide) (by decide) kf_X11_61 dX11_letter__105 ?_
              refine lv_iload_n hx hb dX11_letter__108 rfl (lv_at hl 1 rfl) ?_
              replace h := b1_some h
              obtain ⟨x20, gx20, h⟩ := h
              refine z_aldI X hW gx20 dX11_letter__109 ?_
              exact z_eti X hlk hr hW hS h (by decide) (by decide) dX11_letter__110
            · replace h := it_f h c18
              by_cases c21 : v2 = 5
              · replace h := it_t h c21
                refine lv_tableIn (off := 97) (tgt := 111) hx hb dX11_letter__14 (by rw [c21]; decide) (by rw [c21]; decide) (by rw [c21]; rfl) (by decide) ?_
                refine lv_aload_n hx hb dX11_letter__111 rfl (lv_at hl 0 rfl) ?_
                replace h := b1_some h
                obtain ⟨a22, ga22, h⟩ := h
                refine z_getA X hW ga22 kX11 (by decide) (by decide) kf_X11_64 dX11_letter__112 ?_
                refine lv_iload_n hx hb dX11_letter__115 rfl (lv_at hl 1 rfl) ?_
                replace h := b1_some h
                obtain ⟨x23, gx23, h⟩ := h
                refine z_aldI X hW gx23 dX11_letter__116 ?_
                exact z_eti X hlk hr hW hS h (by decide) (by decide) dX11_letter__117
              · replace h := it_f h c21
                by_cases c24 : v2 = 6
                · replace h := it_t h c24
                  refine lv_tableIn (off := 104) (tgt := 118) hx hb dX11_letter__14 (by rw [c24]; decide) (by rw [c24]; decide) (by rw [c24]; rfl) (by decide) ?_
                  refine lv_aload_n hx hb dX11_letter__118 rfl (lv_at hl 0 rfl) ?_
                  replace h := b1_some h
                  obtain ⟨a25, ga25, h⟩ := h
                  refine z_getA X hW ga25 kX11 (by decide) (by decide) kf_X11_67 dX11_letter__119 ?_
                  refine lv_iload_n hx hb dX11_letter__122 rfl (lv_at hl 1 rfl) ?_
                  replace h := b1_some h
                  obtain ⟨x26, gx26, h⟩ := h
                  refine z_aldI X hW gx26 dX11_letter__123 ?_
                  exact z_eti X hlk hr hW hS h (by decide) (by decide) dX11_letter__124
                · replace h := it_f h c24
                  by_cases c27 : v2 = 7
                  · replace h := it_t h c27
                    refine lv_tableIn (off := 111) (tgt := 125) hx hb dX11_letter__14 (by rw [c27]; decide) (by rw [c27]; decide) (by rw [c27]; rfl) (by decide) ?_
                    refine lv_aload_n hx hb dX11_letter__125 rfl (lv_at hl 0 rfl) ?_
                    replace h := b1_some h
                    obtain ⟨a28, ga28, h⟩ := h
                    refine z_getA X hW ga28 kX11 (by decide) (by decide) kf_X11_70 dX11_letter__126 ?_
                    refine lv_iload_n hx hb dX11_letter__129 rfl (lv_at hl 1 rfl) ?_
                    replace h := b1_some h
                    obtain ⟨x29, gx29, h⟩ := h
                    refine z_aldI X hW gx29 dX11_letter__130 ?_
                    exact z_eti X hlk hr hW hS h (by decide) (by decide) dX11_letter__131
                  · replace h := it_f h c27
                    by_cases c30 : v2 = 8
                    · replace h := it_t h c30
                      refine lv_tableIn (off := 118) (tgt := 132) hx hb dX11_letter__14 (by rw [c30]; decide) (by rw [c30]; decide) (by rw [c30]; rfl) (by decide) ?_
                      refine lv_aload_n hx hb dX11_letter__132 rfl (lv_at hl 0 rfl) ?_
                      replace h := b1_some h
                      obtain ⟨a31, ga31, h⟩ := h
                      refine z_getA X hW ga31 kX11 (by decide) (by decide) kf_X11_73 dX11_letter__133 ?_
                      refine lv_iload_n hx hb dX11_letter__136 rfl (lv_at hl 1 rfl) ?_
                      replace h := b1_some h
                      obtain ⟨x32, gx32, h⟩ := h
                      refine z_aldI X hW gx32 dX11_letter__137 ?_
                      exact z_eti X hlk hr hW hS h (by decide) (by decide) dX11_letter__138
                    · replace h := it_f h c30
                      by_cases c33 : v2 = 9
                      · replace h := it_t h c33
                        refine lv_tableIn (off := 125) (tgt := 139) hx hb dX11_letter__14 (by rw [c33]; decide) (by rw [c33]; decide) (by rw [c33]; rfl) (by decide) ?_
                        refine lv_aload_n hx hb dX11_letter__139 rfl (lv_at hl 0 rfl) ?_
                        replace h := b1_some h
                        obtain ⟨a34, ga34, h⟩ := h
                        refine z_getA X hW ga34 kX11 (by decide) (by decide) kf_X11_76 dX11_letter__140 ?_
                        refine lv_iload_n hx hb dX11_letter__143 rfl (lv_at hl 1 rfl) ?_
                        replace h := b1_some h
                        obtain ⟨x35, gx35, h⟩ := h
                        refine z_aldI X hW gx35 dX11_letter__144 ?_
                        exact z_eti X hlk hr hW hS h (by decide) (by decide) dX11_letter__145
                      · replace h := it_f h c33
                        have nc5 := lv_neT c5 (a := 0) rfl
                        have nc8 := lv_neT c8 (a := 1) rfl
                        have nc12 := lv_neT c12 (a := 2) rfl
                        have nc15 := lv_neT c15 (a := 3) rfl
                        have nc18 := lv_neT c18 (a := 4) rfl
                        have nc21 := lv_neT c21 (a := 5) rfl
                        have nc24 := lv_neT c24 (a := 6) rfl
                        have nc27 := lv_neT c27 (a := 7) rfl
                        have nc30 := lv_neT c30 (a := 8) rfl
                        have nc33 := lv_neT c33 (a := 9) rfl
                        refine lv_tableOut (tgt := 146) hx hb dX11_letter__14 (by omega) (by decide) ?_
                        refine lv_iconst (v := (-1)) hx hb dX11_letter__146 (by decide) ?_
                        exact z_eti X hlk hr hW hS h (by decide) (by decide) dX11_letter__147
  · replace h := it_t h c4
    refine lv_iconst (v := (-1)) hx hb dX11_letter__11 (by decide) ?_
    exact z_eti X hlk hr hW hS h (by decide) (by decide) dX11_letter__12

set_option maxHeartbeats 4000000 in
set_option maxRecDepth 100000 in
theorem cX11_letter__met {l : Launch} {A : Nat → Prop} {D : va_G} {cy : Nat → ClassId} {r0 : Int32} {h0 : Hz} {o : Nat} {v1 : Int32} {v2 : Int32} {h : Hz} (g : fX11_letter_ o v1 v2 h = some (r0, h0)) : Met l yX11_letter_ (Cond.code yX11_letter_ cX11_letter_ 3 (some .int) :: wT) ({ frames := 1, cells := 0, slots := 0, locals := 21 } : Room) (va_Pc [.ref o, .int v1, .int v2] (zS A D cy h)) (va_Qi (fun r1 u => r1 = r0 ∧ u = h0) (zB A D cy) A) 0 0 A := by
  refine Met.ofW (cc := cX11_letter_) (maxL := 3) (ret := (some .int)) (by decide) rfl ?_
  intro p e s m args below meth c s₁ B hml hv
  obtain ⟨rfl, hW, hK, hN, hA⟩ := hv
  have X : zX A D cy p s m _ c cX11_letter_ RX11 3 := ⟨B.exec, B.bytes, fun w hw => atoms_spec (ws := Cond.code yX11_letter_ cX11_letter_ 3 (some .int) :: wT) B.pre w (List.mem_cons_of_mem _ hw), findClass_of_methodNamed B.named, hK, hml, hN, hA⟩
  have hl := lv_entry [.ref o, .int v1, .int v2] (n := 3) (Nat.le_of_ble_eq_true rfl)
  rw [lg_entry_eq]
  generalize (lg_sl [.ref o, .int v1, .int v2] ++ List.replicate (3 - (lg_sl [.ref o, .int v1, .int v2]).length) Slot.unset).toArray = ls at hl ⊢
  have hl : lv_has ls 3 [(0, .ref o), (1, .int v1), (2, .int v2)] := hl
  exact wX11_letter__0 X B.notSynchronized B.returns o v1 v2 _ _ _ _ (lv_sub hl [0, 1, 2] rfl) hW va_S.rf g

theorem dX11_clean_0 : decode cX11_clean 0 = .ok (.iload_n 1, 1) := by decide +kernel
theorem dX11_clean_1 : decode cX11_clean 1 = .ok (.bipush 8, 2) := by decide +kernel
theorem dX11_clean_3 : decode cX11_clean 3 = .ok (.invokestatic 149, 3) := by decide +kernel
theorem dX11_clean_6 : decode cX11_clean 6 = .ok (.ifCond .ne 9, 3) := by decide +kernel
theorem dX11_clean_9 : decode cX11_clean 9 = .ok (.aload_n 0, 1) := by decide +kernel
theorem dX11_clean_10 : decode cX11_clean 10 = .ok (.iconst (-1), 1) := by decide +kernel
theorem dX11_clean_11 : decode cX11_clean 11 = .ok (.invokevirtual 170, 3) := by decide +kernel
theorem dX11_clean_14 : decode cX11_clean 14 = .ok (.ireturn, 1) := by decide +kernel
theorem dX11_clean_15 : decode cX11_clean 15 = .ok (.aload_n 0, 1) := by decide +kernel
theorem dX11_clean_16 : decode cX11_clean 16 = .ok (.invokevirtual 153, 3) := by decide +kernel
theorem dX11_clean_19 : decode cX11_clean 19 = .ok (.iconst 0, 1) := by decide +kernel
theorem dX11_clean_20 : decode cX11_clean 20 = .ok (.istore_n 2, 1) := by decide +kernel
theorem dX11_clean_21 : decode cX11_clean 21 = .ok (.iload_n 2, 1) := by decide +kernel
theorem dX11_clean_22 : decode cX11_clean 22 = .ok (.aload_n 0, 1) := by decide +kernel
theorem dX11_clean_23 : decode cX11_clean 23 = .ok (.getfield 145, 3) := by decide +kernel
theorem dX11_clean_26 : decode cX11_clean 26 = .ok (.if_icmp .ge 69, 3) := by decide +kernel
theorem dX11_clean_29 : decode cX11_clean 29 = .ok (.aload_n 0, 1) := by decide +kernel
theorem dX11_clean_30 : decode cX11_clean 30 = .ok (.getfield 13, 3) := by decide +kernel
theorem dX11_clean_33 : decode cX11_clean 33 = .ok (.iload_n 2, 1) := by decide +kernel
theorem dX11_clean_34 : decode cX11_clean 34 = .ok (.iaload, 1) := by decide +kernel
theorem dX11_clean_35 : decode cX11_clean 35 = .ok (.iload_n 1, 1) := by decide +kernel
theorem dX11_clean_36 : decode cX11_clean 36 = .ok (.if_icmp .ne 53, 3) := by decide +kernel
theorem dX11_clean_39 : decode cX11_clean 39 = .ok (.aload_n 0, 1) := by decide +kernel
theorem dX11_clean_40 : decode cX11_clean 40 = .ok (.getfield 31, 3) := by decide +kernel
theorem dX11_clean_43 : decode cX11_clean 43 = .ok (.iload_n 2, 1) := by decide +kernel
theorem dX11_clean_44 : decode cX11_clean 44 = .ok (.baload, 1) := by decide +kernel
theorem dX11_clean_45 : decode cX11_clean 45 = .ok (.ifCond .ne 44, 3) := by decide +kernel
theorem dX11_clean_48 : decode cX11_clean 48 = .ok (.aload_n 0, 1) := by decide +kernel
theorem dX11_clean_49 : decode cX11_clean 49 = .ok (.getfield 9, 3) := by decide +kernel
theorem dX11_clean_52 : decode cX11_clean 52 = .ok (.iload_n 2, 1) := by decide +kernel
theorem dX11_clean_53 : decode cX11_clean 53 = .ok (.iaload, 1) := by decide +kernel
theorem dX11_clean_54 : decode cX11_clean 54 = .ok (.iconst 2, 1) := by decide +kernel
theorem dX11_clean_55 : decode cX11_clean 55 = .ok (.if_icmp .eq 29, 3) := by decide +kernel
theorem dX11_clean_58 : decode cX11_clean 58 = .ok (.aload_n 0, 1) := by decide +kernel
theorem dX11_clean_59 : decode cX11_clean 59 = .ok (.iload_n 2, 1) := by decide +kernel
theorem dX11_clean_60 : decode cX11_clean 60 = .ok (.invokevirtual 237, 3) := by decide +kernel
theorem dX11_clean_63 : decode cX11_clean 63 = .ok (.ifCond .ne 21, 3) := by decide +kernel
theorem dX11_clean_66 : decode cX11_clean 66 = .ok (.aload_n 0, 1) := by decide +kernel
theorem dX11_clean_67 : decode cX11_clean 67 = .ok (.getfield 9, 3) := by decide +kernel
theorem dX11_clean_70 : decode cX11_clean 70 = .ok (.iload_n 2, 1) := by decide +kernel
theorem dX11_clean_71 : decode cX11_clean 71 = .ok (.iaload, 1) := by decide +kernel
theorem dX11_clean_72 : decode cX11_clean 72 = .ok (.iconst 3, 1) := by decide +kernel
theorem dX11_clean_73 : decode cX11_clean 73 = .ok (.if_icmp .ne 16, 3) := by decide +kernel
theorem dX11_clean_76 : decode cX11_clean 76 = .ok (.aload_n 0, 1) := by decide +kernel
theorem dX11_clean_77 : decode cX11_clean 77 = .ok (.iload_n 2, 1) := by decide +kernel
theorem dX11_clean_78 : decode cX11_clean 78 = .ok (.invokevirtual 163, 3) := by decide +kernel
theorem dX11_clean_81 : decode cX11_clean 81 = .ok (.ifCond .eq 8, 3) := by decide +kernel
theorem dX11_clean_84 : decode cX11_clean 84 = .ok (.aload_n 0, 1) := by decide +kernel
theorem dX11_clean_85 : decode cX11_clean 85 = .ok (.iload_n 2, 1) := by decide +kernel
theorem dX11_clean_86 : decode cX11_clean 86 = .ok (.invokevirtual 156, 3) := by decide +kernel
theorem dX11_clean_89 : decode cX11_clean 89 = .ok (.iinc 2 1, 3) := by decide +kernel
theorem dX11_clean_92 : decode cX11_clean 92 = .ok (.goto (-71), 3) := by decide +kernel
theorem dX11_clean_95 : decode cX11_clean 95 = .ok (.iconst 0, 1) := by decide +kernel
theorem dX11_clean_96 : decode cX11_clean 96 = .ok (.istore_n 2, 1) := by decide +kernel
theorem dX11_clean_97 : decode cX11_clean 97 = .ok (.iconst 0, 1) := by decide +kernel
theorem dX11_clean_98 : decode cX11_clean 98 = .ok (.istore_n 3, 1) := by decide +kernel
theorem dX11_clean_99 : decode cX11_clean 99 = .ok (.iload_n 3, 1) := by decide +kernel
theorem dX11_clean_100 : decode cX11_clean 100 = .ok (.aload_n 0, 1) := by decide +kernel
theorem dX11_clean_101 : decode cX11_clean 101 = .ok (.getfield 145, 3) := by decide +kernel
theorem dX11_clean_104 : decode cX11_clean 104 = .ok (.if_icmp .ge 55, 3) := by decide +kernel
theorem dX11_clean_107 : decode cX11_clean 107 = .ok (.iload_n 2, 1) := by decide +kernel
theorem dX11_clean_108 : decode cX11_clean 108 = .ok (.aload_n 0, 1) := by decide +kernel
theorem dX11_clean_109 : decode cX11_clean 109 = .ok (.getfield 13, 3) := by decide +kernel
theorem dX11_clean_112 : decode cX11_clean 112 = .ok (.iload_n 3, 1) := by decide +kernel
theorem dX11_clean_113 : decode cX11_clean 113 = .ok (.iaload, 1) := by decide +kernel
theorem dX11_clean_114 : decode cX11_clean 114 = .ok (.iload_n 1, 1) := by decide +kernel
theorem dX11_clean_115 : decode cX11_clean 115 = .ok (.if_icmp .ne 35, 3) := by decide +kernel
theorem dX11_clean_118 : decode cX11_clean 118 = .ok (.aload_n 0, 1) := by decide +kernel
theorem dX11_clean_119 : decode cX11_clean 119 = .ok (.getfield 31, 3) := by decide +kernel
theorem dX11_clean_122 : decode cX11_clean 122 = .ok (.iload_n 3, 1) := by decide +kernel
theorem dX11_clean_123 : decode cX11_clean 123 = .ok (.baload, 1) := by decide +kernel
theorem dX11_clean_124 : decode cX11_clean 124 = .ok (.ifCond .ne 26, 3) := by decide +kernel
theorem dX11_clean_127 : decode cX11_clean 127 = .ok (.aload_n 0, 1) := by decide +kernel
theorem dX11_clean_128 : decode cX11_clean 128 = .ok (.getfield 100, 3) := by decide +kernel
theorem dX11_clean_131 : decode cX11_clean 131 = .ok (.iload_n 3, 1) := by decide +kernel
theorem dX11_clean_132 : decode cX11_clean 132 = .ok (.baload, 1) := by decide +kernel
theorem dX11_clean_133 : decode cX11_clean 133 = .ok (.ifCond .ne 17, 3) := by decide +kernel
theorem dX11_clean_136 : decode cX11_clean 136 = .ok (.aload_n 0, 1) := by decide +kernel
theorem dX11_clean_137 : decode cX11_clean 137 = .ok (.getfield 9, 3) := by decide +kernel
theorem dX11_clean_140 : decode cX11_clean 140 = .ok (.iload_n 3, 1) := by decide +kernel
theorem dX11_clean_141 : decode cX11_clean 141 = .ok (.iaload, 1) := by decide +kernel
theorem dX11_clean_142 : decode cX11_clean 142 = .ok (.iconst 3, 1) := by decide +kernel
theorem dX11_clean_143 : decode cX11_clean 143 = .ok (.if_icmp .ne 7, 3) := by decide +kernel
theorem dX11_clean_146 : decode cX11_clean 146 = .ok (.iconst 1, 1) := by decide +kernel
theorem dX11_clean_147 : decode cX11_clean 147 = .ok (.goto 4, 3) := by decide +kernel
theorem dX11_clean_150 : decode cX11_clean 150 = .ok (.iconst 0, 1) := by decide +kernel
theorem dX11_clean_151 : decode cX11_clean 151 = .ok (.iadd, 1) := by decide +kernel
theorem dX11_clean_152 : decode cX11_clean 152 = .ok (.istore_n 2, 1) := by decide +kernel
theorem dX11_clean_153 : decode cX11_clean 153 = .ok (.iinc 3 1, 3) := by decide +kernel
theorem dX11_clean_156 : decode cX11_clean 156 = .ok (.goto (-57), 3) := by decide +kernel
theorem dX11_clean_159 : decode cX11_clean 159 = .ok (.aload_n 0, 1) := by decide +kernel
theorem dX11_clean_160 : decode cX11_clean 160 = .ok (.getfield 199, 3) := by decide +kernel
theorem dX11_clean_163 : decode cX11_clean 163 = .ok (.iload_n 2, 1) := by decide +kernel
theorem dX11_clean_164 : decode cX11_clean 164 = .ok (.iadd, 1) := by decide +kernel
theorem dX11_clean_165 : decode cX11_clean 165 = .ok (.sipush 600, 3) := by decide +kernel
theorem dX11_clean_168 : decode cX11_clean 168 = .ok (.if_icmp .le 10, 3) := by decide +kernel
theorem dX11_clean_171 : decode cX11_clean 171 = .ok (.aload_n 0, 1) := by decide +kernel
theorem dX11_clean_172 : decode cX11_clean 172 = .ok (.bipush (-6), 2) := by decide +kernel
theorem dX11_clean_174 : decode cX11_clean 174 = .ok (.invokevirtual 170, 3) := by decide +kernel
theorem dX11_clean_177 : decode cX11_clean 177 = .ok (.ireturn, 1) := by decide +kernel
theorem dX11_clean_178 : decode cX11_clean 178 = .ok (.aload_n 0, 1) := by decide +kernel
theorem dX11_clean_179 : decode cX11_clean 179 = .ok (.iconst 0, 1) := by decide +kernel
theorem dX11_clean_180 : decode cX11_clean 180 = .ok (.putfield 240, 3) := by decide +kernel
theorem dX11_clean_183 : decode cX11_clean 183 = .ok (.iconst 0, 1) := by decide +kernel
theorem dX11_clean_184 : decode cX11_clean 184 = .ok (.istore_n 3, 1) := by decide +kernel
theorem dX11_clean_185 : decode cX11_clean 185 = .ok (.iload_n 3, 1) := by decide +kernel
theorem dX11_clean_186 : decode cX11_clean 186 = .ok (.aload_n 0, 1) := by decide +kernel
theorem dX11_clean_187 : decode cX11_clean 187 = .ok (.getfield 145, 3) := by decide +kernel
theorem dX11_clean_190 : decode cX11_clean 190 = .ok (.if_icmp .ge 107, 3) := by decide +kernel
theorem dX11_clean_193 : decode cX11_clean 193 = .ok (.aload_n 0, 1) := by decide +kernel
theorem dX11_clean_194 : decode cX11_clean 194 = .ok (.getfield 13, 3) := by decide +kernel
theorem dX11_clean_197 : decode cX11_clean 197 = .ok (.iload_n 3, 1) := by decide +kernel
theorem dX11_clean_198 : decode cX11_clean 198 = .ok (.iaload, 1) := by decide +kernel
theorem dX11_clean_199 : decode cX11_clean 199 = .ok (.iload_n 1, 1) := by decide +kernel
theorem dX11_clean_200 : decode cX11_clean 200 = .ok (.if_icmp .ne 91, 3) := by decide +kernel
theorem dX11_clean_203 : decode cX11_clean 203 = .ok (.aload_n 0, 1) := by decide +kernel
theorem dX11_clean_204 : decode cX11_clean 204 = .ok (.getfield 31, 3) := by decide +kernel
theorem dX11_clean_207 : decode cX11_clean 207 = .ok (.iload_n 3, 1) := by decide +kernel
theorem dX11_clean_208 : decode cX11_clean 208 = .ok (.baload, 1) := by decide +kernel
theorem dX11_clean_209 : decode cX11_clean 209 = .ok (.ifCond .ne 82, 3) := by decide +kernel
theorem dX11_clean_212 : decode cX11_clean 212 = .ok (.aload_n 0, 1) := by decide +kernel
theorem dX11_clean_213 : decode cX11_clean 213 = .ok (.getfield 100, 3) := by decide +kernel
theorem dX11_clean_216 : decode cX11_clean 216 = .ok (.iload_n 3, 1) := by decide +kernel
theorem dX11_clean_217 : decode cX11_clean 217 = .ok (.baload, 1) := by decide +kernel
theorem dX11_clean_218 : decode cX11_clean 218 = .ok (.ifCond .eq 6, 3) := by decide +kernel
theorem dX11_clean_221 : decode cX11_clean 221 = .ok (.goto 70, 3) := by decide +kernel
theorem dX11_clean_224 : decode cX11_clean 224 = .ok (.aload_n 0, 1) := by decide +kernel
theorem dX11_clean_225 : decode cX11_clean 225 = .ok (.getfield 31, 3) := by decide +kernel
theorem dX11_clean_228 : decode cX11_clean 228 = .ok (.iload_n 3, 1) := by decide +kernel
theorem dX11_clean_229 : decode cX11_clean 229 = .ok (.iconst 1, 1) := by decide +kernel
theorem dX11_clean_230 : decode cX11_clean 230 = .ok (.bastore, 1) := by decide +kernel
theorem dX11_clean_231 : decode cX11_clean 231 = .ok (.aload_n 0, 1) := by decide +kernel
theorem dX11_clean_232 : decode cX11_clean 232 = .ok (.getfield 97, 3) := by decide +kernel
theorem dX11_clean_235 : decode cX11_clean 235 = .ok (.aload_n 0, 1) := by decide +kernel
theorem dX11_clean_236 : decode cX11_clean 236 = .ok (.getfield 240, 3) := by decide +kernel
theorem dX11_clean_239 : decode cX11_clean 239 = .ok (.iload_n 3, 1) := by decide +kernel
theorem dX11_clean_240 : decode cX11_clean 240 = .ok (.iastore, 1) := by decide +kernel
theorem dX11_clean_241 : decode cX11_clean 241 = .ok (.aload_n 0, 1) := by decide +kernel
theorem dX11_clean_242 : decode cX11_clean 242 = .ok (.dup, 1) := by decide +kernel
theorem dX11_clean_243 : decode cX11_clean 243 = .ok (.getfield 240, 3) := by decide +kernel
theorem dX11_clean_246 : decode cX11_clean 246 = .ok (.iconst 1, 1) := by decide +kernel
theorem dX11_clean_247 : decode cX11_clean 247 = .ok (.iadd, 1) := by decide +kernel
theorem dX11_clean_248 : decode cX11_clean 248 = .ok (.putfield 240, 3) := by decide +kernel
theorem dX11_clean_251 : decode cX11_clean 251 = .ok (.aload_n 0, 1) := by decide +kernel
theorem dX11_clean_252 : decode cX11_clean 252 = .ok (.getfield 9, 3) := by decide +kernel
theorem dX11_clean_255 : decode cX11_clean 255 = .ok (.iload_n 3, 1) := by decide +kernel
theorem dX11_clean_256 : decode cX11_clean 256 = .ok (.iaload, 1) := by decide +kernel
theorem dX11_clean_257 : decode cX11_clean 257 = .ok (.iconst 3, 1) := by decide +kernel
theorem dX11_clean_258 : decode cX11_clean 258 = .ok (.if_icmp .ne 33, 3) := by decide +kernel
theorem dX11_clean_261 : decode cX11_clean 261 = .ok (.aload_n 0, 1) := by decide +kernel
theorem dX11_clean_262 : decode cX11_clean 262 = .ok (.iconst 3, 1) := by decide +kernel
theorem dX11_clean_263 : decode cX11_clean 263 = .ok (.aload_n 0, 1) := by decide +kernel
theorem dX11_clean_264 : decode cX11_clean 264 = .ok (.getfield 13, 3) := by decide +kernel
theorem dX11_clean_267 : decode cX11_clean 267 = .ok (.aload_n 0, 1) := by decide +kernel
theorem dX11_clean_268 : decode cX11_clean 268 = .ok (.getfield 25, 3) := by decide +kernel
theorem dX11_clean_271 : decode cX11_clean 271 = .ok (.iload_n 3, 1) := by decide +kernel
theorem dX11_clean_272 : decode cX11_clean 272 = .ok (.iaload, 1) := by decide +kernel
theorem dX11_clean_273 : decode cX11_clean 273 = .ok (.iaload, 1) := by decide +kernel
theorem dX11_clean_274 : decode cX11_clean 274 = .ok (.iload_n 1, 1) := by decide +kernel
theorem dX11_clean_275 : decode cX11_clean 275 = .ok (.aload_n 0, 1) := by decide +kernel
theorem dX11_clean_276 : decode cX11_clean 276 = .ok (.getfield 25, 3) := by decide +kernel
theorem dX11_clean_279 : decode cX11_clean 279 = .ok (.iload_n 3, 1) := by decide +kernel
theorem dX11_clean_280 : decode cX11_clean 280 = .ok (.iaload, 1) := by decide +kernel
theorem dX11_clean_281 : decode cX11_clean 281 = .ok (.aload_n 0, 1) := by decide +kernel
theorem dX11_clean_282 : decode cX11_clean 282 = .ok (.getfield 28, 3) := by decide +kernel
theorem dX11_clean_285 : decode cX11_clean 285 = .ok (.iload_n 3, 1) := by decide +kernel
theorem dX11_clean_286 : decode cX11_clean 286 = .ok (.iaload, 1) := by decide +kernel
theorem dX11_clean_287 : decode cX11_clean 287 = .ok (.invokevirtual 202, 3) := by decide +kernel
theorem dX11_clean_290 : decode cX11_clean 290 = .ok (.pop, 1) := by decide +kernel
theorem dX11_clean_291 : decode cX11_clean 291 = .ok (.iinc 3 1, 3) := by decide +kernel
theorem dX11_clean_294 : decode cX11_clean 294 = .ok (.goto (-109), 3) := by decide +kernel
theorem dX11_clean_297 : decode cX11_clean 297 = .ok (.aload_n 0, 1) := by decide +kernel
theorem dX11_clean_298 : decode cX11_clean 298 = .ok (.getfield 240, 3) := by decide +kernel
theorem dX11_clean_301 : decode cX11_clean 301 = .ok (.ifCond .le 13, 3) := by decide +kernel
theorem dX11_clean_304 : decode cX11_clean 304 = .ok (.aload_n 0, 1) := by decide +kernel
theorem dX11_clean_305 : decode cX11_clean 305 = .ok (.getfield 91, 3) := by decide +kernel
theorem dX11_clean_308 : decode cX11_clean 308 = .ok (.iload_n 1, 1) := by decide +kernel
theorem dX11_clean_309 : decode cX11_clean 309 = .ok (.dup2, 1) := by decide +kernel
theorem dX11_clean_310 : decode cX11_clean 310 = .ok (.iaload, 1) := by decide +kernel
theorem dX11_clean_311 : decode cX11_clean 311 = .ok (.iconst 1, 1) := by decide +kernel
theorem dX11_clean_312 : decode cX11_clean 312 = .ok (.iadd, 1) := by decide +kernel
theorem dX11_clean_313 : decode cX11_clean 313 = .ok (.iastore, 1) := by decide +kernel
theorem dX11_clean_314 : decode cX11_clean 314 = .ok (.aload_n 0, 1) := by decide +kernel
theorem dX11_clean_315 : decode cX11_clean 315 = .ok (.getfield 240, 3) := by decide +kernel
theorem dX11_clean_318 : decode cX11_clean 318 = .ok (.ireturn, 1) := by decide +kernel
def fX11_clean_84 (K21 : Nat → Int32 → Int32 → Hz → Option (Int32 × Hz)) (o : Nat) (v1 : Int32) (v2 : Int32) (h : Hz) : Option (Int32 × Hz) := (b1 (tg 11 o h) fun _ => (b2 (fX11_lead o v2 h) fun _ s3 => K21 o v1 (v2 + 1) s3))
set_option maxHeartbeats 4000000 in
set_option maxRecDepth 100000 in
theorem wX11_clean_84 {r0 : Int32} {h0 : Hz} (X : zX A D cy p s m args c cX11_clean RX11 4) (hlk : meth.locks = false) (hr : meth.sig.returnType = (some .int)) {K21 : Nat → Int32 → Int32 → Hz → Option (Int32 × Hz)} (hK21 : ∀ (o : Nat) (u1 : Int32) (u2 : Int32) (h : Hz) (H : Heap) (locs : List Loc) (ls : Array Slot), lv_has ls 4 [(0, .ref o), (1, .int u1), (2, .int u2)] → zW A cy D h H → va_S A s.heap H locs → K21 o u1 u2 h = some (r0, h0) → W p l e ({ frames := 1, cells := 0, slots := 0, locals := 26 } : Room) s m args below meth c H locs 0 0 (MQ below (va_Qi (fun r1 u => r1 = r0 ∧ u = h0) (zB A D cy) A) args s 0 0 A) (F0 m 21 ls [])) (o : Nat) (v1 : Int32) (v2 : Int32) (h : Hz) (H : Heap) (locs : List Loc) (ls : Array Slot) (hl : lv_has ls 4 [(0, .ref o), (1, .int v1), (2, .int v2)]) (hW : zW A cy D h H) (hS : va_S A s.heap H locs) (h : fX11_clean_84 K21 o v1 v2 h = some (r0, h0)) : W p l e ({ frames := 1, cells := 0, slots := 0, locals := 26 } : Room) s m args below meth c H locs 0 0 (MQ below (va_Qi (fun r1 u => r1 = r0 ∧ u = h0) (zB A D cy) A) args s 0 0 A) (F0 m 84 ls []) := by
  obtain ⟨hx, hb, hts, hown, hK9, hml, hN9, hA9⟩ := id X
  unfold fX11_clean_84 at h
  refine lv_aload_n hx hb dX11_clean_84 rfl (lv_at hl 0 rfl) ?_
  refine lv_iload_n hx hb dX11_clean_85 rfl (lv_at hl 2 rfl) ?_
  replace h := b1_some h
  obtain ⟨q1, gq1, h⟩ := h
  replace h := b2_some h
  obtain ⟨_ur2, s3, gs3, h⟩ := h
  refine z_callVv (rest := []) X hW hS (cX11_lead_met gs3) kb_X11_lead kv_X11_lead kl_X11_156 (it_v gq1).1 kX11 rfl rfl ⟨Nat.le_of_ble_eq_true rfl, Nat.le_of_ble_eq_true rfl⟩ rfl rfl (by decide) hl.1 dX11_clean_86 ⟨(by decide), (by decide)⟩ (fun H locs hW hS => ?_)
  refine lv_iinc (v := (v2 + 1)) (lv' := [(2, .int (v2 + 1)), (0, .ref o), (1, .int v1)]) hx hb dX11_clean_89 hl (k := 2) rfl rfl (by decide) rfl (fun ls hl => ?_)
  refine lv_goto (tgt := 21) hx hb dX11_clean_92 (by decide) ?_
  exact hK21 o v1 (v2 + 1) _ _ _ _ (lv_sub hl [1, 2, 0] rfl) hW hS h

def fX11_clean_185 : Nat → Nat → Int32 → Int32 → Hz → Option (Int32 × Hz)
  | 0, _, _, _, _ => none
  | n + 1, o, v1, v3, h => (b1 (gI 11 9 o h) fun x1 => (if x1 ≤ v3 then (b1 (gI 11 33 o h) fun x3 => (if x3 ≤ 0 then (b1 (gI 11 33 o h) fun x5 => some (x5, h)) else (b1 (gA 11 30 o h) fun a6 => (b1 (xI 12 a6 v1 h) fun x7 => (b1 (yI a6 v1 (x7 + 1) h) fun s8 => (b1 (gI 11 33 o s8) fun x9 => some (x9, s8))))))) else (b1 (gA 11 1 o h) fun a10 => (b1 (xI 12 a10 v3 h) fun x11 => (if x11 = v1 then (b1 (gA 11 7 o h) fun a13 => (b1 (xI 14 a13 v3 h) fun x14 => (if x14 = 0 then (b1 (gA 11 34 o h) fun a16 => (b1 (xI 14 a16 v3 h) fun x17 => (if x17 = 0 then (b1 (gA 11 7 o h) fun a19 => (b1 (yZ a19 v3 1 h) fun s20 => (b1 (gA 11 32 o s20) fun a21 => (b1 (gI 11 33 o s20) fun x22 => (b1 (yI a21 x22 v3 s20) fun s23 => (b1 (gI 11 33 o s23) fun x24 => (b1 (pI 11 33 o (x24 + 1) s23) fun s25 => (b1 (gA 11 0 o s25) fun a26 => (b1 (xI 12 a26 v3 s25) fun x27 => (if x27 = 3 then (b1 (gA 11 1 o s25) fun a29 => (b1 (gA 11 5 o s25) fun a30 => (b1 (xI 12 a30 v3 s25) fun x31 => (b1 (xI 12 a29 x31 s25) fun x32 => (b1 (gA 11 5 o s25) fun a33 => (b1 (xI 12 a33 v3 s25) fun x34 => (b1 (gA 11 6 o s25) fun a35 => (b1 (xI 12 a35 v3 s25) fun x36 => (b1 (tg 11 o s25) fun _ => (b2 (fX11_letter o 3 x32 v1 x34 x36 s25) fun x38 s39 => fX11_clean_185 n o v1 (v3 + 1) s39)))))))))) else fX11_clean_185 n o v1 (v3 + 1) s25)))))))))) else fX11_clean_185 n o v1 (v3 + 1) h))) else fX11_clean_185 n o v1 (v3 + 1) h))) else fX11_clean_185 n o v1 (v3 + 1) h)))))
set_option maxHeartbeats 4000000 in
set_option maxRecDepth 100000 in
theorem wX11_clean_185 {r0 : Int32} {h0 : Hz} (X : zX A D cy p s m args c cX11_clean RX11 4) (hlk : meth.locks = false) (hr : meth.sig.returnType = (some .int)) : ∀ (n : Nat) (o : Nat) (v1 : Int32) (v3 : Int32) (h : Hz) (H : Heap) (locs : List Loc) (ls : Array Slot) (hl : lv_has ls 4 [(0, .ref o), (1, .int v1), (3, .int v3)]) (hW : zW A cy D h H) (hS : va_S A s.heap H locs) (h : fX11_clean_185 n o v1 v3 h = some (r0, h0)), W p l e ({ frames := 1, cells := 0, slots := 0, locals := 26 } : Room) s m args below meth c H locs 0 0 (MQ below (va_Qi (fun r1 u => r1 = r0 ∧ u = h0) (zB A D cy) A) args s 0 0 A) (F0 m 185 ls []) := by
  obtain ⟨hx, hb, hts, hown, hK9, hml, hN9, hA9⟩ := id X
  intro n
  induction n with
  | zero =>
    intro o v1 v3 h H locs ls hl hW hS h
    rw [fX11_clean_185] at h
    cases h
  | succ n ih =>
    intro o v1 v3 h H locs ls hl hW hS h
    rw [fX11_clean_185] at h
    refine lv_iload_n hx hb dX11_clean_185 rfl (lv_at hl 2 rfl) ?_
    refine lv_aload_n hx hb dX11_clean_186 rfl (lv_at hl 0 rfl) ?_
    replace h := b1_some h
    obtain ⟨x1, gx1, h⟩ := h
    refine z_getI X hW gx1 kX11 (by decide) (by decide) kf_X11_145 dX11_clean_187 ?_
    refine lv_icmp_ge (tgt := 297) hx hb dX11_clean_190 (by decide) (fun c2 => ?_) (fun c2 => ?_)
    · replace h := it_t h c2
      refine lv_aload_n hx hb dX11_clean_297 rfl (lv_at hl 0 rfl) ?_
      replace h := b1_some h
      obtain ⟨x3, gx3, h⟩ := h
      refine z_getI X hW gx3 kX11 (by decide) (by decide) kf_X11_240 dX11_clean_298 ?_
      refine lv_if_le (tgt := 314) hx hb dX11_clean_301 (by decide) (fun c4 => ?_) (fun c4 => ?_)
      · replace h := it_t h c4
        refine lv_aload_n hx hb dX11_clean_314 rfl (lv_at hl 0 rfl) ?_
        replace h := b1_some h
        obtain ⟨x5, gx5, h⟩ := h
        refine z_getI X hW gx5 kX11 (by decide) (by decide) kf_X11_240 dX11_clean_315 ?_
        exact z_eti X hlk hr hW hS h (by decide) (by decide) dX11_clean_318
      · replace h := it_f h c4
        refine lv_aload_n hx hb dX11_clean_304 rfl (lv_at hl 0 rfl) ?_
        replace h := b1_some h
        obtain ⟨a6, ga6, h⟩ := h
        refine z_getA X hW ga6 kX11 (by decide) (by decide) kf_X11_91 dX11_clean_305 ?_
        refine lv_iload_n hx hb dX11_clean_308 rfl (lv_at hl 1 rfl) ?_
        refine lv_dup2_11 hx hb dX11_clean_309 rfl rfl ?_
        replace h := b1_some h
        obtain ⟨x7, gx7, h⟩ := h
        refine z_aldI X hW gx7 dX11_clean_310 ?_
        refine lv_iconst (v := 1) hx hb dX11_clean_311 (by decide) ?_
        refine lv_iadd hx hb dX11_clean_312 ?_
        replace h := b1_some h
        obtain ⟨s8, gs8, h⟩ := h
        refine z_astI X hW hS gs8 dX11_clean_313 (fun H locs hW hS => ?_)
        refine lv_aload_n hx hb dX11_clean_314 rfl (lv_at hl 0 rfl) ?_
        replace h := b1_some h
        obtain ⟨x9, gx9, h⟩ := h
        refine z_getI X hW gx9 kX11 (by decide) (by decide) kf_X11_240 dX11_clean_315 ?_
        exact z_eti X hlk hr hW hS h (by decide) (by decide) dX11_clean_318
    · replace h := it_f h c2
      refine lv_aload_n hx hb dX11_clean_193 rfl (lv_at hl 0 rfl) ?_
      replace h := b1_some h
      obtain ⟨a10, ga10, h⟩ := h
      refine z_getA X hW ga10 kX11 (by decide) (by decide) kf_X11_13 dX11_clean_194 ?_
      refine lv_iload_n hx hb dX11_clean_197 rfl (lv_at hl 2 rfl) ?_
      replace h := b1_some h
      obtain ⟨x11, gx11, h⟩ := h
      refine z_aldI X hW gx11 dX11_clean_198 ?_
      refine lv_iload_n hx hb dX11_clean_199 rfl (lv_at hl 1 rfl) ?_
      refine lv_icmp_ne (tgt := 291) hx hb dX11_clean_200 (by decide) (fun c12 => ?_) (fun c12 => ?_)
      · replace h := it_f h c12
        refine lv_iinc (v := (v3 + 1)) (lv' := [(3, .int (v3 + 1)), (0, .ref o), (1, .int v1)]) hx hb dX11_clean_291 hl (k := 2) rfl rfl (by decide) rfl (fun ls hl => ?_)
        refine lv_goto (tgt := 185) hx hb dX11_clean_294 (by decide) ?_
        exact ih o v1 (v3 + 1) _ _ _ _ (lv_sub hl [1, 2, 0] rfl) hW hS h
      · replace h := it_t h c12
        refine lv_aload_n hx hb dX11_clean_203 rfl (lv_at hl 0 rfl) ?_
        replace h := b1_some h
        obtain ⟨a13, ga13, h⟩ := h
        refine z_getA X hW ga13 kX11 (by decide) (by decide) kf_X11_31 dX11_clean_204 ?_
        refine lv_iload_n hx hb dX11_clean_207 rfl (lv_at hl 2 rfl) ?_
        replace h := b1_some h
        obtain ⟨x14, gx14, h⟩ := h
        refine z_aldZ X hW gx14 dX11_clean_208 ?_
        refine lv_if_ne (tgt := 291) hx hb dX11_clean_209 (by decide) (fun c15 => ?_) (fun c15 => ?_)
        · replace h := it_f h c15
          refine lv_iinc (v := (v3 + 1)) (lv' := [(3, .int (v3 + 1)), (0, .ref o), (1, .int v1)]) hx hb dX11_clean_291 hl (k := 2) rfl rfl (by decide) rfl (fun ls hl => ?_)
          refine lv_goto (tgt := 185) hx hb dX11_clean_294 (by decide) ?_
          exact ih o v1 (v3 + 1) _ _ _ _ (lv_sub hl [1, 2, 0] rfl) hW hS h
        · replace h := it_t h c15
          refine lv_aload_n hx hb dX11_clean_212 rfl (lv_at hl 0 rfl) ?_
          replace h := b1_some h
          obtain ⟨a16, ga16, h⟩ := h
          refine z_getA X hW ga16 kX11 (by decide) (by decide) kf_X11_100 dX11_clean_213 ?_
          refine lv_iload_n hx hb dX11_clean_216 rfl (lv_at hl 2 rfl) ?_
          replace h := b1_some h
          obtain ⟨x17, gx17, h⟩ := h
          refine z_aldZ X hW gx17 dX11_clean_217 ?_
          refine lv_if_eq (tgt := 224) hx hb dX11_clean_218 (by decide) (fun c18 => ?_) (fun c18 => ?_)
          · replace h := it_t h c18
            refine lv_aload_n hx hb dX11_clean_224 rfl (lv_at hl 0 rfl) ?_
            replace h := b1_some h
            obtain ⟨a19, ga19, h⟩ := h
            refine z_getA X hW ga19 kX11 (by decide) (by decide) kf_X11_31 dX11_clean_225 ?_
            refine lv_iload_n hx hb dX11_clean_228 rfl (lv_at hl 2 rfl) ?_
            refine lv_iconst (v := 1) hx hb dX11_clean_229 (by decide) ?_
            replace h := b1_some h
            obtain ⟨s20, gs20, h⟩ := h
            refine z_astZ X hW hS gs20 dX11_clean_230 (fun H locs hW hS => ?_)
            refine lv_aload_n hx hb dX11_clean_231 rfl (lv_at hl 0 rfl) ?_
            replace h := b1_some h
            obtain ⟨a21, ga21, h⟩ := h
            refine z_getA X hW ga21 kX11 (by decide) (by decide) kf_X11_97 dX11_clean_232 ?_
            refine lv_aload_n hx hb dX11_clean_235 rfl (lv_at hl 0 rfl) ?_
            replace h := b1_some h
            obtain ⟨x22, gx22, h⟩ := h
            refine z_getI X hW gx22 kX11 (by decide) (by decide) kf_X11_240 dX11_clean_236 ?_
            refine lv_iload_n hx hb dX11_clean_239 rfl (lv_at hl 2 rfl) ?_
            replace h := b1_some h
            obtain ⟨s23, gs23, h⟩ := h
            refine z_astI X hW hS gs23 dX11_clean_240 (fun H locs hW hS => ?_)
            refine lv_aload_n hx hb dX11_clean_241 rfl (lv_at hl 0 rfl) ?_
            refine lv_dup hx hb dX11_clean_242 rfl ?_
            replace h := b1_some h
            obtain ⟨x24, gx24, h⟩ := h
            refine z_getI X hW gx24 kX11 (by decide) (by decide) kf_X11_240 dX11_clean_243 ?_
            refine lv_iconst (v := 1) hx hb dX11_clean_246 (by decide) ?_
            refine lv_iadd hx hb dX11_clean_247 ?_
            replace h := b1_some h
            obtain ⟨s25, gs25, h⟩ := h
            refine z_putI X hW hS gs25 kX11 (by decide) (by decide) rfl (Or.inl rfl) kf_X11_240 dX11_clean_248 (fun H locs hW hS => ?_)
            refine lv_aload_n hx hb dX11_clean_251 rfl (lv_at hl 0 rfl) ?_
            replace h := b1_some h
            obtain ⟨a26, ga26, h⟩ := h
            refine z_getA X hW ga26 kX11 (by decide) (by decide) kf_X11_9 dX11_clean_252 ?_
            refine lv_iload_n hx hb dX11_clean_255 rfl (lv_at hl 2 rfl) ?_
            replace h := b1_some h
            obtain ⟨x27, gx27, h⟩ := h
            refine z_aldI X hW gx27 dX11_clean_256 ?_
            refine lv_iconst (v := 3) hx hb dX11_clean_257 (by decide) ?_
            refine lv_icmp_ne (tgt := 291) hx hb dX11_clean_258 (by decide) (fun c28 => ?_) (fun c28 => ?_)
            · replace h := it_f h c28
              refine lv_iinc (v := (v3 + 1)) (lv' := [(3, .int (v3 + 1)), (0, .ref o), (1, .int v1)]) hx hb dX11_clean_291 hl (k := 2) rfl rfl (by decide) rfl (fun ls hl => ?_)
              refine lv_goto (tgt := 185) hx hb dX11_clean_294 (by decide) ?_
              exact ih o v1 (v3 + 1) _ _ _ _ (lv_sub hl [1, 2, 0] rfl) hW hS h
            · replace h := it_t h c28
              refine lv_aload_n hx hb dX11_clean_261 rfl (lv_at hl 0 rfl) ?_
              refine lv_iconst (v := 3) hx hb dX11_clean_262 (by decide) ?_
              refine lv_aload_n hx hb dX11_clean_263 rfl (lv_at hl 0 rfl) ?_
              replace h := b1_some h
              obtain ⟨a29, ga29, h⟩ := h
              refine z_getA X hW ga29 kX11 (by decide) (by decide) kf_X11_13 dX11_clean_264 ?_
              refine lv_aload_n hx hb dX11_clean_267 rfl (lv_at hl 0 rfl) ?_
              replace h := b1_some h
              obtain ⟨a30, ga30, h⟩ := h
              refine z_getA X hW ga30 kX11 (by decide) (by decide) kf_X11_25 dX11_clean_268 ?_
              refine lv_iload_n hx hb dX11_clean_271 rfl (lv_at hl 2 rfl) ?_
              replace h := b1_some h
              obtain ⟨x31, gx31, h⟩ := h
              refine z_aldI X hW gx31 dX11_clean_272 ?_
              replace h := b1_some h
              obtain ⟨x32, gx32, h⟩ := h
              refine z_aldI X hW gx32 dX11_clean_273 ?_
              refine lv_iload_n hx hb dX11_clean_274 rfl (lv_at hl 1 rfl) ?_
              refine lv_aload_n hx hb dX11_clean_275 rfl (lv_at hl 0 rfl) ?_
              replace h := b1_some h
              obtain ⟨a33, ga33, h⟩ := h
              refine z_getA X hW ga33 kX11 (by decide) (by decide) kf_X11_25 dX11_clean_276 ?_
              refine lv_iload_n hx hb dX11_clean_279 rfl (lv_at hl 2 rfl) ?_
              replace h := b1_some h
              obtain ⟨x34, gx34, h⟩ := h
              refine z_aldI X hW gx34 dX11_clean_280 ?_
              refine lv_aload_n hx hb dX11_clean_281 rfl (lv_at hl 0 rfl) ?_
              replace h := b1_some h
              obtain ⟨a35, ga35, h⟩ := h
              refine z_getA X hW ga35 kX11 (by decide) (by decide) kf_X11_28 dX11_clean_282 ?_
              refine lv_iload_n hx hb dX11_clean_285 rfl (lv_at hl 2 rfl) ?_
              replace h := b1_some h
              obtain ⟨x36, gx36, h⟩ := h
              refine z_aldI X hW gx36 dX11_clean_286 ?_
              replace h := b1_some h
              obtain ⟨q37, gq37, h⟩ := h
              replace h := b2_some h
              obtain ⟨x38, s39, gs39, h⟩ := h
              refine z_callVi (rest := []) X hW hS (cX11_letter_met gs39) kb_X11_letter kv_X11_letter kl_X11_202 (it_v gq37).1 kX11 rfl rfl ⟨Nat.le_of_ble_eq_true rfl, Nat.le_of_ble_eq_true rfl⟩ rfl rfl (by decide) hl.1 dX11_clean_287 ⟨(by decide), (by decide)⟩ (fun H locs hW hS => ?_)
              refine lv_pop hx hb dX11_clean_290 rfl ?_
              refine lv_iinc (v := (v3 + 1)) (lv' := [(3, .int (v3 + 1)), (0, .ref o), (1, .int v1)]) hx hb dX11_clean_291 hl (k := 2) rfl rfl (by decide) rfl (fun ls hl => ?_)
              refine lv_goto (tgt := 185) hx hb dX11_clean_294 (by decide) ?_
              exact ih o v1 (v3 + 1) _ _ _ _ (lv_sub hl [1, 2, 0] rfl) hW hS h
          · replace h := it_f h c18
            refine lv_goto (tgt := 291) hx hb dX11_clean_221 (by decide) ?_
            refine lv_iinc (v := (v3 + 1)) (lv' := [(3, .int (v3 + 1)), (0, .ref o), (1, .int v1)]) hx hb dX11_clean_291 hl (k := 2) rfl rfl (by decide) rfl (fun ls hl => ?_)
            refine lv_goto (tgt := 185) hx hb dX11_clean_294 (by decide) ?_
            exact ih o v1 (v3 + 1) _ _ _ _ (lv_sub hl [1, 2, 0] rfl) hW hS h

def fX11_clean_99 : Nat → Nat → Int32 → Int32 → Int32 → Hz → Option (Int32 × Hz)
  | 0, _, _, _, _, _ => none
  | n + 1, o, v1, v2, v3, h => (b1 (gI 11 9 o h) fun x1 => (if x1 ≤ v3 then (b1 (gI 11 24 o h) fun x3 => (if (x3 + v2) ≤ 600 then (b1 (pI 11 33 o 0 h) fun s5 => fX11_clean_185 100000 o v1 0 s5) else (b1 (tg 11 o h) fun _ => (b2 (fX11_refuse o (-6) h) fun x7 s8 => some (x7, s8))))) else (b1 (gA 11 1 o h) fun a9 => (b1 (xI 12 a9 v3 h) fun x10 => (if x10 = v1 then (b1 (gA 11 7 o h) fun a12 => (b1 (xI 14 a12 v3 h) fun x13 => (if x13 = 0 then (b1 (gA 11 34 o h) fun a15 => (b1 (xI 14 a15 v3 h) fun x16 => (if x16 = 0 then (b1 (gA 11 0 o h) fun a18 => (b1 (xI 12 a18 v3 h) fun x19 => (if x19 = 3 then fX11_clean_99 n o v1 (v2 + 1) (v3 + 1) h else fX11_clean_99 n o v1 (v2 + 0) (v3 + 1) h))) else fX11_clean_99 n o v1 (v2 + 0) (v3 + 1) h))) else fX11_clean_99 n o v1 (v2 + 0) (v3 + 1) h))) else fX11_clean_99 n o v1 (v2 + 0) (v3 + 1) h)))))
set_option maxHeartbeats 4000000 in
set_option maxRecDepth 100000 in
theorem wX11_clean_99 {r0 : Int32} {h0 : Hz} (X : zX A D cy p s m args c cX11_clean RX11 4) (hlk : meth.locks = false) (hr : meth.sig.returnType = (some .int)) : ∀ (n : Nat) (o : Nat) (v1 : Int32) (v2 : Int32) (v3 : Int32) (h : Hz) (H : Heap) (locs : List Loc) (ls : Array Slot) (hl : lv_has ls 4 [(0, .ref o), (1, .int v1), (2, .int v2), (3, .int v3)]) (hW : zW A cy D h H) (hS : va_S A s.heap H locs) (h : fX11_clean_99 n o v1 v2 v3 h = some (r0, h0)), W p l e ({ frames := 1, cells := 0, slots := 0, locals := 26 } : Room) s m args below meth c H locs 0 0 (MQ below (va_Qi (fun r1 u => r1 = r0 ∧ u = h0) (zB A D cy) A) args s 0 0 A) (F0 m 99 ls []) := by
  obtain ⟨hx, hb, hts, hown, hK9, hml, hN9, hA9⟩ := id X
  intro n
  induction n with
  | zero =>
    intro o v1 v2 v3 h H locs ls hl hW hS h
    rw [fX11_clean_99] at h
    cases h
  | succ n ih =>
    intro o v1 v2 v3 h H locs ls hl hW hS h
    rw [fX11_clean_99] at h
    refine lv_iload_n hx hb dX11_clean_99 rfl (lv_at hl 3 rfl) ?_
    refine lv_aload_n hx hb dX11_clean_100 rfl (lv_at hl 0 rfl) ?_
    replace h := b1_some h
    obtain ⟨x1, gx1, h⟩ := h
    refine z_getI X hW gx1 kX11 (by decide) (by decide) kf_X11_145 dX11_clean_101 ?_
    refine lv_icmp_ge (tgt := 159) hx hb dX11_clean_104 (by decide) (fun c2 => ?_) (fun c2 => ?_)
    · replace h := it_t h c2
      refine lv_aload_n hx hb dX11_clean_159 rfl (lv_at hl 0 rfl) ?_
      replace h := b1_some h
      obtain ⟨x3, gx3, h⟩ := h
      refine z_getI X hW gx3 kX11 (by decide) (by decide) kf_X11_199 dX11_clean_160 ?_
      refine lv_iload_n hx hb dX11_clean_163 rfl (lv_at hl 2 rfl) ?_
      refine lv_iadd hx hb dX11_clean_164 ?_
      refine lv_sipush (v := 600) hx hb dX11_clean_165 (by decide) ?_
      refine lv_icmp_le (tgt := 178) hx hb dX11_clean_168 (by decide) (fun c4 => ?_) (fun c4 => ?_)
      · replace h := it_t h c4
        refine lv_aload_n hx hb dX11_clean_178 rfl (lv_at hl 0 rfl) ?_
        refine lv_iconst (v := 0) hx hb dX11_clean_179 (by decide) ?_
        replace h := b1_some h
        obtain ⟨s5, gs5, h⟩ := h
        refine z_putI X hW hS gs5 kX11 (by decide) (by decide) rfl (Or.inl rfl) kf_X11_240 dX11_clean_180 (fun H locs hW hS => ?_)
        refine lv_iconst (v := 0) hx hb dX11_clean_183 (by decide) ?_
        refine lv_istore_n (lv' := [(3, .int 0), (0, .ref o), (1, .int v1), (2, .int v2)]) hx hb dX11_clean_184 rfl hl (by decide) rfl (fun ls hl => ?_)
        exact wX11_clean_185 X hlk hr _ o v1 0 _ _ _ _ (lv_sub hl [1, 2, 0] rfl) hW hS h
      · replace h := it_f h c4
        refine lv_aload_n hx hb dX11_clean_171 rfl (lv_at hl 0 rfl) ?_
        refine lv_bipush (v := (-6)) hx hb dX11_clean_172 (by decide) ?_
        replace h := b1_some h
        obtain ⟨q6, gq6, h⟩ := h
        replace h := b2_some h
        obtain ⟨x7, s8, gs8, h⟩ := h
        refine z_callVi (rest := []) X hW hS (cX11_refuse_met gs8) kb_X11_refuse kv_X11_refuse kl_X11_170 (it_v gq6).1 kX11 rfl rfl ⟨Nat.le_of_ble_eq_true rfl, Nat.le_of_ble_eq_true rfl⟩ rfl rfl (by decide) hl.1 dX11_clean_174 ⟨(by decide), (by decide)⟩ (fun H locs hW hS => ?_)
        exact z_eti X hlk hr hW hS h (by decide) (by decide) dX11_clean_177
    · replace h := it_f h c2
      refine lv_iload_n hx hb dX11_clean_107 rfl (lv_at hl 2 rfl) ?_
      refine lv_aload_n hx hb dX11_clean_108 rfl (lv_at hl 0 rfl) ?_
      replace h := b1_some h
      obtain ⟨a9, ga9, h⟩ := h
      refine z_getA X hW ga9 kX11 (by decide) (by decide) kf_X11_13 dX11_clean_109 ?_
      refine lv_iload_n hx hb dX11_clean_112 rfl (lv_at hl 3 rfl) ?_
      replace h := b1_some h
      obtain ⟨x10, gx10, h⟩ := h
      refine z_aldI X hW gx10 dX11_clean_113 ?_
      refine lv_iload_n hx hb dX11_clean_114 rfl (lv_at hl 1 rfl) ?_
      refine lv_icmp_ne (tgt := 150) hx hb dX11_clean_115 (by decide) (fun c11 => ?_) (fun c11 => ?_)
      · replace h := it_f h c11
        refine lv_iconst (v := 0) hx hb dX11_clean_150 (by decide) ?_
        refine lv_iadd hx hb dX11_clean_151 ?_
        refine lv_istore_n (lv' := [(2, .int (v2 + 0)), (0, .ref o), (1, .int v1), (3, .int v3)]) hx hb dX11_clean_152 rfl hl (by decide) rfl (fun ls hl => ?_)
        refine lv_iinc (v := (v3 + 1)) (lv' := [(3, .int (v3 + 1)), (2, .int (v2 + 0)), (0, .ref o), (1, .int v1)]) hx hb dX11_clean_153 hl (k := 3) rfl rfl (by decide) rfl (fun ls hl => ?_)
        refine lv_goto (tgt := 99) hx hb dX11_clean_156 (by decide) ?_
        exact ih o v1 (v2 + 0) (v3 + 1) _ _ _ _ (lv_sub hl [2, 3, 1, 0] rfl) hW hS h
      · replace h := it_t h c11
        refine lv_aload_n hx hb dX11_clean_118 rfl (lv_at hl 0 rfl) ?_
        replace h := b1_some h
        obtain ⟨a12, ga12, h⟩ := h
        refine z_getA X hW ga12 kX11 (by decide) (by decide) kf_X11_31 dX11_clean_119 ?_
        refine lv_iload_n hx hb dX11_clean_122 rfl (lv_at hl 3 rfl) ?_
        replace h := b1_some h
        obtain ⟨x13, gx13, h⟩ := h
        refine z_aldZ X hW gx13 dX11_clean_123 ?_
        refine lv_if_ne (tgt := 150) hx hb dX11_clean_124 (by decide) (fun c14 => ?_) (fun c14 => ?_)
        · replace h := it_f h c14
          refine lv_iconst (v := 0) hx hb dX11_clean_150 (by decide) ?_
          refine lv_iadd hx hb dX11_clean_151 ?_
          refine lv_istore_n (lv' := [(2, .int (v2 + 0)), (0, .ref o), (1, .int v1), (3, .int v3)]) hx hb dX11_clean_152 rfl hl (by decide) rfl (fun ls hl => ?_)
          refine lv_iinc (v := (v3 + 1)) (lv' := [(3, .int (v3 + 1)), (2, .int (v2 + 0)), (0, .ref o), (1, .int v1)]) hx hb dX11_clean_153 hl (k := 3) rfl rfl (by decide) rfl (fun ls hl => ?_)
          refine lv_goto (tgt := 99) hx hb dX11_clean_156 (by decide) ?_
          exact ih o v1 (v2 + 0) (v3 + 1) _ _ _ _ (lv_sub hl [2, 3, 1, 0] rfl) hW hS h
        · replace h := it_t h c14
          refine lv_aload_n hx hb dX11_clean_127 rfl (lv_at hl 0 rfl) ?_
          replace h := b1_some h
          obtain ⟨a15, ga15, h⟩ := h
          refine z_getA X hW ga15 kX11 (by decide) (by decide) kf_X11_100 dX11_clean_128 ?_
          refine lv_iload_n hx hb dX11_clean_131 rfl (lv_at hl 3 rfl) ?_
          replace h := b1_some h
          obtain ⟨x16, gx16, h⟩ := h
          refine z_aldZ X hW gx16 dX11_clean_132 ?_
          refine lv_if_ne (tgt := 150) hx hb dX11_clean_133 (by decide) (fun c17 => ?_) (fun c17 => ?_)
          · replace h := it_f h c17
            refine lv_iconst (v := 0) hx hb dX11_clean_150 (by decide) ?_
            refine lv_iadd hx hb dX11_clean_151 ?_
            refine lv_istore_n (lv' := [(2, .int (v2 + 0)), (0, .ref o), (1, .int v1), (3, .int v3)]) hx hb dX11_clean_152 rfl hl (by decide) rfl (fun ls hl => ?_)
            refine lv_iinc (v := (v3 + 1)) (lv' := [(3, .int (v3 + 1)), (2, .int (v2 + 0)), (0, .ref o), (1, .int v1)]) hx hb dX11_clean_153 hl (k := 3) rfl rfl (by decide) rfl (fun ls hl => ?_)
            refine lv_goto (tgt := 99) hx hb dX11_clean_156 (by decide) ?_
            exact ih o v1 (v2 + 0) (v3 + 1) _ _ _ _ (lv_sub hl [2, 3, 1, 0] rfl) hW hS h
          · replace h := it_t h c17
            refine lv_aload_n hx hb dX11_clean_136 rfl (lv_at hl 0 rfl) ?_
            replace h := b1_some h
            obtain ⟨a18, ga18, h⟩ := h
            refine z_getA X hW ga18 kX11 (by decide) (by decide) kf_X11_9 dX11_clean_137 ?_
            refine lv_iload_n hx hb dX11_clean_140 rfl (lv_at hl 3 rfl) ?_
            replace h := b1_some h
            obtain ⟨x19, gx19, h⟩ := h
            refine z_aldI X hW gx19 dX11_clean_141 ?_
            refine lv_iconst (v := 3) hx hb dX11_clean_142 (by decide) ?_
            refine lv_icmp_ne (tgt := 150) hx hb dX11_clean_143 (by decide) (fun c20 => ?_) (fun c20 => ?_)
            · replace h := it_f h c20
              refine lv_iconst (v := 0) hx hb dX11_clean_150 (by decide) ?_
              refine lv_iadd hx hb dX11_clean_151 ?_
              refine lv_istore_n (lv' := [(2, .int (v2 + 0)), (0, .ref o), (1, .int v1), (3, .int v3)]) hx hb dX11_clean_152 rfl hl (by decide) rfl (fun ls hl => ?_)
              refine lv_iinc (v := (v3 + 1)) (lv' := [(3, .int (v3 + 1)), (2, .int (v2 + 0)), (0, .ref o), (1, .int v1)]) hx hb dX11_clean_153 hl (k := 3) rfl rfl (by decide) rfl (fun ls hl => ?_)
              refine lv_goto (tgt := 99) hx hb dX11_clean_156 (by decide) ?_
              exact ih o v1 (v2 + 0) (v3 + 1) _ _ _ _ (lv_sub hl [2, 3, 1, 0] rfl) hW hS h
            · replace h := it_t h c20
              refine lv_iconst (v := 1) hx hb dX11_clean_146 (by decide) ?_
              refine lv_goto (tgt := 151) hx hb dX11_clean_147 (by decide) ?_
              refine lv_iadd hx hb dX11_clean_151 ?_
              refine lv_istore_n (lv' := [(2, .int (v2 + 1)), (0, .ref o), (1, .int v1), (3, .int v3)]) hx hb dX11_clean_152 rfl hl (by decide) rfl (fun ls hl => ?_)
              refine lv_iinc (v := (v3 + 1)) (lv' := [(3, .int (v3 + 1)), (2, .int (v2 + 1)), (0, .ref o), (1, .int v1)]) hx hb dX11_clean_153 hl (k := 3) rfl rfl (by decide) rfl (fun ls hl => ?_)
              refine lv_goto (tgt := 99) hx hb dX11_clean_156 (by decide) ?_
              exact ih o v1 (v2 + 1) (v3 + 1) _ _ _ _ (lv_sub hl [2, 3, 1, 0] rfl) hW hS h

def fX11_clean_21 : Nat → Nat → Int32 → Int32 → Hz → Option (Int32 × Hz)
  | 0, _, _, _, _ => none
  | n + 1, o, v1, v2, h => (b1 (gI 11 9 o h) fun x1 => (if x1 ≤ v2 then fX11_clean_99 100000 o v1 0 0 h else (b1 (gA 11 1 o h) fun a3 => (b1 (xI 12 a3 v2 h) fun x4 => (if x4 = v1 then (b1 (gA 11 7 o h) fun a6 => (b1 (xI 14 a6 v2 h) fun x7 => (if x7 = 0 then (b1 (gA 11 0 o h) fun a9 => (b1 (xI 12 a9 v2 h) fun x10 => (if x10 = 2 then fX11_clean_84 (fX11_clean_21 n) o v1 v2 h else (b1 (tg 11 o h) fun _ => (b2 (fX11_holdsOut o v2 h) fun x13 s14 => (if x13 = 0 then (b1 (gA 11 0 o s14) fun a16 => (b1 (xI 12 a16 v2 s14) fun x17 => (if x17 = 3 then (b1 (tg 11 o s14) fun _ => (b2 (fX11_isWaited o v2 s14) fun x20 s21 => (if x20 = 0 then fX11_clean_21 n o v1 (v2 + 1) s21 else fX11_clean_84 (fX11_clean_21 n) o v1 v2 s21))) else fX11_clean_21 n o v1 (v2 + 1) s14))) else fX11_clean_84 (fX11_clean_21 n) o v1 v2 s14)))))) else fX11_clean_21 n o v1 (v2 + 1) h))) else fX11_clean_21 n o v1 (v2 + 1) h)))))
set_option maxHeartbeats 4000000 in
set_option maxRecDepth 100000 in
theorem wX11_clean_21 {r0 : Int32} {h0 : Hz} (X : zX A D cy p s m args c cX11_clean RX11 4) (hlk : meth.locks = false) (hr : meth.sig.returnType = (some .int)) : ∀ (n : Nat) (o : Nat) (v1 : Int32) (v2 : Int32) (h : Hz) (H : Heap) (locs : List Loc) (ls : Array Slot) (hl : lv_has ls 4 [(0, .ref o), (1, .int v1), (2, .int v2)]) (hW : zW A cy D h H) (hS : va_S A s.heap H locs) (h : fX11_clean_21 n o v1 v2 h = some (r0, h0)), W p l e ({ frames := 1, cells := 0, slots := 0, locals := 26 } : Room) s m args below meth c H locs 0 0 (MQ below (va_Qi (fun r1 u => r1 = r0 ∧ u = h0) (zB A D cy) A) args s 0 0 A) (F0 m 21 ls []) := by
  obtain ⟨hx, hb, hts, hown, hK9, hml, hN9, hA9⟩ := id X
  intro n
  induction n with
  | zero =>
    intro o v1 v2 h H locs ls hl hW hS h
    rw [fX11_clean_21] at h
    cases h
  | succ n ih =>
    intro o v1 v2 h H locs ls hl hW hS h
    rw [fX11_clean_21] at h
    refine lv_iload_n hx hb dX11_clean_21 rfl (lv_at hl 2 rfl) ?_
    refine lv_aload_n hx hb dX11_clean_22 rfl (lv_at hl 0 rfl) ?_
    replace h := b1_some h
    obtain ⟨x1, gx1, h⟩ := h
    refine z_getI X hW gx1 kX11 (by decide) (by decide) kf_X11_145 dX11_clean_23 ?_
    refine lv_icmp_ge (tgt := 95) hx hb dX11_clean_26 (by decide) (fun c2 => ?_) (fun c2 => ?_)
    · replace h := it_t h c2
      refine lv_iconst (v := 0) hx hb dX11_clean_95 (by decide) ?_
      refine lv_istore_n (lv' := [(2, .int 0), (0, .ref o), (1, .int v1)]) hx hb dX11_clean_96 rfl hl (by decide) rfl (fun ls hl => ?_)
      refine lv_iconst (v := 0) hx hb dX11_clean_97 (by decide) ?_
      refine lv_istore_n (lv' := [(3, .int 0), (2, .int 0), (0, .ref o), (1, .int v1)]) hx hb dX11_clean_98 rfl hl (by decide) rfl (fun ls hl => ?_)
      exact wX11_clean_99 X hlk hr _ o v1 0 0 _ _ _ _ (lv_sub hl [2, 3, 1, 0] rfl) hW hS h
    · replace h := it_f h c2
      refine lv_aload_n hx hb dX11_clean_29 rfl (lv_at hl 0 rfl) ?_
      replace h := b1_some h
      obtain ⟨a3, ga3, h⟩ := h
      refine z_getA X hW ga3 kX11 (by decide) (by decide) kf_X11_13 dX11_clean_30 ?_
      refine lv_iload_n hx hb dX11_clean_33 rfl (lv_at hl 2 rfl) ?_
      replace h := b1_some h
      obtain ⟨x4, gx4, h⟩ := h
      refine z_aldI X hW gx4 dX11_clean_34 ?_
      refine lv_iload_n hx hb dX11_clean_35 rfl (lv_at hl 1 rfl) ?_
      refine lv_icmp_ne (tgt := 89) hx hb dX11_clean_36 (by decide) (fun c5 => ?_) (fun c5 => ?_)
      · replace h := it_f h c5
        refine lv_iinc (v := (v2 + 1)) (lv' := [(2, .int (v2 + 1)), (0, .ref o), (1, .int v1)]) hx hb dX11_clean_89 hl (k := 2) rfl rfl (by decide) rfl (fun ls hl => ?_)
        refine lv_goto (tgt := 21) hx hb dX11_clean_92 (by decide) ?_
        exact ih o v1 (v2 + 1) _ _ _ _ (lv_sub hl [1, 2, 0] rfl) hW hS h
      · replace h := it_t h c5
        refine lv_aload_n hx hb dX11_clean_39 rfl (lv_at hl 0 rfl) ?_
        replace h := b1_some h
        obtain ⟨a6, ga6, h⟩ := h
        refine z_getA X hW ga6 kX11 (by decide) (by decide) kf_X11_31 dX11_clean_40 ?_
        refine lv_iload_n hx hb dX11_clean_43 rfl (lv_at hl 2 rfl) ?_
        replace h := b1_some h
        obtain ⟨x7, gx7, h⟩ := h
        refine z_aldZ X hW gx7 dX11_clean_44 ?_
        refine lv_if_ne (tgt := 89) hx hb dX11_clean_45 (by decide) (fun c8 => ?_) (fun c8 => ?_)
        · replace h := it_f h c8
          refine lv_iinc (v := (v2 + 1)) (lv' := [(2, .int (v2 + 1)), (0, .ref o), (1, .int v1)]) hx hb dX11_clean_89 hl (k := 2) rfl rfl (by decide) rfl (fun ls hl => ?_)
          refine lv_goto (tgt := 21) hx hb dX11_clean_92 (by decide) ?_
          exact ih o v1 (v2 + 1) _ _ _ _ (lv_sub hl [1, 2, 0] rfl) hW hS h
        · replace h := it_t h c8
          refine lv_aload_n hx hb dX11_clean_48 rfl (lv_at hl 0 rfl) ?_
          replace h := b1_some h
          obtain ⟨a9, ga9, h⟩ := h
          refine z_getA X hW ga9 kX11 (by decide) (by decide) kf_X11_9 dX11_clean_49 ?_
          refine lv_iload_n hx hb dX11_clean_52 rfl (lv_at hl 2 rfl) ?_
          replace h := b1_some h
          obtain ⟨x10, gx10, h⟩ := h
          refine z_aldI X hW gx10 dX11_clean_53 ?_
          refine lv_iconst (v := 2) hx hb dX11_clean_54 (by decide) ?_
          refine lv_icmp_eq (tgt := 84) hx hb dX11_clean_55 (by decide) (fun c11 => ?_) (fun c11 => ?_)
          · replace h := it_t h c11
            exact wX11_clean_84 X hlk hr ih o v1 v2 _ _ _ _ (lv_sub hl [0, 1, 2] rfl) hW hS h
          · replace h := it_f h c11
            refine lv_aload_n hx hb dX11_clean_58 rfl (lv_at hl 0 rfl) ?_
            refine lv_iload_n hx hb dX11_clean_59 rfl (lv_at hl 2 rfl) ?_
            replace h := b1_some h
            obtain ⟨q12, gq12, h⟩ := h
            replace h := b2_some h
            obtain ⟨x13, s14, gs14, h⟩ := h
            refine z_callVi (rest := []) X hW hS (cX11_holdsOut_met gs14) kb_X11_holdsOut kv_X11_holdsOut kl_X11_237 (it_v gq12).1 kX11 rfl rfl ⟨Nat.le_of_ble_eq_true rfl, Nat.le_of_ble_eq_true rfl⟩ rfl rfl (by decide) hl.1 dX11_clean_60 ⟨(by decide), (by decide)⟩ (fun H locs hW hS => ?_)
            refine lv_if_ne (tgt := 84) hx hb dX11_clean_63 (by decide) (fun c15 => ?_) (fun c15 => ?_)
            · replace h := it_f h c15
              exact wX11_clean_84 X hlk hr ih o v1 v2 _ _ _ _ (lv_sub hl [0, 1, 2] rfl) hW hS h
            · replace h := it_t h c15
              refine lv_aload_n hx hb dX11_clean_66 rfl (lv_at hl 0 rfl) ?_
              replace h := b1_some h
              obtain ⟨a16, ga16, h⟩ := h
              refine z_getA X hW ga16 kX11 (by decide) (by decide) kf_X11_9 dX11_clean_67 ?_
              refine lv_iload_n hx hb dX11_clean_70 rfl (lv_at hl 2 rfl) ?_
              replace h := b1_some h
              obtain ⟨x17, gx17, h⟩ := h
              refine z_aldI X hW gx17 dX11_clean_71 ?_
              refine lv_iconst (v := 3) hx hb dX11_clean_72 (by decide) ?_
              refine lv_icmp_ne (tgt := 89) hx hb dX11_clean_73 (by decide) (fun c18 => ?_) (fun c18 => ?_)
              · replace h := it_f h c18
                refine lv_iinc (v := (v2 + 1)) (lv' := [(2, .int (v2 + 1)), (0, .ref o), (1, .int v1)]) hx hb dX11_clean_89 hl (k := 2) rfl rfl (by decide) rfl (fun ls hl => ?_)
                refine lv_goto (tgt := 21) hx hb dX11_clean_92 (by decide) ?_
                exact ih o v1 (v2 + 1) _ _ _ _ (lv_sub hl [1, 2, 0] rfl) hW hS h
              · replace h := it_t h c18
                refine lv_aload_n hx hb dX11_clean_76 rfl (lv_at hl 0 rfl) ?_
                refine lv_iload_n hx hb dX11_clean_77 rfl (lv_at hl 2 rfl) ?_
                replace h := b1_some h
                obtain ⟨q19, gq19, h⟩ := h
                replace h := b2_some h
                obtain ⟨x20, s21, gs21, h⟩ := h
                refine z_callVi (rest := []) X hW hS (cX11_isWaited_met gs21) kb_X11_isWaited kv_X11_isWaited kl_X11_163 (it_v gq19).1 kX11 rfl rfl ⟨Nat.le_of_ble_eq_true rfl, Nat.le_of_ble_eq_true rfl⟩ rfl rfl (by decide) hl.1 dX11_clean_78 ⟨(by decide), (by decide)⟩ (fun H locs hW hS => ?_)
                refine lv_if_eq (tgt := 89) hx hb dX11_clean_81 (by decide) (fun c22 => ?_) (fun c22 => ?_)
                · replace h := it_t h c22
                  refine lv_iinc (v := (v2 + 1)) (lv' := [(2, .int (v2 + 1)), (0, .ref o), (1, .int v1)]) hx hb dX11_clean_89 hl (k := 2) rfl rfl (by decide) rfl (fun ls hl => ?_)
                  refine lv_goto (tgt := 21) hx hb dX11_clean_92 (by decide) ?_
                  exact ih o v1 (v2 + 1) _ _ _ _ (lv_sub hl [1, 2, 0] rfl) hW hS h
                · replace h := it_f h c22
                  exact wX11_clean_84 X hlk hr ih o v1 v2 _ _ _ _ (lv_sub hl [0, 1, 2] rfl) hW hS h

def fX11_clean (o : Nat) (v1 : Int32) (h : Hz) : Option (Int32 × Hz) := (b2 (fX11_isIn v1 8 h) fun x1 s2 => (if x1 = 0 then (b1 (tg 11 o s2) fun _ => (b2 (fX11_refuse o (-1) s2) fun x8 s9 => some (x8, s9))) else (b1 (tg 11 o s2) fun _ => (b2 (fX11_noLeads o s2) fun _ s6 => fX11_clean_21 100000 o v1 0 s6))))
set_option maxHeartbeats 4000000 in
set_option maxRecDepth 100000 in
theorem wX11_clean_0 {r0 : Int32} {h0 : Hz} (X : zX A D cy p s m args c cX11_clean RX11 4) (hlk : meth.locks = false) (hr : meth.sig.returnType = (some .int)) (o : Nat) (v1 : Int32) (h : Hz) (H : Heap) (locs : List Loc) (ls : Array Slot) (hl : lv_has ls 4 [(0, .ref o), (1, .int v1)]) (hW : zW A cy D h H) (hS : va_S A s.heap H locs) (h : fX11_clean o v1 h = some (r0, h0)) : W p l e ({ frames := 1, cells := 0, slots := 0, locals := 26 } : Room) s m args below meth c H locs 0 0 (MQ below (va_Qi (fun r1 u => r1 = r0 ∧ u = h0) (zB A D cy) A) args s 0 0 A) (F0 m 0 ls []) := by
  obtain ⟨hx, hb, hts, hown, hK9, hml, hN9, hA9⟩ := id X
  unfold fX11_clean at h
  refine lv_iload_n hx hb dX11_clean_0 rfl (lv_at hl 1 rfl) ?_
  refine lv_bipush (v := 8) hx hb dX11_clean_1 (by decide) ?_
  replace h := b2_some h
  obtain ⟨x1, s2, gs2, h⟩ := h
  refine z_callSi (rest := []) X hW hS (cX11_isIn_met gs2) kb_X11_isIn ks_X11_isIn kl_X11_149 rfl rfl ⟨Nat.le_of_ble_eq_true rfl, Nat.le_of_ble_eq_true rfl⟩ rfl rfl (by decide) hl.1 dX11_clean_3 ⟨(by decide), (by decide)⟩ (fun H locs hW hS => ?_)
  refine lv_if_ne (tgt := 15) hx hb dX11_clean_6 (by decide) (fun c3 => ?_) (fun c3 => ?_)
  · replace h := it_f h c3
    refine lv_aload_n hx hb dX11_clean_15 rfl (lv_at hl 0 rfl) ?_
    replace h := b1_some h
    obtain ⟨q4, gq4, h⟩ := h
    replace h := b2_some h
    obtain ⟨_ur5, s6, gs6, h⟩ := h
    refine z_callVv (rest := []) X hW hS (cX11_noLeads_met gs6) kb_X11_noLeads kv_X11_noLeads kl_X11_153 (it_v gq4).1 kX11 rfl rfl ⟨Nat.le_of_ble_eq_true rfl, Nat.le_of_ble_eq_true rfl⟩ rfl rfl (by decide) hl.1 dX11_clean_16 ⟨(by decide), (by decide)⟩ (fun H locs hW hS => ?_)
    refine lv_iconst (v := 0) hx hb dX11_clean_19 (by decide) ?_
    refine lv_istore_n (lv' := [(2, .int 0), (0, .ref o), (1, .int v1)]) hx hb dX11_clean_20 rfl hl (by decide) rfl (fun ls hl => ?_)
    exact wX11_clean_21 X hlk hr _ o v1 0 _ _ _ _ (lv_sub hl [1, 2, 0] rfl) hW hS h
  · replace h := it_t h c3
    refine lv_aload_n hx hb dX11_clean_9 rfl (lv_at hl 0 rfl) ?_
    refine lv_iconst (v := (-1)) hx hb dX11_clean_10 (by decide) ?_
    replace h := b1_some h
    obtain ⟨q7, gq7, h⟩ := h
    replace h := b2_some h
    obtain ⟨x8, s9, gs9, h⟩ := h
    refine z_callVi (rest := []) X hW hS (cX11_refuse_met gs9) kb_X11_refuse kv_X11_refuse kl_X11_170 (it_v gq7).1 kX11 rfl rfl ⟨Nat.le_of_ble_eq_true rfl, Nat.le_of_ble_eq_true rfl⟩ rfl rfl (by decide) hl.1 dX11_clean_11 ⟨(by decide), (by decide)⟩ (fun H locs hW hS => ?_)
    exact z_eti X hlk hr hW hS h (by decide) (by decide) dX11_clean_14

set_option maxHeartbeats 4000000 in
set_option maxRecDepth 100000 in
theorem cX11_clean_met {l : Launch} {A : Nat → Prop} {D : va_G} {cy : Nat → ClassId} {r0 : Int32} {h0 : Hz} {o : Nat} {v1 : Int32} {h : Hz} (g : fX11_clean o v1 h = some (r0, h0)) : Met l yX11_clean (Cond.code yX11_clean cX11_clean 4 (some .int) :: wT) ({ frames := 1, cells := 0, slots := 0, locals := 26 } : Room) (va_Pc [.ref o, .int v1] (zS A D cy h)) (va_Qi (fun r1 u => r1 = r0 ∧ u = h0) (zB A D cy) A) 0 0 A := by
  refine Met.ofW (cc := cX11_clean) (maxL := 4) (ret := (some .int)) (by decide) rfl ?_
  intro p e s m args below meth c s₁ B hml hv
  obtain ⟨rfl, hW, hK, hN, hA⟩ := hv
  have X : zX A D cy p s m _ c cX11_clean RX11 4 := ⟨B.exec, B.bytes, fun w hw => atoms_spec (ws := Cond.code yX11_clean cX11_clean 4 (some .int) :: wT) B.pre w (List.mem_cons_of_mem _ hw), findClass_of_methodNamed B.named, hK, hml, hN, hA⟩
  have hl := lv_entry [.ref o, .int v1] (n := 4) (Nat.le_of_ble_eq_true rfl)
  rw [lg_entry_eq]
  generalize (lg_sl [.ref o, .int v1] ++ List.replicate (4 - (lg_sl [.ref o, .int v1]).length) Slot.unset).toArray = ls at hl ⊢
  have hl : lv_has ls 4 [(0, .ref o), (1, .int v1)] := hl
  exact wX11_clean_0 X B.notSynchronized B.returns o v1 _ _ _ _ (lv_sub hl [0, 1] rfl) hW va_S.rf g

theorem dX11_freed_0 : decode cX11_freed 0 = .ok (.iload_n 1, 1) := by decide +kernel
theorem dX11_freed_1 : decode cX11_freed 1 = .ok (.aload_n 0, 1) := by decide +kernel
theorem dX11_freed_2 : decode cX11_freed 2 = .ok (.getfield 240, 3) := by decide +kernel
theorem dX11_freed_5 : decode cX11_freed 5 = .ok (.invokestatic 149, 3) := by decide +kernel
theorem dX11_freed_8 : decode cX11_freed 8 = .ok (.ifCond .eq 12, 3) := by decide +kernel
theorem dX11_freed_11 : decode cX11_freed 11 = .ok (.aload_n 0, 1) := by decide +kernel
theorem dX11_freed_12 : decode cX11_freed 12 = .ok (.getfield 97, 3) := by decide +kernel
theorem dX11_freed_15 : decode cX11_freed 15 = .ok (.iload_n 1, 1) := by decide +kernel
theorem dX11_freed_16 : decode cX11_freed 16 = .ok (.iaload, 1) := by decide +kernel
theorem dX11_freed_17 : decode cX11_freed 17 = .ok (.goto 4, 3) := by decide +kernel
theorem dX11_freed_20 : decode cX11_freed 20 = .ok (.iconst (-1), 1) := by decide +kernel
theorem dX11_freed_21 : decode cX11_freed 21 = .ok (.ireturn, 1) := by decide +kernel
def fX11_freed (o : Nat) (v1 : Int32) (h : Hz) : Option (Int32 × Hz) := (b1 (gI 11 33 o h) fun x1 => (b2 (fX11_isIn v1 x1 h) fun x2 s3 => (if x2 = 0 then some ((-1), s3) else (b1 (gA 11 32 o s3) fun a5 => (b1 (xI 12 a5 v1 s3) fun x6 => some (x6, s3))))))
set_option maxHeartbeats 4000000 in
set_option maxRecDepth 100000 in
theorem wX11_freed_0 {r0 : Int32} {h0 : Hz} (X : zX A D cy p s m args c cX11_freed RX11 2) (hlk : meth.locks = false) (hr : meth.sig.returnType = (some .int)) (o : Nat) (v1 : Int32) (h : Hz) (H : Heap) (locs : List Loc) (ls : Array Slot) (hl : lv_has ls 2 [(0, .ref o), (1, .int v1)]) (hW : zW A cy D h H) (hS : va_S A s.heap H locs) (h : fX11_freed o v1 h = some (r0, h0)) : W p l e ({ frames := 1, cells := 0, slots := 0, locals := 21 } : Room) s m args below meth c H locs 0 0 (MQ below (va_Qi (fun r1 u => r1 = r0 ∧ u = h0) (zB A D cy) A) args s 0 0 A) (F0 m 0 ls []) := by
  obtain ⟨hx, hb, hts, hown, hK9, hml, hN9, hA9⟩ := id X
  unfold fX11_freed at h
  refine lv_iload_n hx hb dX11_freed_0 rfl (lv_at hl 1 rfl) ?_
  refine lv_aload_n hx hb dX11_freed_1 rfl (lv_at hl 0 rfl) ?_
  replace h := b1_some h
  obtain ⟨x1, gx1, h⟩ := h
  refine z_getI X hW gx1 kX11 (by decide) (by decide) kf_X11_240 dX11_freed_2 ?_
  replace h := b2_some h
  obtain ⟨x2, s3, gs3, h⟩ := h
  refine z_callSi (rest := []) X hW hS (cX11_isIn_met gs3) kb_X11_isIn ks_X11_isIn kl_X11_149 rfl rfl ⟨Nat.le_of_ble_eq_true rfl, Nat.le_of_ble_eq_true rfl⟩ rfl rfl (by decide) hl.1 dX11_freed_5 ⟨(by decide), (by decide)⟩ (fun H locs hW hS => ?_)
  refine lv_if_eq (tgt := 20) hx hb dX11_freed_8 (by decide) (fun c4 => ?_) (fun c4 => ?_)
  · replace h := it_t h c4
    refine lv_iconst (v := (-1)) hx hb dX11_freed_20 (by decide) ?_
    exact z_eti X hlk hr hW hS h (by decide) (by decide) dX11_freed_21
  · replace h := it_f h c4
    refine lv_aload_n hx hb dX11_freed_11 rfl (lv_at hl 0 rfl) ?_
    replace h := b1_some h
    obtain ⟨a5, ga5, h⟩ := h
    refine z_getA X hW ga5 kX11 (by decide) (by decide) kf_X11_97 dX11_freed_12 ?_
    refine lv_iload_n hx hb dX11_freed_15 rfl (lv_at hl 1 rfl) ?_
    replace h := b1_some h
    obtain ⟨x6, gx6, h⟩ := h
    refine z_aldI X hW gx6 dX11_freed_16 ?_
    refine lv_goto (tgt := 21) hx hb dX11_freed_17 (by decide) ?_
    exact z_eti X hlk hr hW hS h (by decide) (by decide) dX11_freed_21

set_option maxHeartbeats 4000000 in
set_option maxRecDepth 100000 in
theorem cX11_freed_met {l : Launch} {A : Nat → Prop} {D : va_G} {cy : Nat → ClassId} {r0 : Int32} {h0 : Hz} {o : Nat} {v1 : Int32} {h : Hz} (g : fX11_freed o v1 h = some (r0, h0)) : Met l yX11_freed (Cond.code yX11_freed cX11_freed 2 (some .int) :: wT) ({ frames := 1, cells := 0, slots := 0, locals := 21 } : Room) (va_Pc [.ref o, .int v1] (zS A D cy h)) (va_Qi (fun r1 u => r1 = r0 ∧ u = h0) (zB A D cy) A) 0 0 A := by
  refine Met.ofW (cc := cX11_freed) (maxL := 2) (ret := (some .int)) (by decide) rfl ?_
  intro p e s m args below meth c s₁ B hml hv
  obtain ⟨rfl, hW, hK, hN, hA⟩ := hv
  have X : zX A D cy p s m _ c cX11_freed RX11 2 := ⟨B.exec, B.bytes, fun w hw => atoms_spec (ws := Cond.code yX11_freed cX11_freed 2 (some .int) :: wT) B.pre w (List.mem_cons_of_mem _ hw), findClass_of_methodNamed B.named, hK, hml, hN, hA⟩
  have hl := lv_entry [.ref o, .int v1] (n := 2) (Nat.le_of_ble_eq_true rfl)
  rw [lg_entry_eq]
  generalize (lg_sl [.ref o, .int v1] ++ List.replicate (2 - (lg_sl [.ref o, .int v1]).length) Slot.unset).toArray = ls at hl ⊢
  have hl : lv_has ls 2 [(0, .ref o), (1, .int v1)] := hl
  exact wX11_freed_0 X B.notSynchronized B.returns o v1 _ _ _ _ (lv_sub hl [0, 1] rfl) hW va_S.rf g

theorem dX11_doubt_0 : decode cX11_doubt 0 = .ok (.aload_n 0, 1) := by decide +kernel
theorem dX11_doubt_1 : decode cX11_doubt 1 = .ok (.iload_n 1, 1) := by decide +kernel
theorem dX11_doubt_2 : decode cX11_doubt 2 = .ok (.invokevirtual 178, 3) := by decide +kernel
theorem dX11_doubt_5 : decode cX11_doubt 5 = .ok (.ifCond .ne 9, 3) := by decide +kernel
theorem dX11_doubt_8 : decode cX11_doubt 8 = .ok (.aload_n 0, 1) := by decide +kernel
theorem dX11_doubt_9 : decode cX11_doubt 9 = .ok (.iconst (-1), 1) := by decide +kernel
theorem dX11_doubt_10 : decode cX11_doubt 10 = .ok (.invokevirtual 170, 3) := by decide +kernel
theorem dX11_doubt_13 : decode cX11_doubt 13 = .ok (.ireturn, 1) := by decide +kernel
theorem dX11_doubt_14 : decode cX11_doubt 14 = .ok (.aload_n 0, 1) := by decide +kernel
theorem dX11_doubt_15 : decode cX11_doubt 15 = .ok (.getfield 9, 3) := by decide +kernel
theorem dX11_doubt_18 : decode cX11_doubt 18 = .ok (.iload_n 1, 1) := by decide +kernel
theorem dX11_doubt_19 : decode cX11_doubt 19 = .ok (.iaload, 1) := by decide +kernel
theorem dX11_doubt_20 : decode cX11_doubt 20 = .ok (.iconst 3, 1) := by decide +kernel
theorem dX11_doubt_21 : decode cX11_doubt 21 = .ok (.if_icmp .ne 10, 3) := by decide +kernel
theorem dX11_doubt_24 : decode cX11_doubt 24 = .ok (.aload_n 0, 1) := by decide +kernel
theorem dX11_doubt_25 : decode cX11_doubt 25 = .ok (.bipush (-2), 2) := by decide +kernel
theorem dX11_doubt_27 : decode cX11_doubt 27 = .ok (.invokevirtual 170, 3) := by decide +kernel
theorem dX11_doubt_30 : decode cX11_doubt 30 = .ok (.ireturn, 1) := by decide +kernel
theorem dX11_doubt_31 : decode cX11_doubt 31 = .ok (.aload_n 0, 1) := by decide +kernel
theorem dX11_doubt_32 : decode cX11_doubt 32 = .ok (.iload_n 1, 1) := by decide +kernel
theorem dX11_doubt_33 : decode cX11_doubt 33 = .ok (.invokevirtual 237, 3) := by decide +kernel
theorem dX11_doubt_36 : decode cX11_doubt 36 = .ok (.ifCond .ne 10, 3) := by decide +kernel
theorem dX11_doubt_39 : decode cX11_doubt 39 = .ok (.aload_n 0, 1) := by decide +kernel
theorem dX11_doubt_40 : decode cX11_doubt 40 = .ok (.bipush (-5), 2) := by decide +kernel
theorem dX11_doubt_42 : decode cX11_doubt 42 = .ok (.invokevirtual 170, 3) := by decide +kernel
theorem dX11_doubt_45 : decode cX11_doubt 45 = .ok (.ireturn, 1) := by decide +kernel
theorem dX11_doubt_46 : decode cX11_doubt 46 = .ok (.aload_n 0, 1) := by decide +kernel
theorem dX11_doubt_47 : decode cX11_doubt 47 = .ok (.getfield 243, 3) := by decide +kernel
theorem dX11_doubt_50 : decode cX11_doubt 50 = .ok (.bipush 20, 2) := by decide +kernel
theorem dX11_doubt_52 : decode cX11_doubt 52 = .ok (.if_icmp .eq 13, 3) := by decide +kernel
theorem dX11_doubt_55 : decode cX11_doubt 55 = .ok (.aload_n 0, 1) := by decide +kernel
theorem dX11_doubt_56 : decode cX11_doubt 56 = .ok (.getfield 199, 3) := by decide +kernel
theorem dX11_doubt_59 : decode cX11_doubt 59 = .ok (.sipush 600, 3) := by decide +kernel
theorem dX11_doubt_62 : decode cX11_doubt 62 = .ok (.if_icmp .ne 10, 3) := by decide +kernel
theorem dX11_doubt_65 : decode cX11_doubt 65 = .ok (.aload_n 0, 1) := by decide +kernel
theorem dX11_doubt_66 : decode cX11_doubt 66 = .ok (.bipush (-6), 2) := by decide +kernel
theorem dX11_doubt_68 : decode cX11_doubt 68 = .ok (.invokevirtual 170, 3) := by decide +kernel
theorem dX11_doubt_71 : decode cX11_doubt 71 = .ok (.ireturn, 1) := by decide +kernel
theorem dX11_doubt_72 : decode cX11_doubt 72 = .ok (.aload_n 0, 1) := by decide +kernel
theorem dX11_doubt_73 : decode cX11_doubt 73 = .ok (.getfield 112, 3) := by decide +kernel
theorem dX11_doubt_76 : decode cX11_doubt 76 = .ok (.aload_n 0, 1) := by decide +kernel
theorem dX11_doubt_77 : decode cX11_doubt 77 = .ok (.getfield 243, 3) := by decide +kernel
theorem dX11_doubt_80 : decode cX11_doubt 80 = .ok (.iload_n 1, 1) := by decide +kernel
theorem dX11_doubt_81 : decode cX11_doubt 81 = .ok (.iastore, 1) := by decide +kernel
theorem dX11_doubt_82 : decode cX11_doubt 82 = .ok (.iconst 0, 1) := by decide +kernel
theorem dX11_doubt_83 : decode cX11_doubt 83 = .ok (.istore_n 2, 1) := by decide +kernel
theorem dX11_doubt_84 : decode cX11_doubt 84 = .ok (.iload_n 2, 1) := by decide +kernel
theorem dX11_doubt_85 : decode cX11_doubt 85 = .ok (.bipush 8, 2) := by decide +kernel
theorem dX11_doubt_87 : decode cX11_doubt 87 = .ok (.if_icmp .ge 24, 3) := by decide +kernel
theorem dX11_doubt_90 : decode cX11_doubt 90 = .ok (.aload_n 0, 1) := by decide +kernel
theorem dX11_doubt_91 : decode cX11_doubt 91 = .ok (.getfield 121, 3) := by decide +kernel
theorem dX11_doubt_94 : decode cX11_doubt 94 = .ok (.bipush 8, 2) := by decide +kernel
theorem dX11_doubt_96 : decode cX11_doubt 96 = .ok (.aload_n 0, 1) := by decide +kernel
theorem dX11_doubt_97 : decode cX11_doubt 97 = .ok (.getfield 243, 3) := by decide +kernel
theorem dX11_doubt_100 : decode cX11_doubt 100 = .ok (.imul, 1) := by decide +kernel
theorem dX11_doubt_101 : decode cX11_doubt 101 = .ok (.iload_n 2, 1) := by decide +kernel
theorem dX11_doubt_102 : decode cX11_doubt 102 = .ok (.iadd, 1) := by decide +kernel
theorem dX11_doubt_103 : decode cX11_doubt 103 = .ok (.iconst (-1), 1) := by decide +kernel
theorem dX11_doubt_104 : decode cX11_doubt 104 = .ok (.iastore, 1) := by decide +kernel
theorem dX11_doubt_105 : decode cX11_doubt 105 = .ok (.iinc 2 1, 3) := by decide +kernel
theorem dX11_doubt_108 : decode cX11_doubt 108 = .ok (.goto (-24), 3) := by decide +kernel
theorem dX11_doubt_111 : decode cX11_doubt 111 = .ok (.aload_n 0, 1) := by decide +kernel
theorem dX11_doubt_112 : decode cX11_doubt 112 = .ok (.iconst 4, 1) := by decide +kernel
theorem dX11_doubt_113 : decode cX11_doubt 113 = .ok (.aload_n 0, 1) := by decide +kernel
theorem dX11_doubt_114 : decode cX11_doubt 114 = .ok (.getfield 13, 3) := by decide +kernel
theorem dX11_doubt_117 : decode cX11_doubt 117 = .ok (.iload_n 1, 1) := by decide +kernel
theorem dX11_doubt_118 : decode cX11_doubt 118 = .ok (.iaload, 1) := by decide +kernel
theorem dX11_doubt_119 : decode cX11_doubt 119 = .ok (.aload_n 0, 1) := by decide +kernel
theorem dX11_doubt_120 : decode cX11_doubt 120 = .ok (.getfield 13, 3) := by decide +kernel
theorem dX11_doubt_123 : decode cX11_doubt 123 = .ok (.iload_n 1, 1) := by decide +kernel
theorem dX11_doubt_124 : decode cX11_doubt 124 = .ok (.iaload, 1) := by decide +kernel
theorem dX11_doubt_125 : decode cX11_doubt 125 = .ok (.iload_n 1, 1) := by decide +kernel
theorem dX11_doubt_126 : decode cX11_doubt 126 = .ok (.iconst 0, 1) := by decide +kernel
theorem dX11_doubt_127 : decode cX11_doubt 127 = .ok (.invokevirtual 202, 3) := by decide +kernel
theorem dX11_doubt_130 : decode cX11_doubt 130 = .ok (.istore_n 2, 1) := by decide +kernel
theorem dX11_doubt_131 : decode cX11_doubt 131 = .ok (.aload_n 0, 1) := by decide +kernel
theorem dX11_doubt_132 : decode cX11_doubt 132 = .ok (.getfield 73, 3) := by decide +kernel
theorem dX11_doubt_135 : decode cX11_doubt 135 = .ok (.iload_n 2, 1) := by decide +kernel
theorem dX11_doubt_136 : decode cX11_doubt 136 = .ok (.aload_n 0, 1) := by decide +kernel
theorem dX11_doubt_137 : decode cX11_doubt 137 = .ok (.getfield 243, 3) := by decide +kernel
theorem dX11_doubt_140 : decode cX11_doubt 140 = .ok (.iastore, 1) := by decide +kernel
theorem dX11_doubt_141 : decode cX11_doubt 141 = .ok (.aload_n 0, 1) := by decide +kernel
theorem dX11_doubt_142 : decode cX11_doubt 142 = .ok (.dup, 1) := by decide +kernel
theorem dX11_doubt_143 : decode cX11_doubt 143 = .ok (.getfield 243, 3) := by decide +kernel
theorem dX11_doubt_146 : decode cX11_doubt 146 = .ok (.iconst 1, 1) := by decide +kernel
theorem dX11_doubt_147 : decode cX11_doubt 147 = .ok (.iadd, 1) := by decide +kernel
theorem dX11_doubt_148 : decode cX11_doubt 148 = .ok (.putfield 243, 3) := by decide +kernel
theorem dX11_doubt_151 : decode cX11_doubt 151 = .ok (.aload_n 0, 1) := by decide +kernel
theorem dX11_doubt_152 : decode cX11_doubt 152 = .ok (.getfield 243, 3) := by decide +kernel
theorem dX11_doubt_155 : decode cX11_doubt 155 = .ok (.iconst 1, 1) := by decide +kernel
theorem dX11_doubt_156 : decode cX11_doubt 156 = .ok (.isub, 1) := by decide +kernel
theorem dX11_doubt_157 : decode cX11_doubt 157 = .ok (.ireturn, 1) := by decide +kernel
def fX11_doubt_65 (o : Nat) (h : Hz) : Option (Int32 × Hz) := (b1 (tg 11 o h) fun _ => (b2 (fX11_refuse o (-6) h) fun x2 s3 => some (x2, s3)))
set_option maxHeartbeats 4000000 in
set_option maxRecDepth 100000 in
theorem wX11_doubt_65 {r0 : Int32} {h0 : Hz} (X : zX A D cy p s m args c cX11_doubt RX11 3) (hlk : meth.locks = false) (hr : meth.sig.returnType = (some .int)) (o : Nat) (h : Hz) (H : Heap) (locs : List Loc) (ls : Array Slot) (hl : lv_has ls 3 [(0, .ref o)]) (hW : zW A cy D h H) (hS : va_S A s.heap H locs) (h : fX11_doubt_65 o h = some (r0, h0)) : W p l e ({ frames := 2, cells := 0, slots := 0, locals := 42 } : Room) s m args below meth c H locs 0 0 (MQ below (va_Qi (fun r1 u => r1 = r0 ∧ u = h0) (zB A D cy) A) args s 0 0 A) (F0 m 65 ls []) := by
  obtain ⟨hx, hb, hts, hown, hK9, hml, hN9, hA9⟩ := id X
  unfold fX11_doubt_65 at h
  refine lv_aload_n hx hb dX11_doubt_65 rfl (lv_at hl 0 rfl) ?_
  refine lv_bipush (v := (-6)) hx hb dX11_doubt_66 (by decide) ?_
  replace h := b1_some h
  obtain ⟨q1, gq1, h⟩ := h
  replace h := b2_some h
  obtain ⟨x2, s3, gs3, h⟩ := h
  refine z_callVi (rest := []) X hW hS (cX11_refuse_met gs3) kb_X11_refuse kv_X11_refuse kl_X11_170 (it_v gq1).1 kX11 rfl rfl ⟨Nat.le_of_ble_eq_true rfl, Nat.le_of_ble_eq_true rfl⟩ rfl rfl (by decide) hl.1 dX11_doubt_68 ⟨(by decide), (by decide)⟩ (fun H locs hW hS => ?_)
  exact z_eti X hlk hr hW hS h (by decide) (by decide) dX11_doubt_71

def fX11_doubt_84 : Nat → Nat → Int32 → Int32 → Hz → Option (Int32 × Hz)
  | 0, _, _, _, _ => none
  | n + 1, o, v1, v2, h => (if 8 ≤ v2 then (b1 (gA 11 1 o h) fun a2 => (b1 (xI 12 a2 v1 h) fun x3 => (b1 (gA 11 1 o h) fun a4 => (b1 (xI 12 a4 v1 h) fun x5 => (b1 (tg 11 o h) fun _ => (b2 (fX11_letter o 4 x3 x5 v1 0 h) fun x7 s8 => (b1 (gA 11 21 o s8) fun a9 => (b1 (gI 11 46 o s8) fun x10 => (b1 (yI a9 x7 x10 s8) fun s11 => (b1 (gI 11 46 o s11) fun x12 => (b1 (pI 11 46 o (x12 + 1) s11) fun s13 => (b1 (gI 11 46 o s13) fun x14 => some ((x14 - 1), s13))))))))))))) else (b1 (gA 11 41 o h) fun a15 => (b1 (gI 11 46 o h) fun x16 => (b1 (yI a15 ((8 * x16) + v2) (-1) h) fun s17 => fX11_doubt_84 n o v1 (v2 + 1) s17))))
set_option maxHeartbeats 4000000 in
set_option maxRecDepth 100000 in
theorem wX11_doubt_84 {r0 : Int32} {h0 : Hz} (X : zX A D cy p s m args c cX11_doubt RX11 3) (hlk : meth.locks = false) (hr : meth.sig.returnType = (some .int)) : ∀ (n : Nat) (o : Nat) (v1 : Int32) (v2 : Int32) (h : Hz) (H : Heap) (locs : List Loc) (ls : Array Slot) (hl : lv_has ls 3 [(0, .ref o), (1, .int v1), (2, .int v2)]) (hW : zW A cy D h H) (hS : va_S A s.heap H locs) (h : fX11_doubt_84 n o v1 v2 h = some (r0, h0)), W p l e ({ frames := 2, cells := 0, slots := 0, locals := 42 } : Room) s m args below meth c H locs 0 0 (MQ below (va_Qi (fun r1 u => r1 = r0 ∧ u = h0) (zB A D cy) A) args s 0 0 A) (F0 m 84 ls []) := by
  obtain ⟨hx, hb, hts, hown, hK9, hml, hN9, hA9⟩ := id X
  intro n
  induction n with
  | zero =>
    intro o v1 v2 h H locs ls hl hW hS h
    rw [fX11_doubt_84] at h
    cases h
  | succ n ih =>
    intro o v1 v2 h H locs ls hl hW hS h
    rw [fX11_doubt_84] at h
    refine lv_iload_n hx hb dX11_doubt_84 rfl (lv_at hl 2 rfl) ?_
    refine lv_bipush (v := 8) hx hb dX11_doubt_85 (by decide) ?_
    refine lv_icmp_ge (tgt := 111) hx hb dX11_doubt_87 (by decide) (fun c1 => ?_) (fun c1 => ?_)
    · replace h := it_t h c1
      refine lv_aload_n hx hb dX11_doubt_111 rfl (lv_at hl 0 rfl) ?_
      refine lv_iconst (v := 4) hx hb dX11_doubt_112 (by decide) ?_
      refine lv_aload_n hx hb dX11_doubt_113 rfl (lv_at hl 0 rfl) ?_
      replace h := b1_some h
      obtain ⟨a2, ga2, h⟩ := h
      refine z_getA X hW ga2 kX11 (by decide) (by decide) kf_X11_13 dX11_doubt_114 ?_
      refine lv_iload_n hx hb dX11_doubt_117 rfl (lv_at hl 1 rfl) ?_
      replace h := b1_some h
      obtain ⟨x3, gx3, h⟩ := h
      refine z_aldI X hW gx3 dX11_doubt_118 ?_
      refine lv_aload_n hx hb dX11_doubt_119 rfl (lv_at hl 0 rfl) ?_
      replace h := b1_some h
      obtain ⟨a4, ga4, h⟩ := h
      refine z_getA X hW ga4 kX11 (by decide) (by decide) kf_X11_13 dX11_doubt_120 ?_
      refine lv_iload_n hx hb dX11_doubt_123 rfl (lv_at hl 1 rfl) ?_
      replace h := b1_some h
      obtain ⟨x5, gx5, h⟩ := h
      refine z_aldI X hW gx5 dX11_doubt_124 ?_
      refine lv_iload_n hx hb dX11_doubt_125 rfl (lv_at hl 1 rfl) ?_
      refine lv_iconst (v := 0) hx hb dX11_doubt_126 (by decide) ?_
      replace h := b1_some h
      obtain ⟨q6, gq6, h⟩ := h
      replace h := b2_some h
      obtain ⟨x7, s8, gs8, h⟩ := h
      refine z_callVi (rest := []) X hW hS (cX11_letter_met gs8) kb_X11_letter kv_X11_letter kl_X11_202 (it_v gq6).1 kX11 rfl rfl ⟨Nat.le_of_ble_eq_true rfl, Nat.le_of_ble_eq_true rfl⟩ rfl rfl (by decide) hl.1 dX11_doubt_127 ⟨(by decide), (by decide)⟩ (fun H locs hW hS => ?_)
      refine lv_istore_n (lv' := [(2, .int x7), (0, .ref o), (1, .int v1)]) hx hb dX11_doubt_130 rfl hl (by decide) rfl (fun ls hl => ?_)
      refine lv_aload_n hx hb dX11_doubt_131 rfl (lv_at hl 1 rfl) ?_
      replace h := b1_some h
      obtain ⟨a9, ga9, h⟩ := h
      refine z_getA X hW ga9 kX11 (by decide) (by decide) kf_X11_73 dX11_doubt_132 ?_
      refine lv_iload_n hx hb dX11_doubt_135 rfl (lv_at hl 0 rfl) ?_
      refine lv_aload_n hx hb dX11_doubt_136 rfl (lv_at hl 1 rfl) ?_
      replace h := b1_some h
      obtain ⟨x10, gx10, h⟩ := h
      refine z_getI X hW gx10 kX11 (by decide) (by decide) kf_X11_243 dX11_doubt_137 ?_
      replace h := b1_some h
      obtain ⟨s11, gs11, h⟩ := h
      refine z_astI X hW hS gs11 dX11_doubt_140 (fun H locs hW hS => ?_)
      refine lv_aload_n hx hb dX11_doubt_141 rfl (lv_at hl 1 rfl) ?_
      refine lv_dup hx hb dX11_doubt_142 rfl ?_
      replace h := b1_some h
      obtain ⟨x12, gx12, h⟩ := h
      refine z_getI X hW gx12 kX11 (by decide) (by decide) kf_X11_243 dX11_doubt_143 ?_
      refine lv_iconst (v := 1) hx hb dX11_doubt_146 (by decide) ?_
      refine lv_iadd hx hb dX11_doubt_147 ?_
      replace h := b1_some h
      obtain ⟨s13, gs13, h⟩ := h
      refine z_putI X hW hS gs13 kX11 (by decide) (by decide) rfl (Or.inl rfl) kf_X11_243 dX11_doubt_148 (fun H locs hW hS => ?_)
      refine lv_aload_n hx hb dX11_doubt_151 rfl (lv_at hl 1 rfl) ?_
      replace h := b1_some h
      obtain ⟨x14, gx14, h⟩ := h
      refine z_getI X hW gx14 kX11 (by decide) (by decide) kf_X11_243 dX11_doubt_152 ?_
      refine lv_iconst (v := 1) hx hb dX11_doubt_155 (by decide) ?_
      refine lv_isub hx hb dX11_doubt_156 ?_
      exact z_eti X hlk hr hW hS h (by decide) (by decide) dX11_doubt_157
    · replace h := it_f h c1
      refine lv_aload_n hx hb dX11_doubt_90 rfl (lv_at hl 0 rfl) ?_
      replace h := b1_some h
      obtain ⟨a15, ga15, h⟩ := h
      refine z_getA X hW ga15 kX11 (by decide) (by decide) kf_X11_121 dX11_doubt_91 ?_
      refine lv_bipush (v := 8) hx hb dX11_doubt_94 (by decide) ?_
      refine lv_aload_n hx hb dX11_doubt_96 rfl (lv_at hl 0 rfl) ?_
      replace h := b1_some h
      obtain ⟨x16, gx16, h⟩ := h
      refine z_getI X hW gx16 kX11 (by decide) (by decide) kf_X11_243 dX11_doubt_97 ?_
      refine lv_imul hx hb dX11_doubt_100 ?_
      refine lv_iload_n hx hb dX11_doubt_101 rfl (lv_at hl 2 rfl) ?_
      refine lv_iadd hx hb dX11_doubt_102 ?_
      refine lv_iconst (v := (-1)) hx hb dX11_doubt_103 (by decide) ?_
      replace h := b1_some h
      obtain ⟨s17, gs17, h⟩ := h
      refine z_astI X hW hS gs17 dX11_doubt_104 (fun H locs hW hS => ?_)
      refine lv_iinc (v := (v2 + 1)) (lv' := [(2, .int (v2 + 1)), (0, .ref o), (1, .int v1)]) hx hb dX11_doubt_105 hl (k := 2) rfl rfl (by decide) rfl (fun ls hl => ?_)
      refine lv_goto (tgt := 84) hx hb dX11_doubt_108 (by decide) ?_
      exact ih o v1 (v2 + 1) _ _ _ _ (lv_sub hl [1, 2, 0] rfl) hW hS h

def fX11_doubt (o : Nat) (v1 : Int32) (h : Hz) : Option (Int32 × Hz) := (b1 (tg 11 o h) fun _ => (b2 (fX11_isThere o v1 h) fun x2 s3 => (if x2 = 0 then (b1 (tg 11 o s3) fun _ => (b2 (fX11_refuse o (-1) s3) fun x26 s27 => some (x26, s27))) else (b1 (gA 11 0 o s3) fun a5 => (b1 (xI 12 a5 v1 s3) fun x6 => (if x6 = 3 then (b1 (tg 11 o s3) fun _ => (b2 (fX11_refuse o (-2) s3) fun x23 s24 => some (x23, s24))) else (b1 (tg 11 o s3) fun _ => (b2 (fX11_holdsOut o v1 s3) fun x9 s10 => (if x9 = 0 then (b1 (tg 11 o s10) fun _ => (b2 (fX11_refuse o (-5) s10) fun x20 s21 => some (x20, s21))) else (b1 (gI 11 46 o s10) fun x12 => (if x12 = 20 then fX11_doubt_65 o s10 else (b1 (gI 11 24 o s10) fun x14 => (if x14 = 600 then fX11_doubt_65 o s10 else (b1 (gA 11 38 o s10) fun a16 => (b1 (gI 11 46 o s10) fun x17 => (b1 (yI a16 x17 v1 s10) fun s18 => fX11_doubt_84 100000 o v1 0 s18))))))))))))))))
set_option maxHeartbeats 4000000 in
set_option maxRecDepth 100000 in
theorem wX11_doubt_0 {r0 : Int32} {h0 : Hz} (X : zX A D cy p s m args c cX11_doubt RX11 3) (hlk : meth.locks = false) (hr : meth.sig.returnType = (some .int)) (o : Nat) (v1 : Int32) (h : Hz) (H : Heap) (locs : List Loc) (ls : Array Slot) (hl : lv_has ls 3 [(0, .ref o), (1, .int v1)]) (hW : zW A cy D h H) (hS : va_S A s.heap H locs) (h : fX11_doubt o v1 h = some (r0, h0)) : W p l e ({ frames := 2, cells := 0, slots := 0, locals := 42 } : Room) s m args below meth c H locs 0 0 (MQ below (va_Qi (fun r1 u => r1 = r0 ∧ u = h0) (zB A D cy) A) args s 0 0 A) (F0 m 0 ls []) := by
  obtain ⟨hx, hb, hts, hown, hK9, hml, hN9, hA9⟩ := id X
  unfold fX11_doubt at h
  refine lv_aload_n hx hb dX11_doubt_0 rfl (lv_at hl 0 rfl) ?_
  refine lv_iload_n hx hb dX11_doubt_1 rfl (lv_at hl 1 rfl) ?_
  replace h := b1_some h
  obtain ⟨q1, gq1, h⟩ := h
  replace h := b2_some h
  obtain ⟨x2, s3, gs3, h⟩ := h
  refine z_callVi (rest := []) X hW hS (cX11_isThere_met gs3) kb_X11_isThere kv_X11_isThere kl_X11_178 (it_v gq1).1 kX11 rfl rfl ⟨Nat.le_of_ble_eq_true rfl, Nat.le_of_ble_eq_true rfl⟩ rfl rfl (by decide) hl.1 dX11_doubt_2 ⟨(by decide), (by decide)⟩ (fun H locs hW hS => ?_)
  refine lv_if_ne (tgt := 14) hx hb dX11_doubt_5 (by decide) (fun c4 => ?_) (fun c4 => ?_)
  · replace h := it_f h c4
    refine lv_aload_n hx hb dX11_doubt_14 rfl (lv_at hl 0 rfl) ?_
    replace h := b1_some h
    obtain ⟨a5, ga5, h⟩ := h
    refine z_getA X hW ga5 kX11 (by decide) (by decide) kf_X11_9 dX11_doubt_15 ?_
    refine lv_iload_n hx hb dX11_doubt_18 rfl (lv_at hl 1 rfl) ?_
    replace h := b1_some h
    obtain ⟨x6, gx6, h⟩ := h
    refine z_aldI X hW gx6 dX11_doubt_19 ?_
    refine lv_iconst (v := 3) hx hb dX11_doubt_20 (by decide) ?_
    refine lv_icmp_ne (tgt := 31) hx hb dX11_doubt_21 (by decide) (fun c7 => ?_) (fun c7 => ?_)
    · replace h := it_f h c7
      refine lv_aload_n hx hb dX11_doubt_31 rfl (lv_at hl 0 rfl) ?_
      refine lv_iload_n hx hb dX11_doubt_32 rfl (lv_at hl 1 rfl) ?_
      replace h := b1_some h
      obtain ⟨q8, gq8, h⟩ := h
      replace h := b2_some h
      obtain ⟨x9, s10, gs10, h⟩ := h
      refine z_callVi (rest := []) X hW hS (cX11_holdsOut_met gs10) kb_X11_holdsOut kv_X11_holdsOut kl_X11_237 (it_v gq8).1 kX11 rfl rfl ⟨Nat.le_of_ble_eq_true rfl, Nat.le_of_ble_eq_true rfl⟩ rfl rfl (by decide) hl.1 dX11_doubt_33 ⟨(by decide), (by decide)⟩ (fun H locs hW hS => ?_)
      refine lv_if_ne (tgt := 46) hx hb dX11_doubt_36 (by decide) (fun c11 => ?_) (fun c11 => ?_)
      · replace h := it_f h c11
        refine lv_aload_n hx hb dX11_doubt_46 rfl (lv_at hl 0 rfl) ?_
        replace h := b1_some h
        obtain ⟨x12, gx12, h⟩ := h
        refine z_getI X hW gx12 kX11 (by decide) (by decide) kf_X11_243 dX11_doubt_47 ?_
        refine lv_bipush (v := 20) hx hb dX11_doubt_50 (by decide) ?_
        refine lv_icmp_eq (tgt := 65) hx hb dX11_doubt_52 (by decide) (fun c13 => ?_) (fun c13 => ?_)
        · replace h := it_t h c13
          exact wX11_doubt_65 X hlk hr o _ _ _ _ (lv_sub hl [0] rfl) hW hS h
        · replace h := it_f h c13
          refine lv_aload_n hx hb dX11_doubt_55 rfl (lv_at hl 0 rfl) ?_
          replace h := b1_some h
          obtain ⟨x14, gx14, h⟩ := h
          refine z_getI X hW gx14 kX11 (by decide) (by decide) kf_X11_199 dX11_doubt_56 ?_
          refine lv_sipush (v := 600) hx hb dX11_doubt_59 (by decide) ?_
          refine lv_icmp_ne (tgt := 72) hx hb dX11_doubt_62 (by decide) (fun c15 => ?_) (fun c15 => ?_)
          · replace h := it_f h c15
            refine lv_aload_n hx hb dX11_doubt_72 rfl (lv_at hl 0 rfl) ?_
            replace h := b1_some h
            obtain ⟨a16, ga16, h⟩ := h
            refine z_getA X hW ga16 kX11 (by decide) (by decide) kf_X11_112 dX11_doubt_73 ?_
            refine lv_aload_n hx hb dX11_doubt_76 rfl (lv_at hl 0 rfl) ?_
            replace h := b1_some h
            obtain ⟨x17, gx17, h⟩ := h
            refine z_getI X hW gx17 kX11 (by decide) (by decide) kf_X11_243 dX11_doubt_77 ?_
            refine lv_iload_n hx hb dX11_doubt_80 rfl (lv_at hl 1 rfl) ?_
            replace h := b1_some h
            obtain ⟨s18, gs18, h⟩ := h
            refine z_astI X hW hS gs18 dX11_doubt_81 (fun H locs hW hS => ?_)
            refine lv_iconst (v := 0) hx hb dX11_doubt_82 (by decide) ?_
            refine lv_istore_n (lv' := [(2, .int 0), (0, .ref o), (1, .int v1)]) hx hb dX11_doubt_83 rfl hl (by decide) rfl (fun ls hl => ?_)
            exact wX11_doubt_84 X hlk hr _ o v1 0 _ _ _ _ (lv_sub hl [1, 2, 0] rfl) hW hS h
          · replace h := it_t h c15
            exact wX11_doubt_65 X hlk hr o _ _ _ _ (lv_sub hl [0] rfl) hW hS h
      · replace h := it_t h c11
        refine lv_aload_n hx hb dX11_doubt_39 rfl (lv_at hl 0 rfl) ?_
        refine lv_bipush (v := (-5)) hx hb dX11_doubt_40 (by decide) ?_
        replace h := b1_some h
        obtain ⟨q19, gq19, h⟩ := h
        replace h := b2_some h
        obtain ⟨x20, s21, gs21, h⟩ := h
        refine z_callVi (rest := []) X hW hS (cX11_refuse_met gs21) kb_X11_refuse kv_X11_refuse kl_X11_170 (it_v gq19).1 kX11 rfl rfl ⟨Nat.le_of_ble_eq_true rfl, Nat.le_of_ble_eq_true rfl⟩ rfl rfl (by decide) hl.1 dX11_doubt_42 ⟨(by decide), (by decide)⟩ (fun H locs hW hS => ?_)
        exact z_eti X hlk hr hW hS h (by decide) (by decide) dX11_doubt_45
    · replace h := it_t h c7
      refine lv_aload_n hx hb dX11_doubt_24 rfl (lv_at hl 0 rfl) ?_
      refine lv_bipush (v := (-2)) hx hb dX11_doubt_25 (by decide) ?_
      replace h := b1_some h
      obtain ⟨q22, gq22, h⟩ := h
      replace h := b2_some h
      obtain ⟨x23, s24, gs24, h⟩ := h
      refine z_callVi (rest := []) X hW hS (cX11_refuse_met gs24) kb_X11_refuse kv_X11_refuse kl_X11_170 (it_v gq22).1 kX11 rfl rfl ⟨Nat.le_of_ble_eq_true rfl, Nat.le_of_ble_eq_true rfl⟩ rfl rfl (by decide) hl.1 dX11_doubt_27 ⟨(by decide), (by decide)⟩ (fun H locs hW hS => ?_)
      exact z_eti X hlk hr hW hS h (by decide) (by decide) dX11_doubt_30
  · replace h := it_t h c4
    refine lv_aload_n hx hb dX11_doubt_8 rfl (lv_at hl 0 rfl) ?_
    refine lv_iconst (v := (-1)) hx hb dX11_doubt_9 (by decide) ?_
    replace h := b1_some h
    obtain ⟨q25, gq25, h⟩ := h
    replace h := b2_some h
    obtain ⟨x26, s27, gs27, h⟩ := h
    refine z_callVi (rest := []) X hW hS (cX11_refuse_met gs27) kb_X11_refuse kv_X11_refuse kl_X11_170 (it_v gq25).1 kX11 rfl rfl ⟨Nat.le_of_ble_eq_true rfl, Nat.le_of_ble_eq_true rfl⟩ rfl rfl (by decide) hl.1 dX11_doubt_10 ⟨(by decide), (by decide)⟩ (fun H locs hW hS => ?_)
    exact z_eti X hlk hr hW hS h (by decide) (by decide) dX11_doubt_13

set_option maxHeartbeats 4000000 in
set_option maxRecDepth 100000 in
theorem cX11_doubt_met {l : Launch} {A : Nat → Prop} {D : va_G} {cy : Nat → ClassId} {r0 : Int32} {h0 : Hz} {o : Nat} {v1 : Int32} {h : Hz} (g : fX11_doubt o v1 h = some (r0, h0)) : Met l yX11_doubt (Cond.code yX11_doubt cX11_doubt 3 (some .int) :: wT) ({ frames := 2, cells := 0, slots := 0, locals := 42 } : Room) (va_Pc [.ref o, .int v1] (zS A D cy h)) (va_Qi (fun r1 u => r1 = r0 ∧ u = h0) (zB A D cy) A) 0 0 A := by
  refine Met.ofW (cc := cX11_doubt) (maxL := 3) (ret := (some .int)) (by decide) rfl ?_
  intro p e s m args below meth c s₁ B hml hv
  obtain ⟨rfl, hW, hK, hN, hA⟩ := hv
  have X : zX A D cy p s m _ c cX11_doubt RX11 3 := ⟨B.exec, B.bytes, fun w hw => atoms_spec (ws := Cond.code yX11_doubt cX11_doubt 3 (some .int) :: wT) B.pre w (List.mem_cons_of_mem _ hw), findClass_of_methodNamed B.named, hK, hml, hN, hA⟩
  have hl := lv_entry [.ref o, .int v1] (n := 3) (Nat.le_of_ble_eq_true rfl)
  rw [lg_entry_eq]
  generalize (lg_sl [.ref o, .int v1] ++ List.replicate (3 - (lg_sl [.ref o, .int v1]).length) Slot.unset).toArray = ls at hl ⊢
  have hl : lv_has ls 3 [(0, .ref o), (1, .int v1)] := hl
  exact wX11_doubt_0 X B.notSynchronized B.returns o v1 _ _ _ _ (lv_sub hl [0, 1] rfl) hW va_S.rf g

theorem dX11_walk_0 : decode cX11_walk 0 = .ok (.iload_n 1, 1) := by decide +kernel
theorem dX11_walk_1 : decode cX11_walk 1 = .ok (.aload_n 0, 1) := by decide +kernel
theorem dX11_walk_2 : decode cX11_walk 2 = .ok (.getfield 243, 3) := by decide +kernel
theorem dX11_walk_5 : decode cX11_walk 5 = .ok (.invokestatic 149, 3) := by decide +kernel
theorem dX11_walk_8 : decode cX11_walk 8 = .ok (.ifCond .ne 5, 3) := by decide +kernel
theorem dX11_walk_11 : decode cX11_walk 11 = .ok (.iconst (-1), 1) := by decide +kernel
theorem dX11_walk_12 : decode cX11_walk 12 = .ok (.ireturn, 1) := by decide +kernel
theorem dX11_walk_13 : decode cX11_walk 13 = .ok (.iconst 0, 1) := by decide +kernel
theorem dX11_walk_14 : decode cX11_walk 14 = .ok (.istore_n 3, 1) := by decide +kernel
theorem dX11_walk_15 : decode cX11_walk 15 = .ok (.iconst 0, 1) := by decide +kernel
theorem dX11_walk_16 : decode cX11_walk 16 = .ok (.istore 4, 2) := by decide +kernel
theorem dX11_walk_18 : decode cX11_walk 18 = .ok (.iconst 0, 1) := by decide +kernel
theorem dX11_walk_19 : decode cX11_walk 19 = .ok (.istore 5, 2) := by decide +kernel
theorem dX11_walk_21 : decode cX11_walk 21 = .ok (.iload 5, 2) := by decide +kernel
theorem dX11_walk_23 : decode cX11_walk 23 = .ok (.aload_n 0, 1) := by decide +kernel
theorem dX11_walk_24 : decode cX11_walk 24 = .ok (.getfield 145, 3) := by decide +kernel
theorem dX11_walk_27 : decode cX11_walk 27 = .ok (.if_icmp .ge 81, 3) := by decide +kernel
theorem dX11_walk_30 : decode cX11_walk 30 = .ok (.iload_n 3, 1) := by decide +kernel
theorem dX11_walk_31 : decode cX11_walk 31 = .ok (.aload_n 0, 1) := by decide +kernel
theorem dX11_walk_32 : decode cX11_walk 32 = .ok (.getfield 124, 3) := by decide +kernel
theorem dX11_walk_35 : decode cX11_walk 35 = .ok (.sipush 300, 3) := by decide +kernel
theorem dX11_walk_38 : decode cX11_walk 38 = .ok (.iload_n 1, 1) := by decide +kernel
theorem dX11_walk_39 : decode cX11_walk 39 = .ok (.imul, 1) := by decide +kernel
theorem dX11_walk_40 : decode cX11_walk 40 = .ok (.iload 5, 2) := by decide +kernel
theorem dX11_walk_42 : decode cX11_walk 42 = .ok (.iadd, 1) := by decide +kernel
theorem dX11_walk_43 : decode cX11_walk 43 = .ok (.baload, 1) := by decide +kernel
theorem dX11_walk_44 : decode cX11_walk 44 = .ok (.ifCond .eq 18, 3) := by decide +kernel
theorem dX11_walk_47 : decode cX11_walk 47 = .ok (.aload_n 0, 1) := by decide +kernel
theorem dX11_walk_48 : decode cX11_walk 48 = .ok (.getfield 9, 3) := by decide +kernel
theorem dX11_walk_51 : decode cX11_walk 51 = .ok (.iload 5, 2) := by decide +kernel
theorem dX11_walk_53 : decode cX11_walk 53 = .ok (.iaload, 1) := by decide +kernel
theorem dX11_walk_54 : decode cX11_walk 54 = .ok (.iconst 3, 1) := by decide +kernel
theorem dX11_walk_55 : decode cX11_walk 55 = .ok (.if_icmp .eq 7, 3) := by decide +kernel
theorem dX11_walk_58 : decode cX11_walk 58 = .ok (.iconst 1, 1) := by decide +kernel
theorem dX11_walk_59 : decode cX11_walk 59 = .ok (.goto 4, 3) := by decide +kernel
theorem dX11_walk_62 : decode cX11_walk 62 = .ok (.iconst 0, 1) := by decide +kernel
theorem dX11_walk_63 : decode cX11_walk 63 = .ok (.iadd, 1) := by decide +kernel
theorem dX11_walk_64 : decode cX11_walk 64 = .ok (.istore_n 3, 1) := by decide +kernel
theorem dX11_walk_65 : decode cX11_walk 65 = .ok (.iload 4, 2) := by decide +kernel
theorem dX11_walk_67 : decode cX11_walk 67 = .ok (.aload_n 0, 1) := by decide +kernel
theorem dX11_walk_68 : decode cX11_walk 68 = .ok (.getfield 124, 3) := by decide +kernel
theorem dX11_walk_71 : decode cX11_walk 71 = .ok (.sipush 300, 3) := by decide +kernel
theorem dX11_walk_74 : decode cX11_walk 74 = .ok (.iload_n 1, 1) := by decide +kernel
theorem dX11_walk_75 : decode cX11_walk 75 = .ok (.imul, 1) := by decide +kernel
theorem dX11_walk_76 : decode cX11_walk 76 = .ok (.iload 5, 2) := by decide +kernel
theorem dX11_walk_78 : decode cX11_walk 78 = .ok (.iadd, 1) := by decide +kernel
theorem dX11_walk_79 : decode cX11_walk 79 = .ok (.baload, 1) := by decide +kernel
theorem dX11_walk_80 : decode cX11_walk 80 = .ok (.ifCond .eq 18, 3) := by decide +kernel
theorem dX11_walk_83 : decode cX11_walk 83 = .ok (.aload_n 0, 1) := by decide +kernel
theorem dX11_walk_84 : decode cX11_walk 84 = .ok (.getfield 9, 3) := by decide +kernel
theorem dX11_walk_87 : decode cX11_walk 87 = .ok (.iload 5, 2) := by decide +kernel
theorem dX11_walk_89 : decode cX11_walk 89 = .ok (.iaload, 1) := by decide +kernel
theorem dX11_walk_90 : decode cX11_walk 90 = .ok (.iconst 3, 1) := by decide +kernel
theorem dX11_walk_91 : decode cX11_walk 91 = .ok (.if_icmp .ne 7, 3) := by decide +kernel
theorem dX11_walk_94 : decode cX11_walk 94 = .ok (.iconst 1, 1) := by decide +kernel
theorem dX11_walk_95 : decode cX11_walk 95 = .ok (.goto 4, 3) := by decide +kernel
theorem dX11_walk_98 : decode cX11_walk 98 = .ok (.iconst 0, 1) := by decide +kernel
theorem dX11_walk_99 : decode cX11_walk 99 = .ok (.iadd, 1) := by decide +kernel
theorem dX11_walk_100 : decode cX11_walk 100 = .ok (.istore 4, 2) := by decide +kernel
theorem dX11_walk_102 : decode cX11_walk 102 = .ok (.iinc 5 1, 3) := by decide +kernel
theorem dX11_walk_105 : decode cX11_walk 105 = .ok (.goto (-84), 3) := by decide +kernel
theorem dX11_walk_108 : decode cX11_walk 108 = .ok (.iload_n 2, 1) := by decide +kernel
theorem dX11_walk_109 : decode cX11_walk 109 = .ok (.tableswitch 74 0 5 #[39, 46, 53, 62, 69, 71], 39) := by decide +kernel
theorem dX11_walk_148 : decode cX11_walk 148 = .ok (.aload_n 0, 1) := by decide +kernel
theorem dX11_walk_149 : decode cX11_walk 149 = .ok (.getfield 109, 3) := by decide +kernel
theorem dX11_walk_152 : decode cX11_walk 152 = .ok (.iload_n 1, 1) := by decide +kernel
theorem dX11_walk_153 : decode cX11_walk 153 = .ok (.iaload, 1) := by decide +kernel
theorem dX11_walk_154 : decode cX11_walk 154 = .ok (.ireturn, 1) := by decide +kernel
theorem dX11_walk_155 : decode cX11_walk 155 = .ok (.aload_n 0, 1) := by decide +kernel
theorem dX11_walk_156 : decode cX11_walk 156 = .ok (.getfield 112, 3) := by decide +kernel
theorem dX11_walk_159 : decode cX11_walk 159 = .ok (.iload_n 1, 1) := by decide +kernel
theorem dX11_walk_160 : decode cX11_walk 160 = .ok (.iaload, 1) := by decide +kernel
theorem dX11_walk_161 : decode cX11_walk 161 = .ok (.ireturn, 1) := by decide +kernel
theorem dX11_walk_162 : decode cX11_walk 162 = .ok (.iconst 1, 1) := by decide +kernel
theorem dX11_walk_163 : decode cX11_walk 163 = .ok (.aload_n 0, 1) := by decide +kernel
theorem dX11_walk_164 : decode cX11_walk 164 = .ok (.getfield 118, 3) := by decide +kernel
theorem dX11_walk_167 : decode cX11_walk 167 = .ok (.iload_n 1, 1) := by decide +kernel
theorem dX11_walk_168 : decode cX11_walk 168 = .ok (.iaload, 1) := by decide +kernel
theorem dX11_walk_169 : decode cX11_walk 169 = .ok (.iadd, 1) := by decide +kernel
theorem dX11_walk_170 : decode cX11_walk 170 = .ok (.ireturn, 1) := by decide +kernel
theorem dX11_walk_171 : decode cX11_walk 171 = .ok (.aload_n 0, 1) := by decide +kernel
theorem dX11_walk_172 : decode cX11_walk 172 = .ok (.getfield 115, 3) := by decide +kernel
theorem dX11_walk_175 : decode cX11_walk 175 = .ok (.iload_n 1, 1) := by decide +kernel
theorem dX11_walk_176 : decode cX11_walk 176 = .ok (.iaload, 1) := by decide +kernel
theorem dX11_walk_177 : decode cX11_walk 177 = .ok (.ireturn, 1) := by decide +kernel
theorem dX11_walk_178 : decode cX11_walk 178 = .ok (.iload_n 3, 1) := by decide +kernel
theorem dX11_walk_179 : decode cX11_walk 179 = .ok (.ireturn, 1) := by decide +kernel
theorem dX11_walk_180 : decode cX11_walk 180 = .ok (.iload 4, 2) := by decide +kernel
theorem dX11_walk_182 : decode cX11_walk 182 = .ok (.ireturn, 1) := by decide +kernel
theorem dX11_walk_183 : decode cX11_walk 183 = .ok (.iconst (-1), 1) := by decide +kernel
theorem dX11_walk_184 : decode cX11_walk 184 = .ok (.ireturn, 1) := by decide +kernel
def fX11_walk_63 (K21 : Nat → Int32 → Int32 → Int32 → Int32 → Int32 → Hz → Option (Int32 × Hz)) (o : Nat) (v1 : Int32) (v2 : Int32) (v4 : Int32) (v5 : Int32) (w0 : Int32) (w1 : Int32) (h : Hz) : Option (Int32 × Hz) := (b1 (gA 11 42 o h) fun a1 => (b1 (xI 14 a1 ((300 * v1) + v5) h) fun x2 => (if x2 = 0 then K21 o v1 v2 (w1 + w0) (v4 + 0) (v5 + 1) h else (b1 (gA 11 0 o h) fun a4 => (b1 (xI 12 a4 v5 h) fun x5 => (if x5 = 3 then K21 o v1 v2 (w1 + w0) (v4 + 1) (v5 + 1) h else K21 o v1 v2 (w1 + w0) (v4 + 0) (v5 + 1) h))))))
set_option maxHeartbeats 4000000 in
set_option maxRecDepth 100000 in
theorem wX11_walk_63 {r0 : Int32} {h0 : Hz} (X : zX A D cy p s m args c cX11_walk RX11 6) (hlk : meth.locks = false) (hr : meth.sig.returnType = (some .int)) {K21 : Nat → Int32 → Int32 → Int32 → Int32 → Int32 → Hz → Option (Int32 × Hz)} (hK21 : ∀ (o : Nat) (u1 : Int32) (u2 : Int32) (u3 : Int32) (u4 : Int32) (u5 : Int32) (h : Hz) (H : Heap) (locs : List Loc) (ls : Array Slot), lv_has ls 6 [(0, .ref o), (1, .int u1), (2, .int u2), (3, .int u3), (4, .int u4), (5, .int u5)] → zW A cy D h H → va_S A s.heap H locs → K21 o u1 u2 u3 u4 u5 h = some (r0, h0) → W p l e ({ frames := 1, cells := 0, slots := 0, locals := 21 } : Room) s m args below meth c H locs 0 0 (MQ below (va_Qi (fun r1 u => r1 = r0 ∧ u = h0) (zB A D cy) A) args s 0 0 A) (F0 m 21 ls [])) (o : Nat) (v1 : Int32) (v2 : Int32) (v4 : Int32) (v5 : Int32) (w0 : Int32) (w1 : Int32) (h : Hz) (H : Heap) (locs : List Loc) (ls : Array Slot) (hl : lv_has ls 6 [(0, .ref o), (1, .int v1), (2, .int v2), (4, .int v4), (5, .int v5)]) (hW : zW A cy D h H) (hS : va_S A s.heap H locs) (h : fX11_walk_63 K21 o v1 v2 v4 v5 w0 w1 h = some (r0, h0)) : W p l e ({ frames := 1, cells := 0, slots := 0, locals := 21 } : Room) s m args below meth c H locs 0 0 (MQ below (va_Qi (fun r1 u => r1 = r0 ∧ u = h0) (zB A D cy) A) args s 0 0 A) (F0 m 63 ls [.int w0, .int w1]) := by
  obtain ⟨hx, hb, hts, hown, hK9, hml, hN9, hA9⟩ := id X
  unfold fX11_walk_63 at h
  refine lv_iadd hx hb dX11_walk_63 ?_
  refine lv_istore_n (lv' := [(3, .int (w1 + w0)), (0, .ref o), (1, .int v1), (2, .int v2), (4, .int v4), (5, .int v5)]) hx hb dX11_walk_64 rfl hl (by decide) rfl (fun ls hl => ?_)
  refine lv_iload hx hb dX11_walk_65 (lv_at hl 4 rfl) ?_
  refine lv_aload_n hx hb dX11_walk_67 rfl (lv_at hl 1 rfl) ?_
  replace h := b1_some h
  obtain ⟨a1, ga1, h⟩ := h
  refine z_getA X hW ga1 kX11 (by decide) (by decide) kf_X11_124 dX11_walk_68 ?_
  refine lv_sipush (v := 300) hx hb dX11_walk_71 (by decide) ?_
  refine lv_iload_n hx hb dX11_walk_74 rfl (lv_at hl 2 rfl) ?_
  refine lv_imul hx hb dX11_walk_75 ?_
  refine lv_iload hx hb dX11_walk_76 (lv_at hl 5 rfl) ?_
  refine lv_iadd hx hb dX11_walk_78 ?_
  replace h := b1_some h
  obtain ⟨x2, gx2, h⟩ := h
  refine z_aldZ X hW gx2 dX11_walk_79 ?_
  refine lv_if_eq (tgt := 98) hx hb dX11_walk_80 (by decide) (fun c3 => ?_) (fun c3 => ?_)
  · replace h := it_t h c3
    refine lv_iconst (v := 0) hx hb dX11_walk_98 (by decide) ?_
    refine lv_iadd hx hb dX11_walk_99 ?_
    refine lv_istore (lv' := [(4, .int (v4 + 0)), (3, .int (w1 + w0)), (0, .ref o), (1, .int v1), (2, .int v2), (5, .int v5)]) hx hb dX11_walk_100 hl (by decide) rfl (fun ls hl => ?_)
    refine lv_iinc (v := (v5 + 1)) (lv' := [(5, .int (v5 + 1)), (4, .int (v4 + 0)), (3, .int (w1 + w0)), (0, .ref o), (1, .int v1), (2, .int v2)]) hx hb dX11_walk_102 hl (k := 5) rfl rfl (by decide) rfl (fun ls hl => ?_)
    refine lv_goto (tgt := 21) hx hb dX11_walk_105 (by decide) ?_
    exact hK21 o v1 v2 (w1 + w0) (v4 + 0) (v5 + 1) _ _ _ _ (lv_sub hl [3, 4, 5, 2, 1, 0] rfl) hW hS h
  · replace h := it_f h c3
    refine lv_aload_n hx hb dX11_walk_83 rfl (lv_at hl 1 rfl) ?_
    replace h := b1_some h
    obtain ⟨a4, ga4, h⟩ := h
    refine z_getA X hW ga4 kX11 (by decide) (by decide) kf_X11_9 dX11_walk_84 ?_
    refine lv_iload hx hb dX11_walk_87 (lv_at hl 5 rfl) ?_
    replace h := b1_some h
    obtain ⟨x5, gx5, h⟩ := h
    refine z_aldI X hW gx5 dX11_walk_89 ?_
    refine lv_iconst (v := 3) hx hb dX11_walk_90 (by decide) ?_
    refine lv_icmp_ne (tgt := 98) hx hb dX11_walk_91 (by decide) (fun c6 => ?_) (fun c6 => ?_)
    · replace h := it_f h c6
      refine lv_iconst (v := 0) hx hb dX11_walk_98 (by decide) ?_
      refine lv_iadd hx hb dX11_walk_99 ?_
      refine lv_istore (lv' := [(4, .int (v4 + 0)), (3, .int (w1 + w0)), (0, .ref o), (1, .int v1), (2, .int v2), (5, .int v5)]) hx hb dX11_walk_100 hl (by decide) rfl (fun ls hl => ?_)
      refine lv_iinc (v := (v5 + 1)) (lv' := [(5, .int (v5 + 1)), (4, .int (v4 + 0)), (3, .int (w1 + w0)), (0, .ref o), (1, .int v1), (2, .int v2)]) hx hb dX11_walk_102 hl (k := 5) rfl rfl (by decide) rfl (fun ls hl => ?_)
      refine lv_goto (tgt := 21) hx hb dX11_walk_105 (by decide) ?_
      exact hK21 o v1 v2 (w1 + w0) (v4 + 0) (v5 + 1) _ _ _ _ (lv_sub hl [3, 4, 5, 2, 1, 0] rfl) hW hS h
    · replace h := it_t h c6
      refine lv_iconst (v := 1) hx hb dX11_walk_94 (by decide) ?_
      refine lv_goto (tgt := 99) hx hb dX11_walk_95 (by decide) ?_
      refine lv_iadd hx hb dX11_walk_99 ?_
      refine lv_istore (lv' := [(4, .int (v4 + 1)), (3, .int (w1 + w0)), (0, .ref o), (1, .int v1), (2, .int v2), (5, .int v5)]) hx hb dX11_walk_100 hl (by decide) rfl (fun ls hl => ?_)
      refine lv_iinc (v := (v5 + 1)) (lv' := [(5, .int (v5 + 1)), (4, .int (v4 + 1)), (3, .int (w1 + w0)), (0, .ref o), (1, .int v1), (2, .int v2)]) hx hb dX11_walk_102 hl (k := 5) rfl rfl (by decide) rfl (fun ls hl => ?_)
      refine lv_goto (tgt := 21) hx hb dX11_walk_105 (by decide) ?_
      exact hK21 o v1 v2 (w1 + w0) (v4 + 1) (v5 + 1) _ _ _ _ (lv_sub hl [3, 4, 5, 2, 1, 0] rfl) hW hS h

def fX11_walk_62 (K21 : Nat → Int32 → Int32 → Int32 → Int32 → Int32 → Hz → Option (Int32 × Hz)) (o : Nat) (v1 : Int32) (v2 : Int32) (v4 : Int32) (v5 : Int32) (w0 : Int32) (h : Hz) : Option (Int32 × Hz) := fX11_walk_63 K21 o v1 v2 v4 v5 0 w0 h
set_option maxHeartbeats 4000000 in
set_option maxRecDepth 100000 in
theorem wX11_walk_62 {r0 : Int32} {h0 : Hz} (X : zX A D cy p s m args c cX11_walk RX11 6) (hlk : meth.locks = false) (hr : meth.sig.returnType = (some .int)) {K21 : Nat → Int32 → Int32 → Int32 → Int32 → Int32 → Hz → Option (Int32 × Hz)} (hK21 : ∀ (o : Nat) (u1 : Int32) (u2 : Int32) (u3 : Int32) (u4 : Int32) (u5 : Int32) (h : Hz) (H : Heap) (locs : List Loc) (ls : Array Slot), lv_has ls 6 [(0, .ref o), (1, .int u1), (2, .int u2), (3, .int u3), (4, .int u4), (5, .int u5)] → zW A cy D h H → va_S A s.heap H locs → K21 o u1 u2 u3 u4 u5 h = some (r0, h0) → W p l e ({ frames := 1, cells := 0, slots := 0, locals := 21 } : Room) s m args below meth c H locs 0 0 (MQ below (va_Qi (fun r1 u => r1 = r0 ∧ u = h0) (zB A D cy) A) args s 0 0 A) (F0 m 21 ls [])) (o : Nat) (v1 : Int32) (v2 : Int32) (v4 : Int32) (v5 : Int32) (w0 : Int32) (h : Hz) (H : Heap) (locs : List Loc) (ls : Array Slot) (hl : lv_has ls 6 [(0, .ref o), (1, .int v1), (2, .int v2), (4, .int v4), (5, .int v5)]) (hW : zW A cy D h H) (hS : va_S A s.heap H locs) (h : fX11_walk_62 K21 o v1 v2 v4 v5 w0 h = some (r0, h0)) : W p l e ({ frames := 1, cells := 0, slots := 0, locals := 21 } : Room) s m args below meth c H locs 0 0 (MQ below (va_Qi (fun r1 u => r1 = r0 ∧ u = h0) (zB A D cy) A) args s 0 0 A) (F0 m 62 ls [.int w0]) := by
  obtain ⟨hx, hb, hts, hown, hK9, hml, hN9, hA9⟩ := id X
  unfold fX11_walk_62 at h
  refine lv_iconst (v := 0) hx hb dX11_walk_62 (by decide) ?_
  exact wX11_walk_63 X hlk hr hK21 o v1 v2 v4 v5 0 w0 _ _ _ _ (lv_sub hl [0, 1, 2, 3, 4] rfl) hW hS h

def fX11_walk_21 : Nat → Nat → Int32 → Int32 → Int32 → Int32 → Int32 → Hz → Option (Int32 × Hz)
  | 0, _, _, _, _, _, _, _ => none
  | n + 1, o, v1, v2, v3, v4, v5, h => (b1 (gI 11 9 o h) fun x1 => (if x1 ≤ v5 then (if v2 = 0 then (b1 (gA 11 37 o h) fun a4 => (b1 (xI 12 a4 v1 h) fun x5 => some (x5, h))) else (if v2 = 1 then (b1 (gA 11 38 o h) fun a7 => (b1 (xI 12 a7 v1 h) fun x8 => some (x8, h))) else (if v2 = 2 then (b1 (gA 11 40 o h) fun a10 => (b1 (xI 12 a10 v1 h) fun x11 => some ((1 + x11), h))) else (if v2 = 3 then (b1 (gA 11 39 o h) fun a13 => (b1 (xI 12 a13 v1 h) fun x14 => some (x14, h))) else (if v2 = 4 then some (v3, h) else (if v2 = 5 then some (v4, h) else some ((-1), h))))))) else (b1 (gA 11 42 o h) fun a17 => (b1 (xI 14 a17 ((300 * v1) + v5) h) fun x18 => (if x18 = 0 then fX11_walk_62 (fX11_walk_21 n) o v1 v2 v4 v5 v3 h else (b1 (gA 11 0 o h) fun a20 => (b1 (xI 12 a20 v5 h) fun x21 => (if x21 = 3 then fX11_walk_62 (fX11_walk_21 n) o v1 v2 v4 v5 v3 h else fX11_walk_63 (fX11_walk_21 n) o v1 v2 v4 v5 1 v3 h))))))))
set_option maxHeartbeats 4000000 in
set_option maxRecDepth 100000 in
theorem wX11_walk_21 {r0 : Int32} {h0 : Hz} (X : zX A D cy p s m args c cX11_walk RX11 6) (hlk : meth.locks = false) (hr : meth.sig.returnType = (some .int)) : ∀ (n : Nat) (o : Nat) (v1 : Int32) (v2 : Int32) (v3 : Int32) (v4 : Int32) (v5 : Int32) (h : Hz) (H : Heap) (locs : List Loc) (ls : Array Slot) (hl : lv_has ls 6 [(0, .ref o), (1, .int v1), (2, .int v2), (3, .int v3), (4, .int v4), (5, .int v5)]) (hW : zW A cy D h H) (hS : va_S A s.heap H locs) (h : fX11_walk_21 n o v1 v2 v3 v4 v5 h = some (r0, h0)), W p l e ({ frames := 1, cells := 0, slots := 0, locals := 21 } : Room) s m args below meth c H locs 0 0 (MQ below (va_Qi (fun r1 u => r1 = r0 ∧ u = h0) (zB A D cy) A) args s 0 0 A) (F0 m 21 ls []) := by
  obtain ⟨hx, hb, hts, hown, hK9, hml, hN9, hA9⟩ := id X
  intro n
  induction n with
  | zero =>
    intro o v1 v2 v3 v4 v5 h H locs ls hl hW hS h
    rw [fX11_walk_21] at h
    cases h
  | succ n ih =>
    intro o v1 v2 v3 v4 v5 h H locs ls hl hW hS h
    rw [fX11_walk_21] at h
    refine lv_iload hx hb dX11_walk_21 (lv_at hl 5 rfl) ?_
    refine lv_aload_n hx hb dX11_walk_23 rfl (lv_at hl 0 rfl) ?_
    replace h := b1_some h
    obtain ⟨x1, gx1, h⟩ := h
    refine z_getI X hW gx1 kX11 (by decide) (by decide) kf_X11_145 dX11_walk_24 ?_
    refine lv_icmp_ge (tgt := 108) hx hb dX11_walk_27 (by decide) (fun c2 => ?_) (fun c2 => ?_)
    · replace h := it_t h c2
      refine lv_iload_n hx hb dX11_walk_108 rfl (lv_at hl 2 rfl) ?_
      by_cases c3 : v2 = 0
      · replace h := it_t h c3
        refine lv_tableIn (off := 39) (tgt := 148) hx hb dX11_walk_109 (by rw [c3]; decide) (by rw [c3]; decide) (by rw [c3]; rfl) (by decide) ?_
        refine lv_aload_n hx hb dX11_walk_148 rfl (lv_at hl 0 rfl) ?_
        replace h := b1_some h
        obtain ⟨a4, ga4, h⟩ := h
        refine z_getA X hW ga4 kX11 (by decide) (by decide) kf_X11_109 dX11_walk_149 ?_
        refine lv_iload_n hx hb dX11_walk_152 rfl (lv_at hl 1 rfl) ?_
        replace h := b1_some h
        obtain ⟨x5, gx5, h⟩ := h
        refine z_aldI X hW gx5 dX11_walk_153 ?_
        exact z_eti X hlk hr hW hS h (by decide) (by decide) dX11_walk_154
      · replace h := it_f h c3
        by_cases c6 : v2 = 1
        · replace h := it_t h c6
          refine lv_tableIn (off := 46) (tgt := 155) hx hb dX11_walk_109 (by rw [c6]; decide) (by rw [c6]; decide) (by rw [c6]; rfl) (by decide) ?_
          refine lv_aload_n hx hb dX11_walk_155 rfl (lv_at hl 0 rfl) ?_
          replace h := b1_some h
          obtain ⟨a7, ga7, h⟩ := h
          refine z_getA X hW ga7 kX11 (by decide) (by decide) kf_X11_112 dX11_walk_156 ?_
          refine lv_iload_n hx hb dX11_walk_159 rfl (lv_at hl 1 rfl) ?_
          replace h := b1_some h
          obtain ⟨x8, gx8, h⟩ := h
          refine z_aldI X hW gx8 dX11_walk_160 ?_
          exact z_eti X hlk hr hW hS h (by decide) (by decide) dX11_walk_161
        · replace h := it_f h c6
          by_cases c9 : v2 = 2
          · replace h := it_t h c9
            refine lv_tableIn (off := 53) (tgt := 162) hx hb dX11_walk_109 (by rw [c9]; decide) (by rw [c9]; decide) (by rw [c9]; rfl) (by decide) ?_
            refine lv_iconst (v := 1) hx hb dX11_walk_162 (by decide) ?_
            refine lv_aload_n hx hb dX11_walk_163 rfl (lv_at hl 0 rfl) ?_
            replace h := b1_some h
            obtain ⟨a10, ga10, h⟩ := h
            refine z_getA X hW ga10 kX11 (by decide) (by decide) kf_X11_118 dX11_walk_164 ?_
            refine lv_iload_n hx hb dX11_walk_167 rfl (lv_at hl 1 rfl) ?_
            replace h := b1_some h
            obtain ⟨x11, gx11, h⟩ := h
            refine z_aldI X hW gx11 dX11_walk_168 ?_
            refine lv_iadd hx hb dX11_walk_169 ?_
            exact z_eti X hlk hr hW hS h (by decide) (by decide) dX11_walk_170
          · replace h := it_f h c9
            by_cases c12 : v2 = 3
            · replace h := it_t h c12
              refine lv_tableIn (off := 62) (tgt := 171) hx hb dX11_walk_109 (by rw [c12]; decide) (by rw [c12]; decide) (by rw [c12]; rfl) (by decide) ?_
              refine lv_aload_n hx hb dX11_walk_171 rfl (lv_at hl 0 rfl) ?_
              replace h := b1_some h
              obtain ⟨a13, ga13, h⟩ := h
              refine z_getA X hW ga13 kX11 (by decide) (by decide) kf_X11_115 dX11_walk_172 ?_
              refine lv_iload_n hx hb dX11_walk_175 rfl (lv_at hl 1 rfl) ?_
              replace h := b1_some h
              obtain ⟨x14, gx14, h⟩ := h
              refine z_aldI X hW gx14 dX11_walk_176 ?_
              exact z_eti X hlk hr hW hS h (by decide) (by decide) dX11_walk_177
            · replace h := it_f h c12
              by_cases c15 : v2 = 4
              · replace h := it_t h c15
                refine lv_tableIn (off := 69) (tgt := 178) hx hb dX11_walk_109 (by rw [c15]; decide) (by rw [c15]; decide) (by rw [c15]; rfl) (by decide) ?_
                refine lv_iload_n hx hb dX11_walk_178 rfl (lv_at hl 3 rfl) ?_
                exact z_eti X hlk hr hW hS h (by decide) (by decide) dX11_walk_179
              · replace h := it_f h c15
                by_cases c16 : v2 = 5
                · replace h := it_t h c16
                  refine lv_tableIn (off := 71) (tgt := 180) hx hb dX11_walk_109 (by rw [c16]; decide) (by rw [c16]; decide) (by rw [c16]; rfl) (by decide) ?_
                  refine lv_iload hx hb dX11_walk_180 (lv_at hl 4 rfl) ?_
                  exact z_eti X hlk hr hW hS h (by decide) (by decide) dX11_walk_182
                · replace h := it_f h c16
                  have nc3 := lv_neT c3 (a := 0) rfl
                  have nc6 := lv_neT c6 (a := 1) rfl
                  have nc9 := lv_neT c9 (a := 2) rfl
                  have nc12 := lv_neT c12 (a := 3) rfl
                  have nc15 := lv_neT c15 (a := 4) rfl
                  have nc16 := lv_neT c16 (a := 5) rfl
                  refine lv_tableOut (tgt := 183) hx hb dX11_walk_109 (by omega) (by decide) ?_
                  refine lv_iconst (v := (-1)) hx hb dX11_walk_183 (by decide) ?_
                  exact z_eti X hlk hr hW hS h (by decide) (by decide) dX11_walk_184
    · replace h := it_f h c2
      refine lv_iload_n hx hb dX11_walk_30 rfl (lv_at hl 3 rfl) ?_
      refine lv_aload_n hx hb dX11_walk_31 rfl (lv_at hl 0 rfl) ?_
      replace h := b1_some h
      obtain ⟨a17, ga17, h⟩ := h
      refine z_getA X hW ga17 kX11 (by decide) (by decide) kf_X11_124 dX11_walk_32 ?_
      refine lv_sipush (v := 300) hx hb dX11_walk_35 (by decide) ?_
      refine lv_iload_n hx hb dX11_walk_38 rfl (lv_at hl 1 rfl) ?_
      refine lv_imul hx hb dX11_walk_39 ?_
      refine lv_iload hx hb dX11_walk_40 (lv_at hl 5 rfl) ?_
      refine lv_iadd hx hb dX11_walk_42 ?_
      replace h := b1_some h
      obtain ⟨x18, gx18, h⟩ := h
      refine z_aldZ X hW gx18 dX11_walk_43 ?_
      refine lv_if_eq (tgt := 62) hx hb dX11_walk_44 (by decide) (fun c19 => ?_) (fun c19 => ?_)
      · replace h := it_t h c19
        exact wX11_walk_62 X hlk hr ih o v1 v2 v4 v5 v3 _ _ _ _ (lv_sub hl [0, 1, 2, 4, 5] rfl) hW hS h
      · replace h := it_f h c19
        refine lv_aload_n hx hb dX11_walk_47 rfl (lv_at hl 0 rfl) ?_
        replace h := b1_some h
        obtain ⟨a20, ga20, h⟩ := h
        refine z_getA X hW ga20 kX11 (by decide) (by decide) kf_X11_9 dX11_walk_48 ?_
        refine lv_iload hx hb dX11_walk_51 (lv_at hl 5 rfl) ?_
        replace h := b1_some h
        obtain ⟨x21, gx21, h⟩ := h
        refine z_aldI X hW gx21 dX11_walk_53 ?_
        refine lv_iconst (v := 3) hx hb dX11_walk_54 (by decide) ?_
        refine lv_icmp_eq (tgt := 62) hx hb dX11_walk_55 (by decide) (fun c22 => ?_) (fun c22 => ?_)
        · replace h := it_t h c22
          exact wX11_walk_62 X hlk hr ih o v1 v2 v4 v5 v3 _ _ _ _ (lv_sub hl [0, 1, 2, 4, 5] rfl) hW hS h
        · replace h := it_f h c22
          refine lv_iconst (v := 1) hx hb dX11_walk_58 (by decide) ?_
          refine lv_goto (tgt := 63) hx hb dX11_walk_59 (by decide) ?_
          exact wX11_walk_63 X hlk hr ih o v1 v2 v4 v5 1 v3 _ _ _ _ (lv_sub hl [0, 1, 2, 4, 5] rfl) hW hS h

def fX11_walk (o : Nat) (v1 : Int32) (v2 : Int32) (h : Hz) : Option (Int32 × Hz) := (b1 (gI 11 46 o h) fun x1 => (b2 (fX11_isIn v1 x1 h) fun x2 s3 => (if x2 = 0 then some ((-1), s3) else fX11_walk_21 100000 o v1 v2 0 0 0 s3)))
set_option maxHeartbeats 4000000 in
set_option maxRecDepth 100000 in
theorem wX11_walk_0 {r0 : Int32} {h0 : Hz} (X : zX A D cy p s m args c cX11_walk RX11 6) (hlk : meth.locks = false) (hr : meth.sig.returnType = (some .int)) (o : Nat) (v1 : Int32) (v2 : Int32) (h : Hz) (H : Heap) (locs : List Loc) (ls : Array Slot) (hl : lv_has ls 6 [(0, .ref o), (1, .int v1), (2, .int v2)]) (hW : zW A cy D h H) (hS : va_S A s.heap H locs) (h : fX11_walk o v1 v2 h = some (r0, h0)) : W p l e ({ frames := 1, cells := 0, slots := 0, locals := 21 } : Room) s m args below meth c H locs 0 0 (MQ below (va_Qi (fun r1 u => r1 = r0 ∧ u = h0) (zB A D cy) A) args s 0 0 A) (F0 m 0 ls []) := by
  obtain ⟨hx, hb, hts, hown, hK9, hml, hN9, hA9⟩ := id X
  unfold fX11_walk at h
  refine lv_iload_n hx hb dX11_walk_0 rfl (lv_at hl 1 rfl) ?_
  refine lv_aload_n hx hb dX11_walk_1 rfl (lv_at hl 0 rfl) ?_
  replace h := b1_some h
  obtain ⟨x1, gx1, h⟩ := h
  refine z_getI X hW gx1 kX11 (by decide) (by decide) kf_X11_243 dX11_walk_2 ?_
  replace h := b2_some h
  obtain ⟨x2, s3, gs3, h⟩ := h
  refine z_callSi (rest := []) X hW hS (cX11_isIn_met gs3) kb_X11_isIn ks_X11_isIn kl_X11_149 rfl rfl ⟨Nat.le_of_ble_eq_true rfl, Nat.le_of_ble_eq_true rfl⟩ rfl rfl (by decide) hl.1 dX11_walk_5 ⟨(by decide), (by decide)⟩ (fun H locs hW hS => ?_)
  refine lv_if_ne (tgt := 13) hx hb dX11_walk_8 (by decide) (fun c4 => ?_) (fun c4 => ?_)
  · replace h := it_f h c4
    refine lv_iconst (v := 0) hx hb dX11_walk_13 (by decide) ?_
    refine lv_istore_n (lv' := [(3, .int 0), (0, .ref o), (1, .int v1), (2, .int v2)]) hx hb dX11_walk_14 rfl hl (by decide) rfl (fun ls hl => ?_)
    refine lv_iconst (v := 0) hx hb dX11_walk_15 (by decide) ?_
    refine lv_istore (lv' := [(4, .int 0), (3, .int 0), (0, .ref o), (1, .int v1), (2, .int v2)]) hx hb dX11_walk_16 hl (by decide) rfl (fun ls hl => ?_)
    refine lv_iconst (v := 0) hx hb dX11_walk_18 (by decide) ?_
    refine lv_istore (lv' := [(5, .int 0), (4, .int 0), (3, .int 0), (0, .ref o), (1, .int v1), (2, .int v2)]) hx hb dX11_walk_19 hl (by decide) rfl (fun ls hl => ?_)
    exact wX11_walk_21 X hlk hr _ o v1 v2 0 0 0 _ _ _ _ (lv_sub hl [3, 4, 5, 2, 1, 0] rfl) hW hS h
  · replace h := it_t h c4
    refine lv_iconst (v := (-1)) hx hb dX11_walk_11 (by decide) ?_
    exact z_eti X hlk hr hW hS h (by decide) (by decide) dX11_walk_12

set_option maxHeartbeats 4000000 in
set_option maxRecDepth 100000 in
theorem cX11_walk_met {l : Launch} {A : Nat → Prop} {D : va_G} {cy : Nat → ClassId} {r0 : Int32} {h0 : Hz} {o : Nat} {v1 : Int32} {v2 : Int32} {h : Hz} (g : fX11_walk o v1 v2 h = some (r0, h0)) : Met l yX11_walk (Cond.code yX11_walk cX11_walk 6 (some .int) :: wT) ({ frames := 1, cells := 0, slots := 0, locals := 21 } : Room) (va_Pc [.ref o, .int v1, .int v2] (zS A D cy h)) (va_Qi (fun r1 u => r1 = r0 ∧ u = h0) (zB A D cy) A) 0 0 A := by
  refine Met.ofW (cc := cX11_walk) (maxL := 6) (ret := (some .int)) (by decide) rfl ?_
  intro p e s m args below meth c s₁ B hml hv
  obtain ⟨rfl, hW, hK, hN, hA⟩ := hv
  have X : zX A D cy p s m _ c cX11_walk RX11 6 := ⟨B.exec, B.bytes, fun w hw => atoms_spec (ws := Cond.code yX11_walk cX11_walk 6 (some .int) :: wT) B.pre w (List.mem_cons_of_mem _ hw), findClass_of_methodNamed B.named, hK, hml, hN, hA⟩
  have hl := lv_entry [.ref o, .int v1, .int v2] (n := 6) (Nat.le_of_ble_eq_true rfl)
  rw [lg_entry_eq]
  generalize (lg_sl [.ref o, .int v1, .int v2] ++ List.replicate (6 - (lg_sl [.ref o, .int v1, .int v2]).length) Slot.unset).toArray = ls at hl ⊢
  have hl : lv_has ls 6 [(0, .ref o), (1, .int v1), (2, .int v2)] := hl
  exact wX11_walk_0 X B.notSynchronized B.returns o v1 v2 _ _ _ _ (lv_sub hl [0, 1, 2] rfl) hW va_S.rf g

theorem dX11_goes_0 : decode cX11_goes 0 = .ok (.aload_n 0, 1) := by decide +kernel
theorem dX11_goes_1 : decode cX11_goes 1 = .ok (.getfield 9, 3) := by decide +kernel
theorem dX11_goes_4 : decode cX11_goes 4 = .ok (.iload_n 1, 1) := by decide +kernel
theorem dX11_goes_5 : decode cX11_goes 5 = .ok (.iaload, 1) := by decide +kernel
theorem dX11_goes_6 : decode cX11_goes 6 = .ok (.iconst 3, 1) := by decide +kernel
theorem dX11_goes_7 : decode cX11_goes 7 = .ok (.if_icmp .ne 19, 3) := by decide +kernel
theorem dX11_goes_10 : decode cX11_goes 10 = .ok (.aload_n 0, 1) := by decide +kernel
theorem dX11_goes_11 : decode cX11_goes 11 = .ok (.getfield 25, 3) := by decide +kernel
theorem dX11_goes_14 : decode cX11_goes 14 = .ok (.iload_n 1, 1) := by decide +kernel
theorem dX11_goes_15 : decode cX11_goes 15 = .ok (.iaload, 1) := by decide +kernel
theorem dX11_goes_16 : decode cX11_goes 16 = .ok (.iload_n 2, 1) := by decide +kernel
theorem dX11_goes_17 : decode cX11_goes 17 = .ok (.if_icmp .ne 7, 3) := by decide +kernel
theorem dX11_goes_20 : decode cX11_goes 20 = .ok (.iconst 1, 1) := by decide +kernel
theorem dX11_goes_21 : decode cX11_goes 21 = .ok (.goto 4, 3) := by decide +kernel
theorem dX11_goes_24 : decode cX11_goes 24 = .ok (.iconst 0, 1) := by decide +kernel
theorem dX11_goes_25 : decode cX11_goes 25 = .ok (.ireturn, 1) := by decide +kernel
theorem dX11_goes_26 : decode cX11_goes 26 = .ok (.iconst 0, 1) := by decide +kernel
theorem dX11_goes_27 : decode cX11_goes 27 = .ok (.istore_n 3, 1) := by decide +kernel
theorem dX11_goes_28 : decode cX11_goes 28 = .ok (.iconst 0, 1) := by decide +kernel
theorem dX11_goes_29 : decode cX11_goes 29 = .ok (.istore 4, 2) := by decide +kernel
theorem dX11_goes_31 : decode cX11_goes 31 = .ok (.iload 4, 2) := by decide +kernel
theorem dX11_goes_33 : decode cX11_goes 33 = .ok (.aload_n 0, 1) := by decide +kernel
theorem dX11_goes_34 : decode cX11_goes 34 = .ok (.getfield 19, 3) := by decide +kernel
theorem dX11_goes_37 : decode cX11_goes 37 = .ok (.iload_n 1, 1) := by decide +kernel
theorem dX11_goes_38 : decode cX11_goes 38 = .ok (.iaload, 1) := by decide +kernel
theorem dX11_goes_39 : decode cX11_goes 39 = .ok (.if_icmp .ge 51, 3) := by decide +kernel
theorem dX11_goes_42 : decode cX11_goes 42 = .ok (.iload_n 3, 1) := by decide +kernel
theorem dX11_goes_43 : decode cX11_goes 43 = .ok (.ifCond .ne 47, 3) := by decide +kernel
theorem dX11_goes_46 : decode cX11_goes 46 = .ok (.aload_n 0, 1) := by decide +kernel
theorem dX11_goes_47 : decode cX11_goes 47 = .ok (.getfield 38, 3) := by decide +kernel
theorem dX11_goes_50 : decode cX11_goes 50 = .ok (.bipush 8, 2) := by decide +kernel
theorem dX11_goes_52 : decode cX11_goes 52 = .ok (.iload_n 1, 1) := by decide +kernel
theorem dX11_goes_53 : decode cX11_goes 53 = .ok (.imul, 1) := by decide +kernel
theorem dX11_goes_54 : decode cX11_goes 54 = .ok (.iload 4, 2) := by decide +kernel
theorem dX11_goes_56 : decode cX11_goes 56 = .ok (.iadd, 1) := by decide +kernel
theorem dX11_goes_57 : decode cX11_goes 57 = .ok (.iaload, 1) := by decide +kernel
theorem dX11_goes_58 : decode cX11_goes 58 = .ok (.iconst 1, 1) := by decide +kernel
theorem dX11_goes_59 : decode cX11_goes 59 = .ok (.if_icmp .ne 23, 3) := by decide +kernel
theorem dX11_goes_62 : decode cX11_goes 62 = .ok (.aload_n 0, 1) := by decide +kernel
theorem dX11_goes_63 : decode cX11_goes 63 = .ok (.getfield 41, 3) := by decide +kernel
theorem dX11_goes_66 : decode cX11_goes 66 = .ok (.bipush 8, 2) := by decide +kernel
theorem dX11_goes_68 : decode cX11_goes 68 = .ok (.iload_n 1, 1) := by decide +kernel
theorem dX11_goes_69 : decode cX11_goes 69 = .ok (.imul, 1) := by decide +kernel
theorem dX11_goes_70 : decode cX11_goes 70 = .ok (.iload 4, 2) := by decide +kernel
theorem dX11_goes_72 : decode cX11_goes 72 = .ok (.iadd, 1) := by decide +kernel
theorem dX11_goes_73 : decode cX11_goes 73 = .ok (.iaload, 1) := by decide +kernel
theorem dX11_goes_74 : decode cX11_goes 74 = .ok (.iload_n 2, 1) := by decide +kernel
theorem dX11_goes_75 : decode cX11_goes 75 = .ok (.if_icmp .ne 7, 3) := by decide +kernel
theorem dX11_goes_78 : decode cX11_goes 78 = .ok (.iconst 1, 1) := by decide +kernel
theorem dX11_goes_79 : decode cX11_goes 79 = .ok (.goto 4, 3) := by decide +kernel
theorem dX11_goes_82 : decode cX11_goes 82 = .ok (.iconst 0, 1) := by decide +kernel
theorem dX11_goes_83 : decode cX11_goes 83 = .ok (.istore_n 3, 1) := by decide +kernel
theorem dX11_goes_84 : decode cX11_goes 84 = .ok (.iinc 4 1, 3) := by decide +kernel
theorem dX11_goes_87 : decode cX11_goes 87 = .ok (.goto (-56), 3) := by decide +kernel
theorem dX11_goes_90 : decode cX11_goes 90 = .ok (.iload_n 3, 1) := by decide +kernel
theorem dX11_goes_91 : decode cX11_goes 91 = .ok (.ifCond .ne 13, 3) := by decide +kernel
theorem dX11_goes_94 : decode cX11_goes 94 = .ok (.aload_n 0, 1) := by decide +kernel
theorem dX11_goes_95 : decode cX11_goes 95 = .ok (.getfield 9, 3) := by decide +kernel
theorem dX11_goes_98 : decode cX11_goes 98 = .ok (.iload_n 1, 1) := by decide +kernel
theorem dX11_goes_99 : decode cX11_goes 99 = .ok (.iaload, 1) := by decide +kernel
theorem dX11_goes_100 : decode cX11_goes 100 = .ok (.iconst 2, 1) := by decide +kernel
theorem dX11_goes_101 : decode cX11_goes 101 = .ok (.if_icmp .eq 5, 3) := by decide +kernel
theorem dX11_goes_104 : decode cX11_goes 104 = .ok (.iload_n 3, 1) := by decide +kernel
theorem dX11_goes_105 : decode cX11_goes 105 = .ok (.ireturn, 1) := by decide +kernel
theorem dX11_goes_106 : decode cX11_goes 106 = .ok (.iconst 0, 1) := by decide +kernel
theorem dX11_goes_107 : decode cX11_goes 107 = .ok (.istore 4, 2) := by decide +kernel
theorem dX11_goes_109 : decode cX11_goes 109 = .ok (.iload 4, 2) := by decide +kernel
theorem dX11_goes_111 : decode cX11_goes 111 = .ok (.aload_n 0, 1) := by decide +kernel
theorem dX11_goes_112 : decode cX11_goes 112 = .ok (.getfield 199, 3) := by decide +kernel
theorem dX11_goes_115 : decode cX11_goes 115 = .ok (.if_icmp .ge 61, 3) := by decide +kernel
theorem dX11_goes_118 : decode cX11_goes 118 = .ok (.iload_n 3, 1) := by decide +kernel
theorem dX11_goes_119 : decode cX11_goes 119 = .ok (.ifCond .ne 57, 3) := by decide +kernel
theorem dX11_goes_122 : decode cX11_goes 122 = .ok (.aload_n 0, 1) := by decide +kernel
theorem dX11_goes_123 : decode cX11_goes 123 = .ok (.getfield 79, 3) := by decide +kernel
theorem dX11_goes_126 : decode cX11_goes 126 = .ok (.iload 4, 2) := by decide +kernel
theorem dX11_goes_128 : decode cX11_goes 128 = .ok (.baload, 1) := by decide +kernel
theorem dX11_goes_129 : decode cX11_goes 129 = .ok (.ifCond .eq 39, 3) := by decide +kernel
theorem dX11_goes_132 : decode cX11_goes 132 = .ok (.aload_n 0, 1) := by decide +kernel
theorem dX11_goes_133 : decode cX11_goes 133 = .ok (.getfield 52, 3) := by decide +kernel
theorem dX11_goes_136 : decode cX11_goes 136 = .ok (.iload 4, 2) := by decide +kernel
theorem dX11_goes_138 : decode cX11_goes 138 = .ok (.iaload, 1) := by decide +kernel
theorem dX11_goes_139 : decode cX11_goes 139 = .ok (.ifCond .ne 29, 3) := by decide +kernel
theorem dX11_goes_142 : decode cX11_goes 142 = .ok (.aload_n 0, 1) := by decide +kernel
theorem dX11_goes_143 : decode cX11_goes 143 = .ok (.getfield 67, 3) := by decide +kernel
theorem dX11_goes_146 : decode cX11_goes 146 = .ok (.iload 4, 2) := by decide +kernel
theorem dX11_goes_148 : decode cX11_goes 148 = .ok (.iaload, 1) := by decide +kernel
theorem dX11_goes_149 : decode cX11_goes 149 = .ok (.iload_n 1, 1) := by decide +kernel
theorem dX11_goes_150 : decode cX11_goes 150 = .ok (.if_icmp .ne 18, 3) := by decide +kernel
theorem dX11_goes_153 : decode cX11_goes 153 = .ok (.aload_n 0, 1) := by decide +kernel
theorem dX11_goes_154 : decode cX11_goes 154 = .ok (.getfield 61, 3) := by decide +kernel
theorem dX11_goes_157 : decode cX11_goes 157 = .ok (.iload 4, 2) := by decide +kernel
theorem dX11_goes_159 : decode cX11_goes 159 = .ok (.iaload, 1) := by decide +kernel
theorem dX11_goes_160 : decode cX11_goes 160 = .ok (.iload_n 2, 1) := by decide +kernel
theorem dX11_goes_161 : decode cX11_goes 161 = .ok (.if_icmp .ne 7, 3) := by decide +kernel
theorem dX11_goes_164 : decode cX11_goes 164 = .ok (.iconst 1, 1) := by decide +kernel
theorem dX11_goes_165 : decode cX11_goes 165 = .ok (.goto 4, 3) := by decide +kernel
theorem dX11_goes_168 : decode cX11_goes 168 = .ok (.iconst 0, 1) := by decide +kernel
theorem dX11_goes_169 : decode cX11_goes 169 = .ok (.istore_n 3, 1) := by decide +kernel
theorem dX11_goes_170 : decode cX11_goes 170 = .ok (.iinc 4 1, 3) := by decide +kernel
theorem dX11_goes_173 : decode cX11_goes 173 = .ok (.goto (-64), 3) := by decide +kernel
theorem dX11_goes_176 : decode cX11_goes 176 = .ok (.iconst 0, 1) := by decide +kernel
theorem dX11_goes_177 : decode cX11_goes 177 = .ok (.istore 4, 2) := by decide +kernel
theorem dX11_goes_179 : decode cX11_goes 179 = .ok (.iload 4, 2) := by decide +kernel
theorem dX11_goes_181 : decode cX11_goes 181 = .ok (.aload_n 0, 1) := by decide +kernel
theorem dX11_goes_182 : decode cX11_goes 182 = .ok (.getfield 160, 3) := by decide +kernel
theorem dX11_goes_185 : decode cX11_goes 185 = .ok (.if_icmp .ge 41, 3) := by decide +kernel
theorem dX11_goes_188 : decode cX11_goes 188 = .ok (.iload_n 3, 1) := by decide +kernel
theorem dX11_goes_189 : decode cX11_goes 189 = .ok (.ifCond .ne 37, 3) := by decide +kernel
theorem dX11_goes_192 : decode cX11_goes 192 = .ok (.aload_n 0, 1) := by decide +kernel
theorem dX11_goes_193 : decode cX11_goes 193 = .ok (.getfield 85, 3) := by decide +kernel
theorem dX11_goes_196 : decode cX11_goes 196 = .ok (.iload 4, 2) := by decide +kernel
theorem dX11_goes_198 : decode cX11_goes 198 = .ok (.iaload, 1) := by decide +kernel
theorem dX11_goes_199 : decode cX11_goes 199 = .ok (.iload_n 1, 1) := by decide +kernel
theorem dX11_goes_200 : decode cX11_goes 200 = .ok (.if_icmp .ne 18, 3) := by decide +kernel
theorem dX11_goes_203 : decode cX11_goes 203 = .ok (.aload_n 0, 1) := by decide +kernel
theorem dX11_goes_204 : decode cX11_goes 204 = .ok (.getfield 82, 3) := by decide +kernel
theorem dX11_goes_207 : decode cX11_goes 207 = .ok (.iload 4, 2) := by decide +kernel
theorem dX11_goes_209 : decode cX11_goes 209 = .ok (.iaload, 1) := by decide +kernel
theorem dX11_goes_210 : decode cX11_goes 210 = .ok (.iload_n 2, 1) := by decide +kernel
theorem dX11_goes_211 : decode cX11_goes 211 = .ok (.if_icmp .ne 7, 3) := by decide +kernel
theorem dX11_goes_214 : decode cX11_goes 214 = .ok (.iconst 1, 1) := by decide +kernel
theorem dX11_goes_215 : decode cX11_goes 215 = .ok (.goto 4, 3) := by decide +kernel
theorem dX11_goes_218 : decode cX11_goes 218 = .ok (.iconst 0, 1) := by decide +kernel
theorem dX11_goes_219 : decode cX11_goes 219 = .ok (.istore_n 3, 1) := by decide +kernel
theorem dX11_goes_220 : decode cX11_goes 220 = .ok (.iinc 4 1, 3) := by decide +kernel
theorem dX11_goes_223 : decode cX11_goes 223 = .ok (.goto (-44), 3) := by decide +kernel
theorem dX11_goes_226 : decode cX11_goes 226 = .ok (.iload_n 3, 1) := by decide +kernel
theorem dX11_goes_227 : decode cX11_goes 227 = .ok (.ireturn, 1) := by decide +kernel
def fX11_goes_179 : Nat → Nat → Int32 → Int32 → Int32 → Int32 → Hz → Option (Int32 × Hz)
  | 0, _, _, _, _, _, _ => none
  | n + 1, o, v1, v2, v3, v4, h => (b1 (gI 11 29 o h) fun x1 => (if x1 ≤ v4 then rz v3 h else (if v3 = 0 then (b1 (gA 11 27 o h) fun a4 => (b1 (xI 12 a4 v4 h) fun x5 => (if x5 = v1 then (b1 (gA 11 26 o h) fun a7 => (b1 (xI 12 a7 v4 h) fun x8 => (if x8 = v2 then fX11_goes_179 n o v1 v2 1 (v4 + 1) h else fX11_goes_179 n o v1 v2 0 (v4 + 1) h))) else fX11_goes_179 n o v1 v2 0 (v4 + 1) h))) else rz v3 h)))
set_option maxHeartbeats 4000000 in
set_option maxRecDepth 100000 in
theorem wX11_goes_179 {r0 : Int32} {h0 : Hz} (X : zX A D cy p s m args c cX11_goes RX11 5) (hlk : meth.locks = false) (hr : meth.sig.returnType = (some .boolean)) : ∀ (n : Nat) (o : Nat) (v1 : Int32) (v2 : Int32) (v3 : Int32) (v4 : Int32) (h : Hz) (H : Heap) (locs : List Loc) (ls : Array Slot) (hl : lv_has ls 5 [(0, .ref o), (1, .int v1), (2, .int v2), (3, .int v3), (4, .int v4)]) (hW : zW A cy D h H) (hS : va_S A s.heap H locs) (h : fX11_goes_179 n o v1 v2 v3 v4 h = some (r0, h0)), W p l e ({ frames := 0, cells := 0, slots := 0, locals := 0 } : Room) s m args below meth c H locs 0 0 (MQ below (va_Qi (fun r1 u => r1 = r0 ∧ u = h0) (zB A D cy) A) args s 0 0 A) (F0 m 179 ls []) := by
  obtain ⟨hx, hb, hts, hown, hK9, hml, hN9, hA9⟩ := id X
  intro n
  induction n with
  | zero =>
    intro o v1 v2 v3 v4 h H locs ls hl hW hS h
    rw [fX11_goes_179] at h
    cases h
  | succ n ih =>
    intro o v1 v2 v3 v4 h H locs ls hl hW hS h
    rw [fX11_goes_179] at h
    refine lv_iload hx hb dX11_goes_179 (lv_at hl 4 rfl) ?_
    refine lv_aload_n hx hb dX11_goes_181 rfl (lv_at hl 0 rfl) ?_
    replace h := b1_some h
    obtain ⟨x1, gx1, h⟩ := h
    refine z_getI X hW gx1 kX11 (by decide) (by decide) kf_X11_160 dX11_goes_182 ?_
    refine lv_icmp_ge (tgt := 226) hx hb dX11_goes_185 (by decide) (fun c2 => ?_) (fun c2 => ?_)
    · replace h := it_t h c2
      refine lv_iload_n hx hb dX11_goes_226 rfl (lv_at hl 3 rfl) ?_
      exact z_etz X hlk hr hW hS h (by decide) (by decide) dX11_goes_227
    · replace h := it_f h c2
      refine lv_iload_n hx hb dX11_goes_188 rfl (lv_at hl 3 rfl) ?_
      refine lv_if_ne (tgt := 226) hx hb dX11_goes_189 (by decide) (fun c3 => ?_) (fun c3 => ?_)
      · replace h := it_f h c3
        refine lv_iload_n hx hb dX11_goes_226 rfl (lv_at hl 3 rfl) ?_
        exact z_etz X hlk hr hW hS h (by decide) (by decide) dX11_goes_227
      · replace h := it_t h c3
        refine lv_aload_n hx hb dX11_goes_192 rfl (lv_at hl 0 rfl) ?_
        replace h := b1_some h
        obtain ⟨a4, ga4, h⟩ := h
        refine z_getA X hW ga4 kX11 (by decide) (by decide) kf_X11_85 dX11_goes_193 ?_
        refine lv_iload hx hb dX11_goes_196 (lv_at hl 4 rfl) ?_
        replace h := b1_some h
        obtain ⟨x5, gx5, h⟩ := h
        refine z_aldI X hW gx5 dX11_goes_198 ?_
        refine lv_iload_n hx hb dX11_goes_199 rfl (lv_at hl 1 rfl) ?_
        refine lv_icmp_ne (tgt := 218) hx hb dX11_goes_200 (by decide) (fun c6 => ?_) (fun c6 => ?_)
        · replace h := it_f h c6
          refine lv_iconst (v := 0) hx hb dX11_goes_218 (by decide) ?_
          refine lv_istore_n (lv' := [(3, .int 0), (0, .ref o), (1, .int v1), (2, .int v2), (4, .int v4)]) hx hb dX11_goes_219 rfl hl (by decide) rfl (fun ls hl => ?_)
          refine lv_iinc (v := (v4 + 1)) (lv' := [(4, .int (v4 + 1)), (3, .int 0), (0, .ref o), (1, .int v1), (2, .int v2)]) hx hb dX11_goes_220 hl (k := 4) rfl rfl (by decide) rfl (fun ls hl => ?_)
          refine lv_goto (tgt := 179) hx hb dX11_goes_223 (by decide) ?_
          exact ih o v1 v2 0 (v4 + 1) _ _ _ _ (lv_sub hl [2, 3, 4, 1, 0] rfl) hW hS h
        · replace h := it_t h c6
          refine lv_aload_n hx hb dX11_goes_203 rfl (lv_at hl 0 rfl) ?_
          replace h := b1_some h
          obtain ⟨a7, ga7, h⟩ := h
          refine z_getA X hW ga7 kX11 (by decide) (by decide) kf_X11_82 dX11_goes_204 ?_
          refine lv_iload hx hb dX11_goes_207 (lv_at hl 4 rfl) ?_
          replace h := b1_some h
          obtain ⟨x8, gx8, h⟩ := h
          refine z_aldI X hW gx8 dX11_goes_209 ?_
          refine lv_iload_n hx hb dX11_goes_210 rfl (lv_at hl 2 rfl) ?_
          refine lv_icmp_ne (tgt := 218) hx hb dX11_goes_211 (by decide) (fun c9 => ?_) (fun c9 => ?_)
          · replace h := it_f h c9
            refine lv_iconst (v := 0) hx hb dX11_goes_218 (by decide) ?_
            refine lv_istore_n (lv' := [(3, .int 0), (0, .ref o), (1, .int v1), (2, .int v2), (4, .int v4)]) hx hb dX11_goes_219 rfl hl (by decide) rfl (fun ls hl => ?_)
            refine lv_iinc (v := (v4 + 1)) (lv' := [(4, .int (v4 + 1)), (3, .int 0), (0, .ref o), (1, .int v1), (2, .int v2)]) hx hb dX11_goes_220 hl (k := 4) rfl rfl (by decide) rfl (fun ls hl => ?_)
            refine lv_goto (tgt := 179) hx hb dX11_goes_223 (by decide) ?_
            exact ih o v1 v2 0 (v4 + 1) _ _ _ _ (lv_sub hl [2, 3, 4, 1, 0] rfl) hW hS h
          · replace h := it_t h c9
            refine lv_iconst (v := 1) hx hb dX11_goes_214 (by decide) ?_
            refine lv_goto (tgt := 219) hx hb dX11_goes_215 (by decide) ?_
            refine lv_istore_n (lv' := [(3, .int 1), (0, .ref o), (1, .int v1), (2, .int v2), (4, .int v4)]) hx hb dX11_goes_219 rfl hl (by decide) rfl (fun ls hl => ?_)
            refine lv_iinc (v := (v4 + 1)) (lv' := [(4, .int (v4 + 1)), (3, .int 1), (0, .ref o), (1, .int v1), (2, .int v2)]) hx hb dX11_goes_220 hl (k := 4) rfl rfl (by decide) rfl (fun ls hl => ?_)
            refine lv_goto (tgt := 179) hx hb dX11_goes_223 (by decide) ?_
            exact ih o v1 v2 1 (v4 + 1) _ _ _ _ (lv_sub hl [2, 3, 4, 1, 0] rfl) hW hS h

def fX11_goes_109 : Nat → Nat → Int32 → Int32 → Int32 → Int32 → Hz → Option (Int32 × Hz)
  | 0, _, _, _, _, _, _ => none
  | n + 1, o, v1, v2, v3, v4, h => (b1 (gI 11 24 o h) fun x1 => (if x1 ≤ v4 then fX11_goes_179 100000 o v1 v2 v3 0 h else (if v3 = 0 then (b1 (gA 11 23 o h) fun a4 => (b1 (xI 14 a4 v4 h) fun x5 => (if x5 = 0 then fX11_goes_109 n o v1 v2 0 (v4 + 1) h else (b1 (gA 11 14 o h) fun a7 => (b1 (xI 12 a7 v4 h) fun x8 => (if x8 = 0 then (b1 (gA 11 19 o h) fun a10 => (b1 (xI 12 a10 v4 h) fun x11 => (if x11 = v1 then (b1 (gA 11 17 o h) fun a13 => (b1 (xI 12 a13 v4 h) fun x14 => (if x14 = v2 then fX11_goes_109 n o v1 v2 1 (v4 + 1) h else fX11_goes_109 n o v1 v2 0 (v4 + 1) h))) else fX11_goes_109 n o v1 v2 0 (v4 + 1) h))) else fX11_goes_109 n o v1 v2 0 (v4 + 1) h)))))) else fX11_goes_179 100000 o v1 v2 v3 0 h)))
set_option maxHeartbeats 4000000 in
set_option maxRecDepth 100000 in
theorem wX11_goes_109 {r0 : Int32} {h0 : Hz} (X : zX A D cy p s m args c cX11_goes RX11 5) (hlk : meth.locks = false) (hr : meth.sig.returnType = (some .boolean)) : ∀ (n : Nat) (o : Nat) (v1 : Int32) (v2 : Int32) (v3 : Int32) (v4 : Int32) (h : Hz) (H : Heap) (locs : List Loc) (ls : Array Slot) (hl : lv_has ls 5 [(0, .ref o), (1, .int v1), (2, .int v2), (3, .int v3), (4, .int v4)]) (hW : zW A cy D h H) (hS : va_S A s.heap H locs) (h : fX11_goes_109 n o v1 v2 v3 v4 h = some (r0, h0)), W p l e ({ frames := 0, cells := 0, slots := 0, locals := 0 } : Room) s m args below meth c H locs 0 0 (MQ below (va_Qi (fun r1 u => r1 = r0 ∧ u = h0) (zB A D cy) A) args s 0 0 A) (F0 m 109 ls []) := by
  obtain ⟨hx, hb, hts, hown, hK9, hml, hN9, hA9⟩ := id X
  intro n
  induction n with
  | zero =>
    intro o v1 v2 v3 v4 h H locs ls hl hW hS h
    rw [fX11_goes_109] at h
    cases h
  | succ n ih =>
    intro o v1 v2 v3 v4 h H locs ls hl hW hS h
    rw [fX11_goes_109] at h
    refine lv_iload hx hb dX11_goes_109 (lv_at hl 4 rfl) ?_
    refine lv_aload_n hx hb dX11_goes_111 rfl (lv_at hl 0 rfl) ?_
    replace h := b1_some h
    obtain ⟨x1, gx1, h⟩ := h
    refine z_getI X hW gx1 kX11 (by decide) (by decide) kf_X11_199 dX11_goes_112 ?_
    refine lv_icmp_ge (tgt := 176) hx hb dX11_goes_115 (by decide) (fun c2 => ?_) (fun c2 => ?_)
    · replace h := it_t h c2
      refine lv_iconst (v := 0) hx hb dX11_goes_176 (by decide) ?_
      refine lv_istore (lv' := [(4, .int 0), (0, .ref o), (1, .int v1), (2, .int v2), (3, .int v3)]) hx hb dX11_goes_177 hl (by decide) rfl (fun ls hl => ?_)
      exact wX11_goes_179 X hlk hr _ o v1 v2 v3 0 _ _ _ _ (lv_sub hl [1, 2, 3, 4, 0] rfl) hW hS h
    · replace h := it_f h c2
      refine lv_iload_n hx hb dX11_goes_118 rfl (lv_at hl 3 rfl) ?_
      refine lv_if_ne (tgt := 176) hx hb dX11_goes_119 (by decide) (fun c3 => ?_) (fun c3 => ?_)
      · replace h := it_f h c3
        refine lv_iconst (v := 0) hx hb dX11_goes_176 (by decide) ?_
        refine lv_istore (lv' := [(4, .int 0), (0, .ref o), (1, .int v1), (2, .int v2), (3, .int v3)]) hx hb dX11_goes_177 hl (by decide) rfl (fun ls hl => ?_)
        exact wX11_goes_179 X hlk hr _ o v1 v2 v3 0 _ _ _ _ (lv_sub hl [1, 2, 3, 4, 0] rfl) hW hS h
      · replace h := it_t h c3
        refine lv_aload_n hx hb dX11_goes_122 rfl (lv_at hl 0 rfl) ?_
        replace h := b1_some h
        obtain ⟨a4, ga4, h⟩ := h
        refine z_getA X hW ga4 kX11 (by decide) (by decide) kf_X11_79 dX11_goes_123 ?_
        refine lv_iload hx hb dX11_goes_126 (lv_at hl 4 rfl) ?_
        replace h := b1_some h
        obtain ⟨x5, gx5, h⟩ := h
        refine z_aldZ X hW gx5 dX11_goes_128 ?_
        refine lv_if_eq (tgt := 168) hx hb dX11_goes_129 (by decide) (fun c6 => ?_) (fun c6 => ?_)
        · replace h := it_t h c6
          refine lv_iconst (v := 0) hx hb dX11_goes_168 (by decide) ?_
          refine lv_istore_n (lv' := [(3, .int 0), (0, .ref o), (1, .int v1), (2, .int v2), (4, .int v4)]) hx hb dX11_goes_169 rfl hl (by decide) rfl (fun ls hl => ?_)
          refine lv_iinc (v := (v4 + 1)) (lv' := [(4, .int (v4 + 1)), (3, .int 0), (0, .ref o), (1, .int v1), (2, .int v2)]) hx hb dX11_goes_170 hl (k := 4) rfl rfl (by decide) rfl (fun ls hl => ?_)
          refine lv_goto (tgt := 109) hx hb dX11_goes_173 (by decide) ?_
          exact ih o v1 v2 0 (v4 + 1) _ _ _ _ (lv_sub hl [2, 3, 4, 1, 0] rfl) hW hS h
        · replace h := it_f h c6
          refine lv_aload_n hx hb dX11_goes_132 rfl (lv_at hl 0 rfl) ?_
          replace h := b1_some h
          obtain ⟨a7, ga7, h⟩ := h
          refine z_getA X hW ga7 kX11 (by decide) (by decide) kf_X11_52 dX11_goes_133 ?_
          refine lv_iload hx hb dX11_goes_136 (lv_at hl 4 rfl) ?_
          replace h := b1_some h
          obtain ⟨x8, gx8, h⟩ := h
          refine z_aldI X hW gx8 dX11_goes_138 ?_
          refine lv_if_ne (tgt := 168) hx hb dX11_goes_139 (by decide) (fun c9 => ?_) (fun c9 => ?_)
          · replace h := it_f h c9
            refine lv_iconst (v := 0) hx hb dX11_goes_168 (by decide) ?_
            refine lv_istore_n (lv' := [(3, .int 0), (0, .ref o), (1, .int v1), (2, .int v2), (4, .int v4)]) hx hb dX11_goes_169 rfl hl (by decide) rfl (fun ls hl => ?_)
            refine lv_iinc (v := (v4 + 1)) (lv' := [(4, .int (v4 + 1)), (3, .int 0), (0, .ref o), (1, .int v1), (2, .int v2)]) hx hb dX11_goes_170 hl (k := 4) rfl rfl (by decide) rfl (fun ls hl => ?_)
            refine lv_goto (tgt := 109) hx hb dX11_goes_173 (by decide) ?_
            exact ih o v1 v2 0 (v4 + 1) _ _ _ _ (lv_sub hl [2, 3, 4, 1, 0] rfl) hW hS h
          · replace h := it_t h c9
            refine lv_aload_n hx hb dX11_goes_142 rfl (lv_at hl 0 rfl) ?_
            replace h := b1_some h
            obtain ⟨a10, ga10, h⟩ := h
            refine z_getA X hW ga10 kX11 (by decide) (by decide) kf_X11_67 dX11_goes_143 ?_
            refine lv_iload hx hb dX11_goes_146 (lv_at hl 4 rfl) ?_
            replace h := b1_some h
            obtain ⟨x11, gx11, h⟩ := h
            refine z_aldI X hW gx11 dX11_goes_148 ?_
            refine lv_iload_n hx hb dX11_goes_149 rfl (lv_at hl 1 rfl) ?_
            refine lv_icmp_ne (tgt := 168) hx hb dX11_goes_150 (by decide) (fun c12 => ?_) (fun c12 => ?_)
            · replace h := it_f h c12
              refine lv_iconst (v := 0) hx hb dX11_goes_168 (by decide) ?_
              refine lv_istore_n (lv' := [(3, .int 0), (0, .ref o), (1, .int v1), (2, .int v2), (4, .int v4)]) hx hb dX11_goes_169 rfl hl (by decide) rfl (fun ls hl => ?_)
              refine lv_iinc (v := (v4 + 1)) (lv' := [(4, .int (v4 + 1)), (3, .int 0), (0, .ref o), (1, .int v1), (2, .int v2)]) hx hb dX11_goes_170 hl (k := 4) rfl rfl (by decide) rfl (fun ls hl => ?_)
              refine lv_goto (tgt := 109) hx hb dX11_goes_173 (by decide) ?_
              exact ih o v1 v2 0 (v4 + 1) _ _ _ _ (lv_sub hl [2, 3, 4, 1, 0] rfl) hW hS h
            · replace h := it_t h c12
              refine lv_aload_n hx hb dX11_goes_153 rfl (lv_at hl 0 rfl) ?_
              replace h := b1_some h
              obtain ⟨a13, ga13, h⟩ := h
              refine z_getA X hW ga13 kX11 (by decide) (by decide) kf_X11_61 dX11_goes_154 ?_
              refine lv_iload hx hb dX11_goes_157 (lv_at hl 4 rfl) ?_
              replace h := b1_some h
              obtain ⟨x14, gx14, h⟩ := h
              refine z_aldI X hW gx14 dX11_goes_159 ?_
              refine lv_iload_n hx hb dX11_goes_160 rfl (lv_at hl 2 rfl) ?_
              refine lv_icmp_ne (tgt := 168) hx hb dX11_goes_161 (by decide) (fun c15 => ?_) (fun c15 => ?_)
              · replace h := it_f h c15
                refine lv_iconst (v := 0) hx hb dX11_goes_168 (by decide) ?_
                refine lv_istore_n (lv' := [(3, .int 0), (0, .ref o), (1, .int v1), (2, .int v2), (4, .int v4)]) hx hb dX11_goes_169 rfl hl (by decide) rfl (fun ls hl => ?_)
                refine lv_iinc (v := (v4 + 1)) (lv' := [(4, .int (v4 + 1)), (3, .int 0), (0, .ref o), (1, .int v1), (2, .int v2)]) hx hb dX11_goes_170 hl (k := 4) rfl rfl (by decide) rfl (fun ls hl => ?_)
                refine lv_goto (tgt := 109) hx hb dX11_goes_173 (by decide) ?_
                exact ih o v1 v2 0 (v4 + 1) _ _ _ _ (lv_sub hl [2, 3, 4, 1, 0] rfl) hW hS h
              · replace h := it_t h c15
                refine lv_iconst (v := 1) hx hb dX11_goes_164 (by decide) ?_
                refine lv_goto (tgt := 169) hx hb dX11_goes_165 (by decide) ?_
                refine lv_istore_n (lv' := [(3, .int 1), (0, .ref o), (1, .int v1), (2, .int v2), (4, .int v4)]) hx hb dX11_goes_169 rfl hl (by decide) rfl (fun ls hl => ?_)
                refine lv_iinc (v := (v4 + 1)) (lv' := [(4, .int (v4 + 1)), (3, .int 1), (0, .ref o), (1, .int v1), (2, .int v2)]) hx hb dX11_goes_170 hl (k := 4) rfl rfl (by decide) rfl (fun ls hl => ?_)
                refine lv_goto (tgt := 109) hx hb dX11_goes_173 (by decide) ?_
                exact ih o v1 v2 1 (v4 + 1) _ _ _ _ (lv_sub hl [2, 3, 4, 1, 0] rfl) hW hS h

def fX11_goes_90 (o : Nat) (v1 : Int32) (v2 : Int32) (v3 : Int32) (h : Hz) : Option (Int32 × Hz) := (if v3 = 0 then (b1 (gA 11 0 o h) fun a2 => (b1 (xI 12 a2 v1 h) fun x3 => (if x3 = 2 then fX11_goes_109 100000 o v1 v2 v3 0 h else rz v3 h))) else rz v3 h)
set_option maxHeartbeats 4000000 in
set_option maxRecDepth 100000 in
theorem wX11_goes_90 {r0 : Int32} {h0 : Hz} (X : zX A D cy p s m args c cX11_goes RX11 5) (hlk : meth.locks = false) (hr : meth.sig.returnType = (some .boolean)) (o : Nat) (v1 : Int32) (v2 : Int32) (v3 : Int32) (h : Hz) (H : Heap) (locs : List Loc) (ls : Array Slot) (hl : lv_has ls 5 [(0, .ref o), (1, .int v1), (2, .int v2), (3, .int v3)]) (hW : zW A cy D h H) (hS : va_S A s.heap H locs) (h : fX11_goes_90 o v1 v2 v3 h = some (r0, h0)) : W p l e ({ frames := 0, cells := 0, slots := 0, locals := 0 } : Room) s m args below meth c H locs 0 0 (MQ below (va_Qi (fun r1 u => r1 = r0 ∧ u = h0) (zB A D cy) A) args s 0 0 A) (F0 m 90 ls []) := by
  obtain ⟨hx, hb, hts, hown, hK9, hml, hN9, hA9⟩ := id X
  unfold fX11_goes_90 at h
  refine lv_iload_n hx hb dX11_goes_90 rfl (lv_at hl 3 rfl) ?_
  refine lv_if_ne (tgt := 104) hx hb dX11_goes_91 (by decide) (fun c1 => ?_) (fun c1 => ?_)
  · replace h := it_f h c1
    refine lv_iload_n hx hb dX11_goes_104 rfl (lv_at hl 3 rfl) ?_
    exact z_etz X hlk hr hW hS h (by decide) (by decide) dX11_goes_105
  · replace h := it_t h c1
    refine lv_aload_n hx hb dX11_goes_94 rfl (lv_at hl 0 rfl) ?_
    replace h := b1_some h
    obtain ⟨a2, ga2, h⟩ := h
    refine z_getA X hW ga2 kX11 (by decide) (by decide) kf_X11_9 dX11_goes_95 ?_
    refine lv_iload_n hx hb dX11_goes_98 rfl (lv_at hl 1 rfl) ?_
    replace h := b1_some h
    obtain ⟨x3, gx3, h⟩ := h
    refine z_aldI X hW gx3 dX11_goes_99 ?_
    refine lv_iconst (v := 2) hx hb dX11_goes_100 (by decide) ?_
    refine lv_icmp_eq (tgt := 106) hx hb dX11_goes_101 (by decide) (fun c4 => ?_) (fun c4 => ?_)
    · replace h := it_t h c4
      refine lv_iconst (v := 0) hx hb dX11_goes_106 (by decide) ?_
      refine lv_istore (lv' := [(4, .int 0), (0, .ref o), (1, .int v1), (2, .int v2), (3, .int v3)]) hx hb dX11_goes_107 hl (by decide) rfl (fun ls hl => ?_)
      exact wX11_goes_109 X hlk hr _ o v1 v2 v3 0 _ _ _ _ (lv_sub hl [1, 2, 3, 4, 0] rfl) hW hS h
    · replace h := it_f h c4
      refine lv_iload_n hx hb dX11_goes_104 rfl (lv_at hl 3 rfl) ?_
      exact z_etz X hlk hr hW hS h (by decide) (by decide) dX11_goes_105

def fX11_goes_31 : Nat → Nat → Int32 → Int32 → Int32 → Int32 → Hz → Option (Int32 × Hz)
  | 0, _, _, _, _, _, _ => none
  | n + 1, o, v1, v2, v3, v4, h => (b1 (gA 11 3 o h) fun a1 => (b1 (xI 12 a1 v1 h) fun x2 => (if x2 ≤ v4 then fX11_goes_90 o v1 v2 v3 h else (if v3 = 0 then (b1 (gA 11 10 o h) fun a5 => (b1 (xI 12 a5 ((8 * v1) + v4) h) fun x6 => (if x6 = 1 then (b1 (gA 11 11 o h) fun a8 => (b1 (xI 12 a8 ((8 * v1) + v4) h) fun x9 => (if x9 = v2 then fX11_goes_31 n o v1 v2 1 (v4 + 1) h else fX11_goes_31 n o v1 v2 0 (v4 + 1) h))) else fX11_goes_31 n o v1 v2 0 (v4 + 1) h))) else fX11_goes_90 o v1 v2 v3 h))))
set_option maxHeartbeats 4000000 in
set_option maxRecDepth 100000 in
theorem wX11_goes_31 {r0 : Int32} {h0 : Hz} (X : zX A D cy p s m args c cX11_goes RX11 5) (hlk : meth.locks = false) (hr : meth.sig.returnType = (some .boolean)) : ∀ (n : Nat) (o : Nat) (v1 : Int32) (v2 : Int32) (v3 : Int32) (v4 : Int32) (h : Hz) (H : Heap) (locs : List Loc) (ls : Array Slot) (hl : lv_has ls 5 [(0, .ref o), (1, .int v1), (2, .int v2), (3, .int v3), (4, .int v4)]) (hW : zW A cy D h H) (hS : va_S A s.heap H locs) (h : fX11_goes_31 n o v1 v2 v3 v4 h = some (r0, h0)), W p l e ({ frames := 0, cells := 0, slots := 0, locals := 0 } : Room) s m args below meth c H locs 0 0 (MQ below (va_Qi (fun r1 u => r1 = r0 ∧ u = h0) (zB A D cy) A) args s 0 0 A) (F0 m 31 ls []) := by
  obtain ⟨hx, hb, hts, hown, hK9, hml, hN9, hA9⟩ := id X
  intro n
  induction n with
  | zero =>
    intro o v1 v2 v3 v4 h H locs ls hl hW hS h
    rw [fX11_goes_31] at h
    cases h
  | succ n ih =>
    intro o v1 v2 v3 v4 h H locs ls hl hW hS h
    rw [fX11_goes_31] at h
    refine lv_iload hx hb dX11_goes_31 (lv_at hl 4 rfl) ?_
    refine lv_aload_n hx hb dX11_goes_33 rfl (lv_at hl 0 rfl) ?_
    replace h := b1_some h
    obtain ⟨a1, ga1, h⟩ := h
    refine z_getA X hW ga1 kX11 (by decide) (by decide) kf_X11_19 dX11_goes_34 ?_
    refine lv_iload_n hx hb dX11_goes_37 rfl (lv_at hl 1 rfl) ?_
    replace h := b1_some h
    obtain ⟨x2, gx2, h⟩ := h
    refine z_aldI X hW gx2 dX11_goes_38 ?_
    refine lv_icmp_ge (tgt := 90) hx hb dX11_goes_39 (by decide) (fun c3 => ?_) (fun c3 => ?_)
    · replace h := it_t h c3
      exact wX11_goes_90 X hlk hr o v1 v2 v3 _ _ _ _ (lv_sub hl [0, 1, 2, 3] rfl) hW hS h
    · replace h := it_f h c3
      refine lv_iload_n hx hb dX11_goes_42 rfl (lv_at hl 3 rfl) ?_
      refine lv_if_ne (tgt := 90) hx hb dX11_goes_43 (by decide) (fun c4 => ?_) (fun c4 => ?_)
      · replace h := it_f h c4
        exact wX11_goes_90 X hlk hr o v1 v2 v3 _ _ _ _ (lv_sub hl [0, 1, 2, 3] rfl) hW hS h
      · replace h := it_t h c4
        refine lv_aload_n hx hb dX11_goes_46 rfl (lv_at hl 0 rfl) ?_
        replace h := b1_some h
        obtain ⟨a5, ga5, h⟩ := h
        refine z_getA X hW ga5 kX11 (by decide) (by decide) kf_X11_38 dX11_goes_47 ?_
        refine lv_bipush (v := 8) hx hb dX11_goes_50 (by decide) ?_
        refine lv_iload_n hx hb dX11_goes_52 rfl (lv_at hl 1 rfl) ?_
        refine lv_imul hx hb dX11_goes_53 ?_
        refine lv_iload hx hb dX11_goes_54 (lv_at hl 4 rfl) ?_
        refine lv_iadd hx hb dX11_goes_56 ?_
        replace h := b1_some h
        obtain ⟨x6, gx6, h⟩ := h
        refine z_aldI X hW gx6 dX11_goes_57 ?_
        refine lv_iconst (v := 1) hx hb dX11_goes_58 (by decide) ?_
        refine lv_icmp_ne (tgt := 82) hx hb dX11_goes_59 (by decide) (fun c7 => ?_) (fun c7 => ?_)
        · replace h := it_f h c7
          refine lv_iconst (v := 0) hx hb dX11_goes_82 (by decide) ?_
          refine lv_istore_n (lv' := [(3, .int 0), (0, .ref o), (1, .int v1), (2, .int v2), (4, .int v4)]) hx hb dX11_goes_83 rfl hl (by decide) rfl (fun ls hl => ?_)
          refine lv_iinc (v := (v4 + 1)) (lv' := [(4, .int (v4 + 1)), (3, .int 0), (0, .ref o), (1, .int v1), (2, .int v2)]) hx hb dX11_goes_84 hl (k := 4) rfl rfl (by decide) rfl (fun ls hl => ?_)
          refine lv_goto (tgt := 31) hx hb dX11_goes_87 (by decide) ?_
          exact ih o v1 v2 0 (v4 + 1) _ _ _ _ (lv_sub hl [2, 3, 4, 1, 0] rfl) hW hS h
        · replace h := it_t h c7
          refine lv_aload_n hx hb dX11_goes_62 rfl (lv_at hl 0 rfl) ?_
          replace h := b1_some h
          obtain ⟨a8, ga8, h⟩ := h
          refine z_getA X hW ga8 kX11 (by decide) (by decide) kf_X11_41 dX11_goes_63 ?_
          refine lv_bipush (v := 8) hx hb dX11_goes_66 (by decide) ?_
          refine lv_iload_n hx hb dX11_goes_68 rfl (lv_at hl 1 rfl) ?_
          refine lv_imul hx hb dX11_goes_69 ?_
          refine lv_iload hx hb dX11_goes_70 (lv_at hl 4 rfl) ?_
          refine lv_iadd hx hb dX11_goes_72 ?_
          replace h := b1_some h
          obtain ⟨x9, gx9, h⟩ := h
          refine z_aldI X hW gx9 dX11_goes_73 ?_
          refine lv_iload_n hx hb dX11_goes_74 rfl (lv_at hl 2 rfl) ?_
          refine lv_icmp_ne (tgt := 82) hx hb dX11_goes_75 (by decide) (fun c10 => ?_) (fun c10 => ?_)
          · replace h := it_f h c10
            refine lv_iconst (v := 0) hx hb dX11_goes_82 (by decide) ?_
            refine lv_istore_n (lv' := [(3, .int 0), (0, .ref o), (1, .int v1), (2, .int v2), (4, .int v4)]) hx hb dX11_goes_83 rfl hl (by decide) rfl (fun ls hl => ?_)
            refine lv_iinc (v := (v4 + 1)) (lv' := [(4, .int (v4 + 1)), (3, .int 0), (0, .ref o), (1, .int v1), (2, .int v2)]) hx hb dX11_goes_84 hl (k := 4) rfl rfl (by decide) rfl (fun ls hl => ?_)
            refine lv_goto (tgt := 31) hx hb dX11_goes_87 (by decide) ?_
            exact ih o v1 v2 0 (v4 + 1) _ _ _ _ (lv_sub hl [2, 3, 4, 1, 0] rfl) hW hS h
          · replace h := it_t h c10
            refine lv_iconst (v := 1) hx hb dX11_goes_78 (by decide) ?_
            refine lv_goto (tgt := 83) hx hb dX11_goes_79 (by decide) ?_
            refine lv_istore_n (lv' := [(3, .int 1), (0, .ref o), (1, .int v1), (2, .int v2), (4, .int v4)]) hx hb dX11_goes_83 rfl hl (by decide) rfl (fun ls hl => ?_)
            refine lv_iinc (v := (v4 + 1)) (lv' := [(4, .int (v4 + 1)), (3, .int 1), (0, .ref o), (1, .int v1), (2, .int v2)]) hx hb dX11_goes_84 hl (k := 4) rfl rfl (by decide) rfl (fun ls hl => ?_)
            refine lv_goto (tgt := 31) hx hb dX11_goes_87 (by decide) ?_
            exact ih o v1 v2 1 (v4 + 1) _ _ _ _ (lv_sub hl [2, 3, 4, 1, 0] rfl) hW hS h

def fX11_goes (o : Nat) (v1 : Int32) (v2 : Int32) (h : Hz) : Option (Int32 × Hz) := (b1 (gA 11 0 o h) fun a1 => (b1 (xI 12 a1 v1 h) fun x2 => (if x2 = 3 then (b1 (gA 11 5 o h) fun a4 => (b1 (xI 12 a4 v1 h) fun x5 => (if x5 = v2 then rz 1 h else rz 0 h))) else fX11_goes_31 100000 o v1 v2 0 0 h)))
set_option maxHeartbeats 4000000 in
set_option maxRecDepth 100000 in
theorem wX11_goes_0 {r0 : Int32} {h0 : Hz} (X : zX A D cy p s m args c cX11_goes RX11 5) (hlk : meth.locks = false) (hr : meth.sig.returnType = (some .boolean)) (o : Nat) (v1 : Int32) (v2 : Int32) (h : Hz) (H : Heap) (locs : List Loc) (ls : Array Slot) (hl : lv_has ls 5 [(0, .ref o), (1, .int v1), (2, .int v2)]) (hW : zW A cy D h H) (hS : va_S A s.heap H locs) (h : fX11_goes o v1 v2 h = some (r0, h0)) : W p l e ({ frames := 0, cells := 0, slots := 0, locals := 0 } : Room) s m args below meth c H locs 0 0 (MQ below (va_Qi (fun r1 u => r1 = r0 ∧ u = h0) (zB A D cy) A) args s 0 0 A) (F0 m 0 ls []) := by
  obtain ⟨hx, hb, hts, hown, hK9, hml, hN9, hA9⟩ := id X
  unfold fX11_goes at h
  refine lv_aload_n hx hb dX11_goes_0 rfl (lv_at hl 0 rfl) ?_
  replace h := b1_some h
  obtain ⟨a1, ga1, h⟩ := h
  refine z_getA X hW ga1 kX11 (by decide) (by decide) kf_X11_9 dX11_goes_1 ?_
  refine lv_iload_n hx hb dX11_goes_4 rfl (lv_at hl 1 rfl) ?_
  replace h := b1_some h
  obtain ⟨x2, gx2, h⟩ := h
  refine z_aldI X hW gx2 dX11_goes_5 ?_
  refine lv_iconst (v := 3) hx hb dX11_goes_6 (by decide) ?_
  refine lv_icmp_ne (tgt := 26) hx hb dX11_goes_7 (by decide) (fun c3 => ?_) (fun c3 => ?_)
  · replace h := it_f h c3
    refine lv_iconst (v := 0) hx hb dX11_goes_26 (by decide) ?_
    refine lv_istore_n (lv' := [(3, .int 0), (0, .ref o), (1, .int v1), (2, .int v2)]) hx hb dX11_goes_27 rfl hl (by decide) rfl (fun ls hl => ?_)
    refine lv_iconst (v := 0) hx hb dX11_goes_28 (by decide) ?_
    refine lv_istore (lv' := [(4, .int 0), (3, .int 0), (0, .ref o), (1, .int v1), (2, .int v2)]) hx hb dX11_goes_29 hl (by decide) rfl (fun ls hl => ?_)
    exact wX11_goes_31 X hlk hr _ o v1 v2 0 0 _ _ _ _ (lv_sub hl [2, 3, 4, 1, 0] rfl) hW hS h
  · replace h := it_t h c3
    refine lv_aload_n hx hb dX11_goes_10 rfl (lv_at hl 0 rfl) ?_
    replace h := b1_some h
    obtain ⟨a4, ga4, h⟩ := h
    refine z_getA X hW ga4 kX11 (by decide) (by decide) kf_X11_25 dX11_goes_11 ?_
    refine lv_iload_n hx hb dX11_goes_14 rfl (lv_at hl 1 rfl) ?_
    replace h := b1_some h
    obtain ⟨x5, gx5, h⟩ := h
    refine z_aldI X hW gx5 dX11_goes_15 ?_
    refine lv_iload_n hx hb dX11_goes_16 rfl (lv_at hl 2 rfl) ?_
    refine lv_icmp_ne (tgt := 24) hx hb dX11_goes_17 (by decide) (fun c6 => ?_) (fun c6 => ?_)
    · replace h := it_f h c6
      refine lv_iconst (v := 0) hx hb dX11_goes_24 (by decide) ?_
      exact z_etz X hlk hr hW hS h (by decide) (by decide) dX11_goes_25
    · replace h := it_t h c6
      refine lv_iconst (v := 1) hx hb dX11_goes_20 (by decide) ?_
      refine lv_goto (tgt := 25) hx hb dX11_goes_21 (by decide) ?_
      exact z_etz X hlk hr hW hS h (by decide) (by decide) dX11_goes_25

set_option maxHeartbeats 4000000 in
set_option maxRecDepth 100000 in
theorem cX11_goes_met {l : Launch} {A : Nat → Prop} {D : va_G} {cy : Nat → ClassId} {r0 : Int32} {h0 : Hz} {o : Nat} {v1 : Int32} {v2 : Int32} {h : Hz} (g : fX11_goes o v1 v2 h = some (r0, h0)) : Met l yX11_goes (Cond.code yX11_goes cX11_goes 5 (some .boolean) :: wT) ({ frames := 0, cells := 0, slots := 0, locals := 0 } : Room) (va_Pc [.ref o, .int v1, .int v2] (zS A D cy h)) (va_Qi (fun r1 u => r1 = r0 ∧ u = h0) (zB A D cy) A) 0 0 A := by
  refine Met.ofW (cc := cX11_goes) (maxL := 5) (ret := (some .boolean)) (by decide) rfl ?_
  intro p e s m args below meth c s₁ B hml hv
  obtain ⟨rfl, hW, hK, hN, hA⟩ := hv
  have X : zX A D cy p s m _ c cX11_goes RX11 5 := ⟨B.exec, B.bytes, fun w hw => atoms_spec (ws := Cond.code yX11_goes cX11_goes 5 (some .boolean) :: wT) B.pre w (List.mem_cons_of_mem _ hw), findClass_of_methodNamed B.named, hK, hml, hN, hA⟩
  have hl := lv_entry [.ref o, .int v1, .int v2] (n := 5) (Nat.le_of_ble_eq_true rfl)
  rw [lg_entry_eq]
  generalize (lg_sl [.ref o, .int v1, .int v2] ++ List.replicate (5 - (lg_sl [.ref o, .int v1, .int v2]).length) Slot.unset).toArray = ls at hl ⊢
  have hl : lv_has ls 5 [(0, .ref o), (1, .int v1), (2, .int v2)] := hl
  exact wX11_goes_0 X B.notSynchronized B.returns o v1 v2 _ _ _ _ (lv_sub hl [0, 1, 2] rfl) hW va_S.rf g

theorem dX11_measure_0 : decode cX11_measure 0 = .ok (.iconst 0, 1) := by decide +kernel
theorem dX11_measure_1 : decode cX11_measure 1 = .ok (.istore_n 2, 1) := by decide +kernel
theorem dX11_measure_2 : decode cX11_measure 2 = .ok (.iload_n 2, 1) := by decide +kernel
theorem dX11_measure_3 : decode cX11_measure 3 = .ok (.sipush 300, 3) := by decide +kernel
theorem dX11_measure_6 : decode cX11_measure 6 = .ok (.if_icmp .ge 16, 3) := by decide +kernel
theorem dX11_measure_9 : decode cX11_measure 9 = .ok (.aload_n 0, 1) := by decide +kernel
theorem dX11_measure_10 : decode cX11_measure 10 = .ok (.getfield 142, 3) := by decide +kernel
theorem dX11_measure_13 : decode cX11_measure 13 = .ok (.iload_n 2, 1) := by decide +kernel
theorem dX11_measure_14 : decode cX11_measure 14 = .ok (.iconst (-1), 1) := by decide +kernel
theorem dX11_measure_15 : decode cX11_measure 15 = .ok (.iastore, 1) := by decide +kernel
theorem dX11_measure_16 : decode cX11_measure 16 = .ok (.iinc 2 1, 3) := by decide +kernel
theorem dX11_measure_19 : decode cX11_measure 19 = .ok (.goto (-17), 3) := by decide +kernel
theorem dX11_measure_22 : decode cX11_measure 22 = .ok (.aload_n 0, 1) := by decide +kernel
theorem dX11_measure_23 : decode cX11_measure 23 = .ok (.getfield 142, 3) := by decide +kernel
theorem dX11_measure_26 : decode cX11_measure 26 = .ok (.iload_n 1, 1) := by decide +kernel
theorem dX11_measure_27 : decode cX11_measure 27 = .ok (.iconst 0, 1) := by decide +kernel
theorem dX11_measure_28 : decode cX11_measure 28 = .ok (.iastore, 1) := by decide +kernel
theorem dX11_measure_29 : decode cX11_measure 29 = .ok (.aload_n 0, 1) := by decide +kernel
theorem dX11_measure_30 : decode cX11_measure 30 = .ok (.getfield 106, 3) := by decide +kernel
theorem dX11_measure_33 : decode cX11_measure 33 = .ok (.iconst 0, 1) := by decide +kernel
theorem dX11_measure_34 : decode cX11_measure 34 = .ok (.iload_n 1, 1) := by decide +kernel
theorem dX11_measure_35 : decode cX11_measure 35 = .ok (.iastore, 1) := by decide +kernel
theorem dX11_measure_36 : decode cX11_measure 36 = .ok (.iconst 1, 1) := by decide +kernel
theorem dX11_measure_37 : decode cX11_measure 37 = .ok (.istore_n 2, 1) := by decide +kernel
theorem dX11_measure_38 : decode cX11_measure 38 = .ok (.iconst 0, 1) := by decide +kernel
theorem dX11_measure_39 : decode cX11_measure 39 = .ok (.istore_n 3, 1) := by decide +kernel
theorem dX11_measure_40 : decode cX11_measure 40 = .ok (.iload_n 3, 1) := by decide +kernel
theorem dX11_measure_41 : decode cX11_measure 41 = .ok (.iload_n 2, 1) := by decide +kernel
theorem dX11_measure_42 : decode cX11_measure 42 = .ok (.if_icmp .ge 97, 3) := by decide +kernel
theorem dX11_measure_45 : decode cX11_measure 45 = .ok (.iconst 0, 1) := by decide +kernel
theorem dX11_measure_46 : decode cX11_measure 46 = .ok (.istore 4, 2) := by decide +kernel
theorem dX11_measure_48 : decode cX11_measure 48 = .ok (.iload 4, 2) := by decide +kernel
theorem dX11_measure_50 : decode cX11_measure 50 = .ok (.aload_n 0, 1) := by decide +kernel
theorem dX11_measure_51 : decode cX11_measure 51 = .ok (.getfield 145, 3) := by decide +kernel
theorem dX11_measure_54 : decode cX11_measure 54 = .ok (.if_icmp .ge 79, 3) := by decide +kernel
theorem dX11_measure_57 : decode cX11_measure 57 = .ok (.aload_n 0, 1) := by decide +kernel
theorem dX11_measure_58 : decode cX11_measure 58 = .ok (.getfield 31, 3) := by decide +kernel
theorem dX11_measure_61 : decode cX11_measure 61 = .ok (.iload 4, 2) := by decide +kernel
theorem dX11_measure_63 : decode cX11_measure 63 = .ok (.baload, 1) := by decide +kernel
theorem dX11_measure_64 : decode cX11_measure 64 = .ok (.ifCond .ne 63, 3) := by decide +kernel
theorem dX11_measure_67 : decode cX11_measure 67 = .ok (.aload_n 0, 1) := by decide +kernel
theorem dX11_measure_68 : decode cX11_measure 68 = .ok (.getfield 142, 3) := by decide +kernel
theorem dX11_measure_71 : decode cX11_measure 71 = .ok (.iload 4, 2) := by decide +kernel
theorem dX11_measure_73 : decode cX11_measure 73 = .ok (.iaload, 1) := by decide +kernel
theorem dX11_measure_74 : decode cX11_measure 74 = .ok (.iconst (-1), 1) := by decide +kernel
theorem dX11_measure_75 : decode cX11_measure 75 = .ok (.if_icmp .ne 52, 3) := by decide +kernel
theorem dX11_measure_78 : decode cX11_measure 78 = .ok (.aload_n 0, 1) := by decide +kernel
theorem dX11_measure_79 : decode cX11_measure 79 = .ok (.iload 4, 2) := by decide +kernel
theorem dX11_measure_81 : decode cX11_measure 81 = .ok (.aload_n 0, 1) := by decide +kernel
theorem dX11_measure_82 : decode cX11_measure 82 = .ok (.getfield 106, 3) := by decide +kernel
theorem dX11_measure_85 : decode cX11_measure 85 = .ok (.iload_n 3, 1) := by decide +kernel
theorem dX11_measure_86 : decode cX11_measure 86 = .ok (.iaload, 1) := by decide +kernel
theorem dX11_measure_87 : decode cX11_measure 87 = .ok (.invokevirtual 261, 3) := by decide +kernel
theorem dX11_measure_90 : decode cX11_measure 90 = .ok (.ifCond .ne 6, 3) := by decide +kernel
theorem dX11_measure_93 : decode cX11_measure 93 = .ok (.goto 34, 3) := by decide +kernel
theorem dX11_measure_96 : decode cX11_measure 96 = .ok (.aload_n 0, 1) := by decide +kernel
theorem dX11_measure_97 : decode cX11_measure 97 = .ok (.getfield 142, 3) := by decide +kernel
theorem dX11_measure_100 : decode cX11_measure 100 = .ok (.iload 4, 2) := by decide +kernel
theorem dX11_measure_102 : decode cX11_measure 102 = .ok (.aload_n 0, 1) := by decide +kernel
theorem dX11_measure_103 : decode cX11_measure 103 = .ok (.getfield 142, 3) := by decide +kernel
theorem dX11_measure_106 : decode cX11_measure 106 = .ok (.aload_n 0, 1) := by decide +kernel
theorem dX11_measure_107 : decode cX11_measure 107 = .ok (.getfield 106, 3) := by decide +kernel
theorem dX11_measure_110 : decode cX11_measure 110 = .ok (.iload_n 3, 1) := by decide +kernel
theorem dX11_measure_111 : decode cX11_measure 111 = .ok (.iaload, 1) := by decide +kernel
theorem dX11_measure_112 : decode cX11_measure 112 = .ok (.iaload, 1) := by decide +kernel
theorem dX11_measure_113 : decode cX11_measure 113 = .ok (.iconst 1, 1) := by decide +kernel
theorem dX11_measure_114 : decode cX11_measure 114 = .ok (.iadd, 1) := by decide +kernel
theorem dX11_measure_115 : decode cX11_measure 115 = .ok (.iastore, 1) := by decide +kernel
theorem dX11_measure_116 : decode cX11_measure 116 = .ok (.aload_n 0, 1) := by decide +kernel
theorem dX11_measure_117 : decode cX11_measure 117 = .ok (.getfield 106, 3) := by decide +kernel
theorem dX11_measure_120 : decode cX11_measure 120 = .ok (.iload_n 2, 1) := by decide +kernel
theorem dX11_measure_121 : decode cX11_measure 121 = .ok (.iload 4, 2) := by decide +kernel
theorem dX11_measure_123 : decode cX11_measure 123 = .ok (.iastore, 1) := by decide +kernel
theorem dX11_measure_124 : decode cX11_measure 124 = .ok (.iinc 2 1, 3) := by decide +kernel
theorem dX11_measure_127 : decode cX11_measure 127 = .ok (.iinc 4 1, 3) := by decide +kernel
theorem dX11_measure_130 : decode cX11_measure 130 = .ok (.goto (-82), 3) := by decide +kernel
theorem dX11_measure_133 : decode cX11_measure 133 = .ok (.iinc 3 1, 3) := by decide +kernel
theorem dX11_measure_136 : decode cX11_measure 136 = .ok (.goto (-96), 3) := by decide +kernel
theorem dX11_measure_139 : decode cX11_measure 139 = .ok (.return_, 1) := by decide +kernel
def fX11_measure_48 (K40 : Nat → Int32 → Int32 → Hz → Option (Unit × Hz)) : Nat → Nat → Int32 → Int32 → Int32 → Hz → Option (Unit × Hz)
  | 0, _, _, _, _, _ => none
  | n + 1, o, v2, v3, v4, h => (b1 (gI 11 9 o h) fun x1 => (if x1 ≤ v4 then K40 o v2 (v3 + 1) h else (b1 (gA 11 7 o h) fun a3 => (b1 (xI 14 a3 v4 h) fun x4 => (if x4 = 0 then (b1 (gA 11 49 o h) fun a6 => (b1 (xI 12 a6 v4 h) fun x7 => (if x7 = (-1) then (b1 (gA 11 36 o h) fun a9 => (b1 (xI 12 a9 v3 h) fun x10 => (b1 (tg 11 o h) fun _ => (b2 (fX11_goes o v4 x10 h) fun x12 s13 => (if x12 = 0 then fX11_measure_48 K40 n o v2 v3 (v4 + 1) s13 else (b1 (gA 11 49 o s13) fun a15 => (b1 (gA 11 49 o s13) fun a16 => (b1 (gA 11 36 o s13) fun a17 => (b1 (xI 12 a17 v3 s13) fun x18 => (b1 (xI 12 a16 x18 s13) fun x19 => (b1 (yI a15 v4 (x19 + 1) s13) fun s20 => (b1 (gA 11 36 o s20) fun a21 => (b1 (yI a21 v2 v4 s20) fun s22 => fX11_measure_48 K40 n o (v2 + 1) v3 (v4 + 1) s22))))))))))))) else fX11_measure_48 K40 n o v2 v3 (v4 + 1) h))) else fX11_measure_48 K40 n o v2 v3 (v4 + 1) h)))))
set_option maxHeartbeats 4000000 in
set_option maxRecDepth 100000 in
theorem wX11_measure_48 {r0 : Unit} {h0 : Hz} (X : zX A D cy p s m args c cX11_measure RX11 5) (hlk : meth.locks = false) (hr : meth.sig.returnType = none) {K40 : Nat → Int32 → Int32 → Hz → Option (Unit × Hz)} (hK40 : ∀ (o : Nat) (u2 : Int32) (u3 : Int32) (h : Hz) (H : Heap) (locs : List Loc) (ls : Array Slot), lv_has ls 5 [(0, .ref o), (2, .int u2), (3, .int u3)] → zW A cy D h H → va_S A s.heap H locs → K40 o u2 u3 h = some (r0, h0) → W p l e ({ frames := 1, cells := 0, slots := 0, locals := 24 } : Room) s m args below meth c H locs 0 0 (MQ below (va_Qv (fun u => u = h0) (zB A D cy) A) args s 0 0 A) (F0 m 40 ls [])) : ∀ (n : Nat) (o : Nat) (v2 : Int32) (v3 : Int32) (v4 : Int32) (h : Hz) (H : Heap) (locs : List Loc) (ls : Array Slot) (hl : lv_has ls 5 [(0, .ref o), (2, .int v2), (3, .int v3), (4, .int v4)]) (hW : zW A cy D h H) (hS : va_S A s.heap H locs) (h : fX11_measure_48 K40 n o v2 v3 v4 h = some (r0, h0)), W p l e ({ frames := 1, cells := 0, slots := 0, locals := 24 } : Room) s m args below meth c H locs 0 0 (MQ below (va_Qv (fun u => u = h0) (zB A D cy) A) args s 0 0 A) (F0 m 48 ls []) := by
  obtain ⟨hx, hb, hts, hown, hK9, hml, hN9, hA9⟩ := id X
  intro n
  induction n with
  | zero =>
    intro o v2 v3 v4 h H locs ls hl hW hS h
    rw [fX11_measure_48] at h
    cases h
  | succ n ih =>
    intro o v2 v3 v4 h H locs ls hl hW hS h
    rw [fX11_measure_48] at h
    refine lv_iload hx hb dX11_measure_48 (lv_at hl 3 rfl) ?_
    refine lv_aload_n hx hb dX11_measure_50 rfl (lv_at hl 0 rfl) ?_
    replace h := b1_some h
    obtain ⟨x1, gx1, h⟩ := h
    refine z_getI X hW gx1 kX11 (by decide) (by decide) kf_X11_145 dX11_measure_51 ?_
    refine lv_icmp_ge (tgt := 133) hx hb dX11_measure_54 (by decide) (fun c2 => ?_) (fun c2 => ?_)
    · replace h := it_t h c2
      refine lv_iinc (v := (v3 + 1)) (lv' := [(3, .int (v3 + 1)), (0, .ref o), (2, .int v2), (4, .int v4)]) hx hb dX11_measure_133 hl (k := 2) rfl rfl (by decide) rfl (fun ls hl => ?_)
      refine lv_goto (tgt := 40) hx hb dX11_measure_136 (by decide) ?_
      exact hK40 o v2 (v3 + 1) _ _ _ _ (lv_sub hl [1, 2, 0] rfl) hW hS h
    · replace h := it_f h c2
      refine lv_aload_n hx hb dX11_measure_57 rfl (lv_at hl 0 rfl) ?_
      replace h := b1_some h
      obtain ⟨a3, ga3, h⟩ := h
      refine z_getA X hW ga3 kX11 (by decide) (by decide) kf_X11_31 dX11_measure_58 ?_
      refine lv_iload hx hb dX11_measure_61 (lv_at hl 3 rfl) ?_
      replace h := b1_some h
      obtain ⟨x4, gx4, h⟩ := h
      refine z_aldZ X hW gx4 dX11_measure_63 ?_
      refine lv_if_ne (tgt := 127) hx hb dX11_measure_64 (by decide) (fun c5 => ?_) (fun c5 => ?_)
      · replace h := it_f h c5
        refine lv_iinc (v := (v4 + 1)) (lv' := [(4, .int (v4 + 1)), (0, .ref o), (2, .int v2), (3, .int v3)]) hx hb dX11_measure_127 hl (k := 3) rfl rfl (by decide) rfl (fun ls hl => ?_)
        refine lv_goto (tgt := 48) hx hb dX11_measure_130 (by decide) ?_
        exact ih o v2 v3 (v4 + 1) _ _ _ _ (lv_sub hl [1, 2, 3, 0] rfl) hW hS h
      · replace h := it_t h c5
        refine lv_aload_n hx hb dX11_measure_67 rfl (lv_at hl 0 rfl) ?_
        replace h := b1_some h
        obtain ⟨a6, ga6, h⟩ := h
        refine z_getA X hW ga6 kX11 (by decide) (by decide) kf_X11_142 dX11_measure_68 ?_
        refine lv_iload hx hb dX11_measure_71 (lv_at hl 3 rfl) ?_
        replace h := b1_some h
        obtain ⟨x7, gx7, h⟩ := h
        refine z_aldI X hW gx7 dX11_measure_73 ?_
        refine lv_iconst (v := (-1)) hx hb dX11_measure_74 (by decide) ?_
        refine lv_icmp_ne (tgt := 127) hx hb dX11_measure_75 (by decide) (fun c8 => ?_) (fun c8 => ?_)
        · replace h := it_f h c8
          refine lv_iinc (v := (v4 + 1)) (lv' := [(4, .int (v4 + 1)), (0, .ref o), (2, .int v2), (3, .int v3)]) hx hb dX11_measure_127 hl (k := 3) rfl rfl (by decide) rfl (fun ls hl => ?_)
          refine lv_goto (tgt := 48) hx hb dX11_measure_130 (by decide) ?_
          exact ih o v2 v3 (v4 + 1) _ _ _ _ (lv_sub hl [1, 2, 3, 0] rfl) hW hS h
        · replace h := it_t h c8
          refine lv_aload_n hx hb dX11_measure_78 rfl (lv_at hl 0 rfl) ?_
          refine lv_iload hx hb dX11_measure_79 (lv_at hl 3 rfl) ?_
          refine lv_aload_n hx hb dX11_measure_81 rfl (lv_at hl 0 rfl) ?_
          replace h := b1_some h
          obtain ⟨a9, ga9, h⟩ := h
          refine z_getA X hW ga9 kX11 (by decide) (by decide) kf_X11_106 dX11_measure_82 ?_
          refine lv_iload_n hx hb dX11_measure_85 rfl (lv_at hl 2 rfl) ?_
          replace h := b1_some h
          obtain ⟨x10, gx10, h⟩ := h
          refine z_aldI X hW gx10 dX11_measure_86 ?_
          replace h := b1_some h
          obtain ⟨q11, gq11, h⟩ := h
          replace h := b2_some h
          obtain ⟨x12, s13, gs13, h⟩ := h
          refine z_callVi (rest := []) X hW hS (cX11_goes_met gs13) kb_X11_goes kv_X11_goes kl_X11_261 (it_v gq11).1 kX11 rfl rfl ⟨Nat.le_of_ble_eq_true rfl, Nat.le_of_ble_eq_true rfl⟩ rfl rfl (by decide) hl.1 dX11_measure_87 ⟨(by decide), (by decide)⟩ (fun H locs hW hS => ?_)
          refine lv_if_ne (tgt := 96) hx hb dX11_measure_90 (by decide) (fun c14 => ?_) (fun c14 => ?_)
          · replace h := it_f h c14
            refine lv_aload_n hx hb dX11_measure_96 rfl (lv_at hl 0 rfl) ?_
            replace h := b1_some h
            obtain ⟨a15, ga15, h⟩ := h
            refine z_getA X hW ga15 kX11 (by decide) (by decide) kf_X11_142 dX11_measure_97 ?_
            refine lv_iload hx hb dX11_measure_100 (lv_at hl 3 rfl) ?_
            refine lv_aload_n hx hb dX11_measure_102 rfl (lv_at hl 0 rfl) ?_
            replace h := b1_some h
            obtain ⟨a16, ga16, h⟩ := h
            refine z_getA X hW ga16 kX11 (by decide) (by decide) kf_X11_142 dX11_measure_103 ?_
            refine lv_aload_n hx hb dX11_measure_106 rfl (lv_at hl 0 rfl) ?_
            replace h := b1_some h
            obtain ⟨a17, ga17, h⟩ := h
            refine z_getA X hW ga17 kX11 (by decide) (by decide) kf_X11_106 dX11_measure_107 ?_
            refine lv_iload_n hx hb dX11_measure_110 rfl (lv_at hl 2 rfl) ?_
            replace h := b1_some h
            obtain ⟨x18, gx18, h⟩ := h
            refine z_aldI X hW gx18 dX11_measure_111 ?_
            replace h := b1_some h
            obtain ⟨x19, gx19, h⟩ := h
            refine z_aldI X hW gx19 dX11_measure_112 ?_
            refine lv_iconst (v := 1) hx hb dX11_measure_113 (by decide) ?_
            refine lv_iadd hx hb dX11_measure_114 ?_
            replace h := b1_some h
            obtain ⟨s20, gs20, h⟩ := h
            refine z_astI X hW hS gs20 dX11_measure_115 (fun H locs hW hS => ?_)
            refine lv_aload_n hx hb dX11_measure_116 rfl (lv_at hl 0 rfl) ?_
            replace h := b1_some h
            obtain ⟨a21, ga21, h⟩ := h
            refine z_getA X hW ga21 kX11 (by decide) (by decide) kf_X11_106 dX11_measure_117 ?_
            refine lv_iload_n hx hb dX11_measure_120 rfl (lv_at hl 1 rfl) ?_
            refine lv_iload hx hb dX11_measure_121 (lv_at hl 3 rfl) ?_
            replace h := b1_some h
            obtain ⟨s22, gs22, h⟩ := h
            refine z_astI X hW hS gs22 dX11_measure_123 (fun H locs hW hS => ?_)
            refine lv_iinc (v := (v2 + 1)) (lv' := [(2, .int (v2 + 1)), (0, .ref o), (3, .int v3), (4, .int v4)]) hx hb dX11_measure_124 hl (k := 1) rfl rfl (by decide) rfl (fun ls hl => ?_)
            refine lv_iinc (v := (v4 + 1)) (lv' := [(4, .int (v4 + 1)), (2, .int (v2 + 1)), (0, .ref o), (3, .int v3)]) hx hb dX11_measure_127 hl (k := 3) rfl rfl (by decide) rfl (fun ls hl => ?_)
            refine lv_goto (tgt := 48) hx hb dX11_measure_130 (by decide) ?_
            exact ih o (v2 + 1) v3 (v4 + 1) _ _ _ _ (lv_sub hl [2, 1, 3, 0] rfl) hW hS h
          · replace h := it_t h c14
            refine lv_goto (tgt := 127) hx hb dX11_measure_93 (by decide) ?_
            refine lv_iinc (v := (v4 + 1)) (lv' := [(4, .int (v4 + 1)), (0, .ref o), (2, .int v2), (3, .int v3)]) hx hb dX11_measure_127 hl (k := 3) rfl rfl (by decide) rfl (fun ls hl => ?_)
            refine lv_goto (tgt := 48) hx hb dX11_measure_130 (by decide) ?_
            exact ih o v2 v3 (v4 + 1) _ _ _ _ (lv_sub hl [1, 2, 3, 0] rfl) hW hS h

def fX11_measure_40 : Nat → Nat → Int32 → Int32 → Hz → Option (Unit × Hz)
  | 0, _, _, _, _ => none
  | n + 1, o, v2, v3, h => (if v2 ≤ v3 then some ((), h) else fX11_measure_48 (fX11_measure_40 n) 100000 o v2 v3 0 h)
set_option maxHeartbeats 4000000 in
set_option maxRecDepth 100000 in
theorem wX11_measure_40 {r0 : Unit} {h0 : Hz} (X : zX A D cy p s m args c cX11_measure RX11 5) (hlk : meth.locks = false) (hr : meth.sig.returnType = none) : ∀ (n : Nat) (o : Nat) (v2 : Int32) (v3 : Int32) (h : Hz) (H : Heap) (locs : List Loc) (ls : Array Slot) (hl : lv_has ls 5 [(0, .ref o), (2, .int v2), (3, .int v3)]) (hW : zW A cy D h H) (hS : va_S A s.heap H locs) (h : fX11_measure_40 n o v2 v3 h = some (r0, h0)), W p l e ({ frames := 1, cells := 0, slots := 0, locals := 24 } : Room) s m args below meth c H locs 0 0 (MQ below (va_Qv (fun u => u = h0) (zB A D cy) A) args s 0 0 A) (F0 m 40 ls []) := by
  obtain ⟨hx, hb, hts, hown, hK9, hml, hN9, hA9⟩ := id X
  intro n
  induction n with
  | zero =>
    intro o v2 v3 h H locs ls hl hW hS h
    rw [fX11_measure_40] at h
    cases h
  | succ n ih =>
    intro o v2 v3 h H locs ls hl hW hS h
    rw [fX11_measure_40] at h
    refine lv_iload_n hx hb dX11_measure_40 rfl (lv_at hl 2 rfl) ?_
    refine lv_iload_n hx hb dX11_measure_41 rfl (lv_at hl 1 rfl) ?_
    refine lv_icmp_ge (tgt := 139) hx hb dX11_measure_42 (by decide) (fun c1 => ?_) (fun c1 => ?_)
    · replace h := it_t h c1
      exact z_etv X hlk hr hW hS h (by decide) (by decide) dX11_measure_139
    · replace h := it_f h c1
      refine lv_iconst (v := 0) hx hb dX11_measure_45 (by decide) ?_
      refine lv_istore (lv' := [(4, .int 0), (0, .ref o), (2, .int v2), (3, .int v3)]) hx hb dX11_measure_46 hl (by decide) rfl (fun ls hl => ?_)
      exact wX11_measure_48 X hlk hr ih _ o v2 v3 0 _ _ _ _ (lv_sub hl [1, 2, 3, 0] rfl) hW hS h

def fX11_measure_2 : Nat → Nat → Int32 → Int32 → Hz → Option (Unit × Hz)
  | 0, _, _, _, _ => none
  | n + 1, o, v1, v2, h => (if 300 ≤ v2 then (b1 (gA 11 49 o h) fun a2 => (b1 (yI a2 v1 0 h) fun s3 => (b1 (gA 11 36 o s3) fun a4 => (b1 (yI a4 0 v1 s3) fun s5 => fX11_measure_40 100000 o 1 0 s5)))) else (b1 (gA 11 49 o h) fun a6 => (b1 (yI a6 v2 (-1) h) fun s7 => fX11_measure_2 n o v1 (v2 + 1) s7)))
set_option maxHeartbeats 4000000 in
set_option maxRecDepth 100000 in
theorem wX11_measure_2 {r0 : Unit} {h0 : Hz} (X : zX A D cy p s m args c cX11_measure RX11 5) (hlk : meth.locks = false) (hr : meth.sig.returnType = none) : ∀ (n : Nat) (o : Nat) (v1 : Int32) (v2 : Int32) (h : Hz) (H : Heap) (locs : List Loc) (ls : Array Slot) (hl : lv_has ls 5 [(0, .ref o), (1, .int v1), (2, .int v2)]) (hW : zW A cy D h H) (hS : va_S A s.heap H locs) (h : fX11_measure_2 n o v1 v2 h = some (r0, h0)), W p l e ({ frames := 1, cells := 0, slots := 0, locals := 24 } : Room) s m args below meth c H locs 0 0 (MQ below (va_Qv (fun u => u = h0) (zB A D cy) A) args s 0 0 A) (F0 m 2 ls []) := by
  obtain ⟨hx, hb, hts, hown, hK9, hml, hN9, hA9⟩ := id X
  intro n
  induction n with
  | zero =>
    intro o v1 v2 h H locs ls hl hW hS h
    rw [fX11_measure_2] at h
    cases h
  | succ n ih =>
    intro o v1 v2 h H locs ls hl hW hS h
    rw [fX11_measure_2] at h
    refine lv_iload_n hx hb dX11_measure_2 rfl (lv_at hl 2 rfl) ?_
    refine lv_sipush (v := 300) hx hb dX11_measure_3 (by decide) ?_
    refine lv_icmp_ge (tgt := 22) hx hb dX11_measure_6 (by decide) (fun c1 => ?_) (fun c1 => ?_)
    · replace h := it_t h c1
      refine lv_aload_n hx hb dX11_measure_22 rfl (lv_at hl 0 rfl) ?_
      replace h := b1_some h
      obtain ⟨a2, ga2, h⟩ := h
      refine z_getA X hW ga2 kX11 (by decide) (by decide) kf_X11_142 dX11_measure_23 ?_
      refine lv_iload_n hx hb dX11_measure_26 rfl (lv_at hl 1 rfl) ?_
      refine lv_iconst (v := 0) hx hb dX11_measure_27 (by decide) ?_
      replace h := b1_some h
      obtain ⟨s3, gs3, h⟩ := h
      refine z_astI X hW hS gs3 dX11_measure_28 (fun H locs hW hS => ?_)
      refine lv_aload_n hx hb dX11_measure_29 rfl (lv_at hl 0 rfl) ?_
      replace h := b1_some h
      obtain ⟨a4, ga4, h⟩ := h
      refine z_getA X hW ga4 kX11 (by decide) (by decide) kf_X11_106 dX11_measure_30 ?_
      refine lv_iconst (v := 0) hx hb dX11_measure_33 (by decide) ?_
      refine lv_iload_n hx hb dX11_measure_34 rfl (lv_at hl 1 rfl) ?_
      replace h := b1_some h
      obtain ⟨s5, gs5, h⟩ := h
      refine z_astI X hW hS gs5 dX11_measure_35 (fun H locs hW hS => ?_)
      refine lv_iconst (v := 1) hx hb dX11_measure_36 (by decide) ?_
      refine lv_istore_n (lv' := [(2, .int 1), (0, .ref o), (1, .int v1)]) hx hb dX11_measure_37 rfl hl (by decide) rfl (fun ls hl => ?_)
      refine lv_iconst (v := 0) hx hb dX11_measure_38 (by decide) ?_
      refine lv_istore_n (lv' := [(3, .int 0), (2, .int 1), (0, .ref o), (1, .int v1)]) hx hb dX11_measure_39 rfl hl (by decide) rfl (fun ls hl => ?_)
      exact wX11_measure_40 X hlk hr _ o 1 0 _ _ _ _ (lv_sub hl [2, 1, 0] rfl) hW hS h
    · replace h := it_f h c1
      refine lv_aload_n hx hb dX11_measure_9 rfl (lv_at hl 0 rfl) ?_
      replace h := b1_some h
      obtain ⟨a6, ga6, h⟩ := h
      refine z_getA X hW ga6 kX11 (by decide) (by decide) kf_X11_142 dX11_measure_10 ?_
      refine lv_iload_n hx hb dX11_measure_13 rfl (lv_at hl 2 rfl) ?_
      refine lv_iconst (v := (-1)) hx hb dX11_measure_14 (by decide) ?_
      replace h := b1_some h
      obtain ⟨s7, gs7, h⟩ := h
      refine z_astI X hW hS gs7 dX11_measure_15 (fun H locs hW hS => ?_)
      refine lv_iinc (v := (v2 + 1)) (lv' := [(2, .int (v2 + 1)), (0, .ref o), (1, .int v1)]) hx hb dX11_measure_16 hl (k := 2) rfl rfl (by decide) rfl (fun ls hl => ?_)
      refine lv_goto (tgt := 2) hx hb dX11_measure_19 (by decide) ?_
      exact ih o v1 (v2 + 1) _ _ _ _ (lv_sub hl [1, 2, 0] rfl) hW hS h

def fX11_measure (o : Nat) (v1 : Int32) (h : Hz) : Option (Unit × Hz) := fX11_measure_2 100000 o v1 0 h
set_option maxHeartbeats 4000000 in
set_option maxRecDepth 100000 in
theorem wX11_measure_0 {r0 : Unit} {h0 : Hz} (X : zX A D cy p s m args c cX11_measure RX11 5) (hlk : meth.locks = false) (hr : meth.sig.returnType = none) (o : Nat) (v1 : Int32) (h : Hz) (H : Heap) (locs : List Loc) (ls : Array Slot) (hl : lv_has ls 5 [(0, .ref o), (1, .int v1)]) (hW : zW A cy D h H) (hS : va_S A s.heap H locs) (h : fX11_measure o v1 h = some (r0, h0)) : W p l e ({ frames := 1, cells := 0, slots := 0, locals := 24 } : Room) s m args below meth c H locs 0 0 (MQ below (va_Qv (fun u => u = h0) (zB A D cy) A) args s 0 0 A) (F0 m 0 ls []) := by
  obtain ⟨hx, hb, hts, hown, hK9, hml, hN9, hA9⟩ := id X
  unfold fX11_measure at h
  refine lv_iconst (v := 0) hx hb dX11_measure_0 (by decide) ?_
  refine lv_istore_n (lv' := [(2, .int 0), (0, .ref o), (1, .int v1)]) hx hb dX11_measure_1 rfl hl (by decide) rfl (fun ls hl => ?_)
  exact wX11_measure_2 X hlk hr _ o v1 0 _ _ _ _ (lv_sub hl [1, 2, 0] rfl) hW hS h

set_option maxHeartbeats 4000000 in
set_option maxRecDepth 100000 in
theorem cX11_measure_met {l : Launch} {A : Nat → Prop} {D : va_G} {cy : Nat → ClassId} {r0 : Unit} {h0 : Hz} {o : Nat} {v1 : Int32} {h : Hz} (g : fX11_measure o v1 h = some (r0, h0)) : Met l yX11_measure (Cond.code yX11_measure cX11_measure 5 none :: wT) ({ frames := 1, cells := 0, slots := 0, locals := 24 } : Room) (va_Pc [.ref o, .int v1] (zS A D cy h)) (va_Qv (fun u => u = h0) (zB A D cy) A) 0 0 A := by
  refine Met.ofW (cc := cX11_measure) (maxL := 5) (ret := none) (by decide) rfl ?_
  intro p e s m args below meth c s₁ B hml hv
  obtain ⟨rfl, hW, hK, hN, hA⟩ := hv
  have X : zX A D cy p s m _ c cX11_measure RX11 5 := ⟨B.exec, B.bytes, fun w hw => atoms_spec (ws := Cond.code yX11_measure cX11_measure 5 none :: wT) B.pre w (List.mem_cons_of_mem _ hw), findClass_of_methodNamed B.named, hK, hml, hN, hA⟩
  have hl := lv_entry [.ref o, .int v1] (n := 5) (Nat.le_of_ble_eq_true rfl)
  rw [lg_entry_eq]
  generalize (lg_sl [.ref o, .int v1] ++ List.replicate (5 - (lg_sl [.ref o, .int v1]).length) Slot.unset).toArray = ls at hl ⊢
  have hl : lv_has ls 5 [(0, .ref o), (1, .int v1)] := hl
  exact wX11_measure_0 X B.notSynchronized B.returns o v1 _ _ _ _ (lv_sub hl [0, 1] rfl) hW va_S.rf g

end Z12_modeld
