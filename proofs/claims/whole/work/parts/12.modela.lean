section Z12_modela
variable {p : Program} {l : Launch} {e : Env} {s : State} {m : MethodId} {args : Array Value} {below : List Frame} {meth : Method} {c : Code} {A : Nat → Prop} {D : va_G} {cy : Nat → ClassId}
theorem dX11_init_0 : decode cX11_init 0 = .ok (.aload_n 0, 1) := by decide +kernel
theorem dX11_init_1 : decode cX11_init 1 = .ok (.invokespecial 1, 3) := by decide +kernel
theorem dX11_init_4 : decode cX11_init 4 = .ok (.aload_n 0, 1) := by decide +kernel
theorem dX11_init_5 : decode cX11_init 5 = .ok (.sipush 300, 3) := by decide +kernel
theorem dX11_init_8 : decode cX11_init 8 = .ok (.newarray .int, 2) := by decide +kernel
theorem dX11_init_10 : decode cX11_init 10 = .ok (.putfield 9, 3) := by decide +kernel
theorem dX11_init_13 : decode cX11_init 13 = .ok (.aload_n 0, 1) := by decide +kernel
theorem dX11_init_14 : decode cX11_init 14 = .ok (.sipush 300, 3) := by decide +kernel
theorem dX11_init_17 : decode cX11_init 17 = .ok (.newarray .int, 2) := by decide +kernel
theorem dX11_init_19 : decode cX11_init 19 = .ok (.putfield 13, 3) := by decide +kernel
theorem dX11_init_22 : decode cX11_init 22 = .ok (.aload_n 0, 1) := by decide +kernel
theorem dX11_init_23 : decode cX11_init 23 = .ok (.sipush 300, 3) := by decide +kernel
theorem dX11_init_26 : decode cX11_init 26 = .ok (.newarray .int, 2) := by decide +kernel
theorem dX11_init_28 : decode cX11_init 28 = .ok (.putfield 16, 3) := by decide +kernel
theorem dX11_init_31 : decode cX11_init 31 = .ok (.aload_n 0, 1) := by decide +kernel
theorem dX11_init_32 : decode cX11_init 32 = .ok (.sipush 300, 3) := by decide +kernel
theorem dX11_init_35 : decode cX11_init 35 = .ok (.newarray .int, 2) := by decide +kernel
theorem dX11_init_37 : decode cX11_init 37 = .ok (.putfield 19, 3) := by decide +kernel
theorem dX11_init_40 : decode cX11_init 40 = .ok (.aload_n 0, 1) := by decide +kernel
theorem dX11_init_41 : decode cX11_init 41 = .ok (.sipush 300, 3) := by decide +kernel
theorem dX11_init_44 : decode cX11_init 44 = .ok (.newarray .int, 2) := by decide +kernel
theorem dX11_init_46 : decode cX11_init 46 = .ok (.putfield 22, 3) := by decide +kernel
theorem dX11_init_49 : decode cX11_init 49 = .ok (.aload_n 0, 1) := by decide +kernel
theorem dX11_init_50 : decode cX11_init 50 = .ok (.sipush 300, 3) := by decide +kernel
theorem dX11_init_53 : decode cX11_init 53 = .ok (.newarray .int, 2) := by decide +kernel
theorem dX11_init_55 : decode cX11_init 55 = .ok (.putfield 25, 3) := by decide +kernel
theorem dX11_init_58 : decode cX11_init 58 = .ok (.aload_n 0, 1) := by decide +kernel
theorem dX11_init_59 : decode cX11_init 59 = .ok (.sipush 300, 3) := by decide +kernel
theorem dX11_init_62 : decode cX11_init 62 = .ok (.newarray .int, 2) := by decide +kernel
theorem dX11_init_64 : decode cX11_init 64 = .ok (.putfield 28, 3) := by decide +kernel
theorem dX11_init_67 : decode cX11_init 67 = .ok (.aload_n 0, 1) := by decide +kernel
theorem dX11_init_68 : decode cX11_init 68 = .ok (.sipush 300, 3) := by decide +kernel
theorem dX11_init_71 : decode cX11_init 71 = .ok (.newarray .boolean, 2) := by decide +kernel
theorem dX11_init_73 : decode cX11_init 73 = .ok (.putfield 31, 3) := by decide +kernel
theorem dX11_init_76 : decode cX11_init 76 = .ok (.aload_n 0, 1) := by decide +kernel
theorem dX11_init_77 : decode cX11_init 77 = .ok (.sipush 300, 3) := by decide +kernel
theorem dX11_init_80 : decode cX11_init 80 = .ok (.newarray .boolean, 2) := by decide +kernel
theorem dX11_init_82 : decode cX11_init 82 = .ok (.putfield 35, 3) := by decide +kernel
theorem dX11_init_85 : decode cX11_init 85 = .ok (.aload_n 0, 1) := by decide +kernel
theorem dX11_init_86 : decode cX11_init 86 = .ok (.sipush 2400, 3) := by decide +kernel
theorem dX11_init_89 : decode cX11_init 89 = .ok (.newarray .int, 2) := by decide +kernel
theorem dX11_init_91 : decode cX11_init 91 = .ok (.putfield 38, 3) := by decide +kernel
theorem dX11_init_94 : decode cX11_init 94 = .ok (.aload_n 0, 1) := by decide +kernel
theorem dX11_init_95 : decode cX11_init 95 = .ok (.sipush 2400, 3) := by decide +kernel
theorem dX11_init_98 : decode cX11_init 98 = .ok (.newarray .int, 2) := by decide +kernel
theorem dX11_init_100 : decode cX11_init 100 = .ok (.putfield 41, 3) := by decide +kernel
theorem dX11_init_103 : decode cX11_init 103 = .ok (.aload_n 0, 1) := by decide +kernel
theorem dX11_init_104 : decode cX11_init 104 = .ok (.sipush 2400, 3) := by decide +kernel
theorem dX11_init_107 : decode cX11_init 107 = .ok (.newarray .int, 2) := by decide +kernel
theorem dX11_init_109 : decode cX11_init 109 = .ok (.putfield 44, 3) := by decide +kernel
theorem dX11_init_112 : decode cX11_init 112 = .ok (.aload_n 0, 1) := by decide +kernel
theorem dX11_init_113 : decode cX11_init 113 = .ok (.ldc 47, 2) := by decide +kernel
theorem dX11_init_115 : decode cX11_init 115 = .ok (.newarray .long, 2) := by decide +kernel
theorem dX11_init_117 : decode cX11_init 117 = .ok (.putfield 48, 3) := by decide +kernel
theorem dX11_init_120 : decode cX11_init 120 = .ok (.aload_n 0, 1) := by decide +kernel
theorem dX11_init_121 : decode cX11_init 121 = .ok (.sipush 600, 3) := by decide +kernel
theorem dX11_init_124 : decode cX11_init 124 = .ok (.newarray .int, 2) := by decide +kernel
theorem dX11_init_126 : decode cX11_init 126 = .ok (.putfield 52, 3) := by decide +kernel
theorem dX11_init_129 : decode cX11_init 129 = .ok (.aload_n 0, 1) := by decide +kernel
theorem dX11_init_130 : decode cX11_init 130 = .ok (.sipush 600, 3) := by decide +kernel
theorem dX11_init_133 : decode cX11_init 133 = .ok (.newarray .int, 2) := by decide +kernel
theorem dX11_init_135 : decode cX11_init 135 = .ok (.putfield 55, 3) := by decide +kernel
theorem dX11_init_138 : decode cX11_init 138 = .ok (.aload_n 0, 1) := by decide +kernel
theorem dX11_init_139 : decode cX11_init 139 = .ok (.sipush 600, 3) := by decide +kernel
theorem dX11_init_142 : decode cX11_init 142 = .ok (.newarray .int, 2) := by decide +kernel
theorem dX11_init_144 : decode cX11_init 144 = .ok (.putfield 58, 3) := by decide +kernel
theorem dX11_init_147 : decode cX11_init 147 = .ok (.aload_n 0, 1) := by decide +kernel
theorem dX11_init_148 : decode cX11_init 148 = .ok (.sipush 600, 3) := by decide +kernel
theorem dX11_init_151 : decode cX11_init 151 = .ok (.newarray .int, 2) := by decide +kernel
theorem dX11_init_153 : decode cX11_init 153 = .ok (.putfield 61, 3) := by decide +kernel
theorem dX11_init_156 : decode cX11_init 156 = .ok (.aload_n 0, 1) := by decide +kernel
theorem dX11_init_157 : decode cX11_init 157 = .ok (.sipush 600, 3) := by decide +kernel
theorem dX11_init_160 : decode cX11_init 160 = .ok (.newarray .int, 2) := by decide +kernel
theorem dX11_init_162 : decode cX11_init 162 = .ok (.putfield 64, 3) := by decide +kernel
theorem dX11_init_165 : decode cX11_init 165 = .ok (.aload_n 0, 1) := by decide +kernel
theorem dX11_init_166 : decode cX11_init 166 = .ok (.sipush 600, 3) := by decide +kernel
theorem dX11_init_169 : decode cX11_init 169 = .ok (.newarray .int, 2) := by decide +kernel
theorem dX11_init_171 : decode cX11_init 171 = .ok (.putfield 67, 3) := by decide +kernel
theorem dX11_init_174 : decode cX11_init 174 = .ok (.aload_n 0, 1) := by decide +kernel
theorem dX11_init_175 : decode cX11_init 175 = .ok (.sipush 600, 3) := by decide +kernel
theorem dX11_init_178 : decode cX11_init 178 = .ok (.newarray .int, 2) := by decide +kernel
theorem dX11_init_180 : decode cX11_init 180 = .ok (.putfield 70, 3) := by decide +kernel
theorem dX11_init_183 : decode cX11_init 183 = .ok (.aload_n 0, 1) := by decide +kernel
theorem dX11_init_184 : decode cX11_init 184 = .ok (.sipush 600, 3) := by decide +kernel
theorem dX11_init_187 : decode cX11_init 187 = .ok (.newarray .int, 2) := by decide +kernel
theorem dX11_init_189 : decode cX11_init 189 = .ok (.putfield 73, 3) := by decide +kernel
theorem dX11_init_192 : decode cX11_init 192 = .ok (.aload_n 0, 1) := by decide +kernel
theorem dX11_init_193 : decode cX11_init 193 = .ok (.sipush 600, 3) := by decide +kernel
theorem dX11_init_196 : decode cX11_init 196 = .ok (.newarray .int, 2) := by decide +kernel
theorem dX11_init_198 : decode cX11_init 198 = .ok (.putfield 76, 3) := by decide +kernel
theorem dX11_init_201 : decode cX11_init 201 = .ok (.aload_n 0, 1) := by decide +kernel
theorem dX11_init_202 : decode cX11_init 202 = .ok (.sipush 600, 3) := by decide +kernel
theorem dX11_init_205 : decode cX11_init 205 = .ok (.newarray .boolean, 2) := by decide +kernel
theorem dX11_init_207 : decode cX11_init 207 = .ok (.putfield 79, 3) := by decide +kernel
theorem dX11_init_210 : decode cX11_init 210 = .ok (.aload_n 0, 1) := by decide +kernel
theorem dX11_init_211 : decode cX11_init 211 = .ok (.bipush 16, 2) := by decide +kernel
theorem dX11_init_213 : decode cX11_init 213 = .ok (.newarray .int, 2) := by decide +kernel
theorem dX11_init_215 : decode cX11_init 215 = .ok (.putfield 82, 3) := by decide +kernel
theorem dX11_init_218 : decode cX11_init 218 = .ok (.aload_n 0, 1) := by decide +kernel
theorem dX11_init_219 : decode cX11_init 219 = .ok (.bipush 16, 2) := by decide +kernel
theorem dX11_init_221 : decode cX11_init 221 = .ok (.newarray .int, 2) := by decide +kernel
theorem dX11_init_223 : decode cX11_init 223 = .ok (.putfield 85, 3) := by decide +kernel
theorem dX11_init_226 : decode cX11_init 226 = .ok (.aload_n 0, 1) := by decide +kernel
theorem dX11_init_227 : decode cX11_init 227 = .ok (.bipush 16, 2) := by decide +kernel
theorem dX11_init_229 : decode cX11_init 229 = .ok (.newarray .int, 2) := by decide +kernel
theorem dX11_init_231 : decode cX11_init 231 = .ok (.putfield 88, 3) := by decide +kernel
theorem dX11_init_234 : decode cX11_init 234 = .ok (.aload_n 0, 1) := by decide +kernel
theorem dX11_init_235 : decode cX11_init 235 = .ok (.bipush 8, 2) := by decide +kernel
theorem dX11_init_237 : decode cX11_init 237 = .ok (.newarray .int, 2) := by decide +kernel
theorem dX11_init_239 : decode cX11_init 239 = .ok (.putfield 91, 3) := by decide +kernel
theorem dX11_init_242 : decode cX11_init 242 = .ok (.aload_n 0, 1) := by decide +kernel
theorem dX11_init_243 : decode cX11_init 243 = .ok (.bipush 8, 2) := by decide +kernel
theorem dX11_init_245 : decode cX11_init 245 = .ok (.newarray .int, 2) := by decide +kernel
theorem dX11_init_247 : decode cX11_init 247 = .ok (.putfield 94, 3) := by decide +kernel
theorem dX11_init_250 : decode cX11_init 250 = .ok (.aload_n 0, 1) := by decide +kernel
theorem dX11_init_251 : decode cX11_init 251 = .ok (.sipush 300, 3) := by decide +kernel
theorem dX11_init_254 : decode cX11_init 254 = .ok (.newarray .int, 2) := by decide +kernel
theorem dX11_init_256 : decode cX11_init 256 = .ok (.putfield 97, 3) := by decide +kernel
theorem dX11_init_259 : decode cX11_init 259 = .ok (.aload_n 0, 1) := by decide +kernel
theorem dX11_init_260 : decode cX11_init 260 = .ok (.sipush 300, 3) := by decide +kernel
theorem dX11_init_263 : decode cX11_init 263 = .ok (.newarray .boolean, 2) := by decide +kernel
theorem dX11_init_265 : decode cX11_init 265 = .ok (.putfield 100, 3) := by decide +kernel
theorem dX11_init_268 : decode cX11_init 268 = .ok (.aload_n 0, 1) := by decide +kernel
theorem dX11_init_269 : decode cX11_init 269 = .ok (.sipush 300, 3) := by decide +kernel
theorem dX11_init_272 : decode cX11_init 272 = .ok (.newarray .boolean, 2) := by decide +kernel
theorem dX11_init_274 : decode cX11_init 274 = .ok (.putfield 103, 3) := by decide +kernel
theorem dX11_init_277 : decode cX11_init 277 = .ok (.aload_n 0, 1) := by decide +kernel
theorem dX11_init_278 : decode cX11_init 278 = .ok (.sipush 300, 3) := by decide +kernel
theorem dX11_init_281 : decode cX11_init 281 = .ok (.newarray .int, 2) := by decide +kernel
theorem dX11_init_283 : decode cX11_init 283 = .ok (.putfield 106, 3) := by decide +kernel
theorem dX11_init_286 : decode cX11_init 286 = .ok (.aload_n 0, 1) := by decide +kernel
theorem dX11_init_287 : decode cX11_init 287 = .ok (.bipush 20, 2) := by decide +kernel
theorem dX11_init_289 : decode cX11_init 289 = .ok (.newarray .int, 2) := by decide +kernel
theorem dX11_init_291 : decode cX11_init 291 = .ok (.putfield 109, 3) := by decide +kernel
theorem dX11_init_294 : decode cX11_init 294 = .ok (.aload_n 0, 1) := by decide +kernel
theorem dX11_init_295 : decode cX11_init 295 = .ok (.bipush 20, 2) := by decide +kernel
theorem dX11_init_297 : decode cX11_init 297 = .ok (.newarray .int, 2) := by decide +kernel
theorem dX11_init_299 : decode cX11_init 299 = .ok (.putfield 112, 3) := by decide +kernel
theorem dX11_init_302 : decode cX11_init 302 = .ok (.aload_n 0, 1) := by decide +kernel
theorem dX11_init_303 : decode cX11_init 303 = .ok (.bipush 20, 2) := by decide +kernel
theorem dX11_init_305 : decode cX11_init 305 = .ok (.newarray .int, 2) := by decide +kernel
theorem dX11_init_307 : decode cX11_init 307 = .ok (.putfield 115, 3) := by decide +kernel
theorem dX11_init_310 : decode cX11_init 310 = .ok (.aload_n 0, 1) := by decide +kernel
theorem dX11_init_311 : decode cX11_init 311 = .ok (.bipush 20, 2) := by decide +kernel
theorem dX11_init_313 : decode cX11_init 313 = .ok (.newarray .int, 2) := by decide +kernel
theorem dX11_init_315 : decode cX11_init 315 = .ok (.putfield 118, 3) := by decide +kernel
theorem dX11_init_318 : decode cX11_init 318 = .ok (.aload_n 0, 1) := by decide +kernel
theorem dX11_init_319 : decode cX11_init 319 = .ok (.sipush 160, 3) := by decide +kernel
theorem dX11_init_322 : decode cX11_init 322 = .ok (.newarray .int, 2) := by decide +kernel
theorem dX11_init_324 : decode cX11_init 324 = .ok (.putfield 121, 3) := by decide +kernel
theorem dX11_init_327 : decode cX11_init 327 = .ok (.aload_n 0, 1) := by decide +kernel
theorem dX11_init_328 : decode cX11_init 328 = .ok (.sipush 6000, 3) := by decide +kernel
theorem dX11_init_331 : decode cX11_init 331 = .ok (.newarray .boolean, 2) := by decide +kernel
theorem dX11_init_333 : decode cX11_init 333 = .ok (.putfield 124, 3) := by decide +kernel
theorem dX11_init_336 : decode cX11_init 336 = .ok (.aload_n 0, 1) := by decide +kernel
theorem dX11_init_337 : decode cX11_init 337 = .ok (.sipush 6000, 3) := by decide +kernel
theorem dX11_init_340 : decode cX11_init 340 = .ok (.newarray .boolean, 2) := by decide +kernel
theorem dX11_init_342 : decode cX11_init 342 = .ok (.putfield 127, 3) := by decide +kernel
theorem dX11_init_345 : decode cX11_init 345 = .ok (.aload_n 0, 1) := by decide +kernel
theorem dX11_init_346 : decode cX11_init 346 = .ok (.sipush 6000, 3) := by decide +kernel
theorem dX11_init_349 : decode cX11_init 349 = .ok (.newarray .int, 2) := by decide +kernel
theorem dX11_init_351 : decode cX11_init 351 = .ok (.putfield 130, 3) := by decide +kernel
theorem dX11_init_354 : decode cX11_init 354 = .ok (.aload_n 0, 1) := by decide +kernel
theorem dX11_init_355 : decode cX11_init 355 = .ok (.sipush 30000, 3) := by decide +kernel
theorem dX11_init_358 : decode cX11_init 358 = .ok (.newarray .long, 2) := by decide +kernel
theorem dX11_init_360 : decode cX11_init 360 = .ok (.putfield 133, 3) := by decide +kernel
theorem dX11_init_363 : decode cX11_init 363 = .ok (.aload_n 0, 1) := by decide +kernel
theorem dX11_init_364 : decode cX11_init 364 = .ok (.sipush 300, 3) := by decide +kernel
theorem dX11_init_367 : decode cX11_init 367 = .ok (.newarray .boolean, 2) := by decide +kernel
theorem dX11_init_369 : decode cX11_init 369 = .ok (.putfield 136, 3) := by decide +kernel
theorem dX11_init_372 : decode cX11_init 372 = .ok (.aload_n 0, 1) := by decide +kernel
theorem dX11_init_373 : decode cX11_init 373 = .ok (.sipush 300, 3) := by decide +kernel
theorem dX11_init_376 : decode cX11_init 376 = .ok (.newarray .boolean, 2) := by decide +kernel
theorem dX11_init_378 : decode cX11_init 378 = .ok (.putfield 139, 3) := by decide +kernel
theorem dX11_init_381 : decode cX11_init 381 = .ok (.aload_n 0, 1) := by decide +kernel
theorem dX11_init_382 : decode cX11_init 382 = .ok (.sipush 300, 3) := by decide +kernel
theorem dX11_init_385 : decode cX11_init 385 = .ok (.newarray .int, 2) := by decide +kernel
theorem dX11_init_387 : decode cX11_init 387 = .ok (.putfield 142, 3) := by decide +kernel
theorem dX11_init_390 : decode cX11_init 390 = .ok (.return_, 1) := by decide +kernel
def fX11_init (o : Nat) (h : Hz) : Option (Unit × Hz) := (b2 (nA 12 300 300 h) fun a1 s2 => (b1 (pP 11 0 o (some a1) s2) fun s3 => (b2 (nA 12 300 300 s3) fun a4 s5 => (b1 (pP 11 1 o (some a4) s5) fun s6 => (b2 (nA 12 300 300 s6) fun a7 s8 => (b1 (pP 11 2 o (some a7) s8) fun s9 => (b2 (nA 12 300 300 s9) fun a10 s11 => (b1 (pP 11 3 o (some a10) s11) fun s12 => (b2 (nA 12 300 300 s12) fun a13 s14 => (b1 (pP 11 4 o (some a13) s14) fun s15 => (b2 (nA 12 300 300 s15) fun a16 s17 => (b1 (pP 11 5 o (some a16) s17) fun s18 => (b2 (nA 12 300 300 s18) fun a19 s20 => (b1 (pP 11 6 o (some a19) s20) fun s21 => (b2 (nA 14 300 300 s21) fun a22 s23 => (b1 (pP 11 7 o (some a22) s23) fun s24 => (b2 (nA 14 300 300 s24) fun a25 s26 => (b1 (pP 11 8 o (some a25) s26) fun s27 => (b2 (nA 12 2400 2400 s27) fun a28 s29 => (b1 (pP 11 10 o (some a28) s29) fun s30 => (b2 (nA 12 2400 2400 s30) fun a31 s32 => (b1 (pP 11 11 o (some a31) s32) fun s33 => (b2 (nA 12 2400 2400 s33) fun a34 s35 => (b1 (pP 11 12 o (some a34) s35) fun s36 => (b2 (nA 13 76800 76800 s36) fun a37 s38 => (b1 (pP 11 13 o (some a37) s38) fun s39 => (b2 (nA 12 600 600 s39) fun a40 s41 => (b1 (pP 11 14 o (some a40) s41) fun s42 => (b2 (nA 12 600 600 s42) fun a43 s44 => (b1 (pP 11 15 o (some a43) s44) fun s45 => (b2 (nA 12 600 600 s45) fun a46 s47 => (b1 (pP 11 16 o (some a46) s47) fun s48 => (b2 (nA 12 600 600 s48) fun a49 s50 => (b1 (pP 11 17 o (some a49) s50) fun s51 => (b2 (nA 12 600 600 s51) fun a52 s53 => (b1 (pP 11 18 o (some a52) s53) fun s54 => (b2 (nA 12 600 600 s54) fun a55 s56 => (b1 (pP 11 19 o (some a55) s56) fun s57 => (b2 (nA 12 600 600 s57) fun a58 s59 => (b1 (pP 11 20 o (some a58) s59) fun s60 => (b2 (nA 12 600 600 s60) fun a61 s62 => (b1 (pP 11 21 o (some a61) s62) fun s63 => (b2 (nA 12 600 600 s63) fun a64 s65 => (b1 (pP 11 22 o (some a64) s65) fun s66 => (b2 (nA 14 600 600 s66) fun a67 s68 => (b1 (pP 11 23 o (some a67) s68) fun s69 => (b2 (nA 12 16 16 s69) fun a70 s71 => (b1 (pP 11 26 o (some a70) s71) fun s72 => (b2 (nA 12 16 16 s72) fun a73 s74 => (b1 (pP 11 27 o (some a73) s74) fun s75 => (b2 (nA 12 16 16 s75) fun a76 s77 => (b1 (pP 11 28 o (some a76) s77) fun s78 => (b2 (nA 12 8 8 s78) fun a79 s80 => (b1 (pP 11 30 o (some a79) s80) fun s81 => (b2 (nA 12 8 8 s81) fun a82 s83 => (b1 (pP 11 31 o (some a82) s83) fun s84 => (b2 (nA 12 300 300 s84) fun a85 s86 => (b1 (pP 11 32 o (some a85) s86) fun s87 => (b2 (nA 14 300 300 s87) fun a88 s89 => (b1 (pP 11 34 o (some a88) s89) fun s90 => (b2 (nA 14 300 300 s90) fun a91 s92 => (b1 (pP 11 35 o (some a91) s92) fun s93 => (b2 (nA 12 300 300 s93) fun a94 s95 => (b1 (pP 11 36 o (some a94) s95) fun s96 => (b2 (nA 12 20 20 s96) fun a97 s98 => (b1 (pP 11 37 o (some a97) s98) fun s99 => (b2 (nA 12 20 20 s99) fun a100 s101 => (b1 (pP 11 38 o (some a100) s101) fun s102 => (b2 (nA 12 20 20 s102) fun a103 s104 => (b1 (pP 11 39 o (some a103) s104) fun s105 => (b2 (nA 12 20 20 s105) fun a106 s107 => (b1 (pP 11 40 o (some a106) s107) fun s108 => (b2 (nA 12 160 160 s108) fun a109 s110 => (b1 (pP 11 41 o (some a109) s110) fun s111 => (b2 (nA 14 6000 6000 s111) fun a112 s113 => (b1 (pP 11 42 o (some a112) s113) fun s114 => (b2 (nA 14 6000 6000 s114) fun a115 s116 => (b1 (pP 11 43 o (some a115) s116) fun s117 => (b2 (nA 12 6000 6000 s117) fun a118 s119 => (b1 (pP 11 44 o (some a118) s119) fun s120 => (b2 (nA 13 30000 30000 s120) fun a121 s122 => (b1 (pP 11 45 o (some a121) s122) fun s123 => (b2 (nA 14 300 300 s123) fun a124 s125 => (b1 (pP 11 47 o (some a124) s125) fun s126 => (b2 (nA 14 300 300 s126) fun a127 s128 => (b1 (pP 11 48 o (some a127) s128) fun s129 => (b2 (nA 12 300 300 s129) fun a130 s131 => (b1 (pP 11 49 o (some a130) s131) fun s132 => some ((), s132)))))))))))))))))))))))))))))))))))))))))))))))))))))))))))))))))))))))))))))))))))))))))
set_option maxHeartbeats 4000000 in
set_option maxRecDepth 100000 in
theorem wX11_init_0 {r0 : Unit} {h0 : Hz} (X : zX A D cy p s m args c cX11_init RX11 1) (hlk : meth.locks = false) (hr : meth.sig.returnType = none) (hin : meth.name = "<init>") (o : Nat) (h : Hz) (H : Heap) (locs : List Loc) (ls : Array Slot) (hl : lv_has ls 1 [(0, .ref o)]) (hW : zW A cy D h H) (hS : va_S A s.heap H locs) (h : fX11_init o h = some (r0, h0)) : W p l e ({ frames := 1, cells := 44, slots := 143104, locals := 12 } : Room) s m args below meth c H locs 0 0 (MQ below (va_Qv (fun u => u = h0) (zB A D cy) A) args s 44 143104 A) (F0 m 0 ls []) := by
  obtain ⟨hx, hb, hts, hown, hK9, hml, hN9, hA9⟩ := id X
  unfold fX11_init at h
  refine lv_aload_n hx hb dX11_init_0 rfl (lv_at hl 0 rfl) ?_
  refine W.objInit hx hb hown (hts _ kl_X11_1) (hts _ km_objectInit) (hts _ kco) rfl (by rw [hml]; exact hl.1) rfl dX11_init_1 (Nat.le_of_ble_eq_true rfl) (Nat.le_of_ble_eq_true rfl) ?_
  refine W.eq (g2 := F0 m 4 ls []) rfl ?_
  refine lv_aload_n hx hb dX11_init_4 rfl (lv_at hl 0 rfl) ?_
  refine lv_sipush (v := 300) hx hb dX11_init_5 (by decide) ?_
  replace h := b2_some h
  obtain ⟨a1, s2, ga1, h⟩ := h
  refine z_newN (ty := .int) X hW hS ga1 (Or.inl ⟨rfl, rfl⟩) kp_int (by decide) dX11_init_8 (by decide) (by decide) (fun H hW hS => ?_)
  replace h := b1_some h
  obtain ⟨s3, gs3, h⟩ := h
  refine z_putP X hW hS gs3 kX11 (by decide) (by decide) (Or.inr ⟨_, rfl⟩) (Or.inr ⟨rfl, hin, rfl⟩) kf_X11_9 dX11_init_10 (fun H locs hW hS => ?_)
  refine lv_aload_n hx hb dX11_init_13 rfl (lv_at hl 0 rfl) ?_
  refine lv_sipush (v := 300) hx hb dX11_init_14 (by decide) ?_
  replace h := b2_some h
  obtain ⟨a4, s5, ga4, h⟩ := h
  refine z_newN (ty := .int) X hW hS ga4 (Or.inl ⟨rfl, rfl⟩) kp_int (by decide) dX11_init_17 (by decide) (by decide) (fun H hW hS => ?_)
  replace h := b1_some h
  obtain ⟨s6, gs6, h⟩ := h
  refine z_putP X hW hS gs6 kX11 (by decide) (by decide) (Or.inr ⟨_, rfl⟩) (Or.inr ⟨rfl, hin, rfl⟩) kf_X11_13 dX11_init_19 (fun H locs hW hS => ?_)
  refine lv_aload_n hx hb dX11_init_22 rfl (lv_at hl 0 rfl) ?_
  refine lv_sipush (v := 300) hx hb dX11_init_23 (by decide) ?_
  replace h := b2_some h
  obtain ⟨a7, s8, ga7, h⟩ := h
  refine z_newN (ty := .int) X hW hS ga7 (Or.inl ⟨rfl, rfl⟩) kp_int (by decide) dX11_init_26 (by decide) (by decide) (fun H hW hS => ?_)
  replace h := b1_some h
  obtain ⟨s9, gs9, h⟩ := h
  refine z_putP X hW hS gs9 kX11 (by decide) (by decide) (Or.inr ⟨_, rfl⟩) (Or.inr ⟨rfl, hin, rfl⟩) kf_X11_16 dX11_init_28 (fun H locs hW hS => ?_)
  refine lv_aload_n hx hb dX11_init_31 rfl (lv_at hl 0 rfl) ?_
  refine lv_sipush (v := 300) hx hb dX11_init_32 (by decide) ?_
  replace h := b2_some h
  obtain ⟨a10, s11, ga10, h⟩ := h
  refine z_newN (ty := .int) X hW hS ga10 (Or.inl ⟨rfl, rfl⟩) kp_int (by decide) dX11_init_35 (by decide) (by decide) (fun H hW hS => ?_)
  replace h := b1_some h
  obtain ⟨s12, gs12, h⟩ := h
  refine z_putP X hW hS gs12 kX11 (by decide) (by decide) (Or.inr ⟨_, rfl⟩) (Or.inr ⟨rfl, hin, rfl⟩) kf_X11_19 dX11_init_37 (fun H locs hW hS => ?_)
  refine lv_aload_n hx hb dX11_init_40 rfl (lv_at hl 0 rfl) ?_
  refine lv_sipush (v := 300) hx hb dX11_init_41 (by decide) ?_
  replace h := b2_some h
  obtain ⟨a13, s14, ga13, h⟩ := h
  refine z_newN (ty := .int) X hW hS ga13 (Or.inl ⟨rfl, rfl⟩) kp_int (by decide) dX11_init_44 (by decide) (by decide) (fun H hW hS => ?_)
  replace h := b1_some h
  obtain ⟨s15, gs15, h⟩ := h
  refine z_putP X hW hS gs15 kX11 (by decide) (by decide) (Or.inr ⟨_, rfl⟩) (Or.inr ⟨rfl, hin, rfl⟩) kf_X11_22 dX11_init_46 (fun H locs hW hS => ?_)
  refine lv_aload_n hx hb dX11_init_49 rfl (lv_at hl 0 rfl) ?_
  refine lv_sipush (v := 300) hx hb dX11_init_50 (by decide) ?_
  replace h := b2_some h
  obtain ⟨a16, s17, ga16, h⟩ := h
  refine z_newN (ty := .int) X hW hS ga16 (Or.inl ⟨rfl, rfl⟩) kp_int (by decide) dX11_init_53 (by decide) (by decide) (fun H hW hS => ?_)
  replace h := b1_some h
  obtain ⟨s18, gs18, h⟩ := h
  refine z_putP X hW hS gs18 kX11 (by decide) (by decide) (Or.inr ⟨_, rfl⟩) (Or.inr ⟨rfl, hin, rfl⟩) kf_X11_25 dX11_init_55 (fun H locs hW hS => ?_)
  refine lv_aload_n hx hb dX11_init_58 rfl (lv_at hl 0 rfl) ?_
  refine lv_sipush (v := 300) hx hb dX11_init_59 (by decide) ?_
  replace h := b2_some h
  obtain ⟨a19, s20, ga19, h⟩ := h
  refine z_newN (ty := .int) X hW hS ga19 (Or.inl ⟨rfl, rfl⟩) kp_int (by decide) dX11_init_62 (by decide) (by decide) (fun H hW hS => ?_)
  replace h := b1_some h
  obtain ⟨s21, gs21, h⟩ := h
  refine z_putP X hW hS gs21 kX11 (by decide) (by decide) (Or.inr ⟨_, rfl⟩) (Or.inr ⟨rfl, hin, rfl⟩) kf_X11_28 dX11_init_64 (fun H locs hW hS => ?_)
  refine lv_aload_n hx hb dX11_init_67 rfl (lv_at hl 0 rfl) ?_
  refine lv_sipush (v := 300) hx hb dX11_init_68 (by decide) ?_
  replace h := b2_some h
  obtain ⟨a22, s23, ga22, h⟩ := h
  refine z_newN (ty := .int) X hW hS ga22 (Or.inr (Or.inr ⟨rfl, rfl⟩)) kp_boolean (by decide) dX11_init_71 (by decide) (by decide) (fun H hW hS => ?_)
  replace h := b1_some h
  obtain ⟨s24, gs24, h⟩ := h
  refine z_putP X hW hS gs24 kX11 (by decide) (by decide) (Or.inr ⟨_, rfl⟩) (Or.inr ⟨rfl, hin, rfl⟩) kf_X11_31 dX11_init_73 (fun H locs hW hS => ?_)
  refine lv_aload_n hx hb dX11_init_76 rfl (lv_at hl 0 rfl) ?_
  refine lv_sipush (v := 300) hx hb dX11_init_77 (by decide) ?_
  replace h := b2_some h
  obtain ⟨a25, s26, ga25, h⟩ := h
  refine z_newN (ty := .int) X hW hS ga25 (Or.inr (Or.inr ⟨rfl, rfl⟩)) kp_boolean (by decide) dX11_init_80 (by decide) (by decide) (fun H hW hS => ?_)
  replace h := b1_some h
  obtain ⟨s27, gs27, h⟩ := h
  refine z_putP X hW hS gs27 kX11 (by decide) (by decide) (Or.inr ⟨_, rfl⟩) (Or.inr ⟨rfl, hin, rfl⟩) kf_X11_35 dX11_init_82 (fun H locs hW hS => ?_)
  refine lv_aload_n hx hb dX11_init_85 rfl (lv_at hl 0 rfl) ?_
  refine lv_sipush (v := 2400) hx hb dX11_init_86 (by decide) ?_
  replace h := b2_some h
  obtain ⟨a28, s29, ga28, h⟩ := h
  refine z_newN (ty := .int) X hW hS ga28 (Or.inl ⟨rfl, rfl⟩) kp_int (by decide) dX11_init_89 (by decide) (by decide) (fun H hW hS => ?_)
  replace h := b1_some h
  obtain ⟨s30, gs30, h⟩ := h
  refine z_putP X hW hS gs30 kX11 (by decide) (by decide) (Or.inr ⟨_, rfl⟩) (Or.inr ⟨rfl, hin, rfl⟩) kf_X11_38 dX11_init_91 (fun H locs hW hS => ?_)
  refine lv_aload_n hx hb dX11_init_94 rfl (lv_at hl 0 rfl) ?_
  refine lv_sipush (v := 2400) hx hb dX11_init_95 (by decide) ?_
  replace h := b2_some h
  obtain ⟨a31, s32, ga31, h⟩ := h
  refine z_newN (ty := .int) X hW hS ga31 (Or.inl ⟨rfl, rfl⟩) kp_int (by decide) dX11_init_98 (by decide) (by decide) (fun H hW hS => ?_)
  replace h := b1_some h
  obtain ⟨s33, gs33, h⟩ := h
  refine z_putP X hW hS gs33 kX11 (by decide) (by decide) (Or.inr ⟨_, rfl⟩) (Or.inr ⟨rfl, hin, rfl⟩) kf_X11_41 dX11_init_100 (fun H locs hW hS => ?_)
  refine lv_aload_n hx hb dX11_init_103 rfl (lv_at hl 0 rfl) ?_
  refine lv_sipush (v := 2400) hx hb dX11_init_104 (by decide) ?_
  replace h := b2_some h
  obtain ⟨a34, s35, ga34, h⟩ := h
  refine z_newN (ty := .int) X hW hS ga34 (Or.inl ⟨rfl, rfl⟩) kp_int (by decide) dX11_init_107 (by decide) (by decide) (fun H hW hS => ?_)
  replace h := b1_some h
  obtain ⟨s36, gs36, h⟩ := h
  refine z_putP X hW hS gs36 kX11 (by decide) (by decide) (Or.inr ⟨_, rfl⟩) (Or.inr ⟨rfl, hin, rfl⟩) kf_X11_44 dX11_init_109 (fun H locs hW hS => ?_)
  refine lv_aload_n hx hb dX11_init_112 rfl (lv_at hl 0 rfl) ?_
  refine lv_ldc (v := 76800) hx hb hown (hts _ kk_X11_47) dX11_init_113 ?_
  replace h := b2_some h
  obtain ⟨a37, s38, ga37, h⟩ := h
  refine z_newN (ty := .int) X hW hS ga37 (Or.inr (Or.inl ⟨rfl, rfl⟩)) kp_long (by decide) dX11_init_115 (by decide) (by decide) (fun H hW hS => ?_)
  replace h := b1_some h
  obtain ⟨s39, gs39, h⟩ := h
  refine z_putP X hW hS gs39 kX11 (by decide) (by decide) (Or.inr ⟨_, rfl⟩) (Or.inr ⟨rfl, hin, rfl⟩) kf_X11_48 dX11_init_117 (fun H locs hW hS => ?_)
  refine lv_aload_n hx hb dX11_init_120 rfl (lv_at hl 0 rfl) ?_
  refine lv_sipush (v := 600) hx hb dX11_init_121 (by decide) ?_
  replace h := b2_some h
  obtain ⟨a40, s41, ga40, h⟩ := h
  refine z_newN (ty := .int) X hW hS ga40 (Or.inl ⟨rfl, rfl⟩) kp_int (by decide) dX11_init_124 (by decide) (by decide) (fun H hW hS => ?_)
  replace h := b1_some h
  obtain ⟨s42, gs42, h⟩ := h
  refine z_putP X hW hS gs42 kX11 (by decide) (by decide) (Or.inr ⟨_, rfl⟩) (Or.inr ⟨rfl, hin, rfl⟩) kf_X11_52 dX11_init_126 (fun H locs hW hS => ?_)
  refine lv_aload_n hx hb dX11_init_129 rfl (lv_at hl 0 rfl) ?_
  refine lv_sipush (v := 600) hx hb dX11_init_130 (by decide) ?_
  replace h := b2_some h
  obtain ⟨a43, s44, ga43, h⟩ := h
  refine z_newN (ty := .int) X hW hS ga43 (Or.inl ⟨rfl, rfl⟩) kp_int (by decide) dX11_init_133 (by decide) (by decide) (fun H hW hS => ?_)
  replace h := b1_some h
  obtain ⟨s45, gs45, h⟩ := h
  refine z_putP X hW hS gs45 kX11 (by decide) (by decide) (Or.inr ⟨_, rfl⟩) (Or.inr ⟨rfl, hin, rfl⟩) kf_X11_55 dX11_init_135 (fun H locs hW hS => ?_)
  refine lv_aload_n hx hb dX11_init_138 rfl (lv_at hl 0 rfl) ?_
  refine lv_sipush (v := 600) hx hb dX11_init_139 (by decide) ?_
  replace h := b2_some h
  obtain ⟨a46, s47, ga46, h⟩ := h
  refine z_newN (ty := .int) X hW hS ga46 (Or.inl ⟨rfl, rfl⟩) kp_int (by decide) dX11_init_142 (by decide) (by decide) (fun H hW hS => ?_)
  replace h := b1_some h
  obtain ⟨s48, gs48, h⟩ := h
  refine z_putP X hW hS gs48 kX11 (by decide) (by decide) (Or.inr ⟨_, rfl⟩) (Or.inr ⟨rfl, hin, rfl⟩) kf_X11_58 dX11_init_144 (fun H locs hW hS => ?_)
  refine lv_aload_n hx hb dX11_init_147 rfl (lv_at hl 0 rfl) ?_
  refine lv_sipush (v := 600) hx hb dX11_init_148 (by decide) ?_
  replace h := b2_some h
  obtain ⟨a49, s50, ga49, h⟩ := h
  refine z_newN (ty := .int) X hW hS ga49 (Or.inl ⟨rfl, rfl⟩) kp_int (by decide) dX11_init_151 (by decide) (by decide) (fun H hW hS => ?_)
  replace h := b1_some h
  obtain ⟨s51, gs51, h⟩ := h
  refine z_putP X hW hS gs51 kX11 (by decide) (by decide) (Or.inr ⟨_, rfl⟩) (Or.inr ⟨rfl, hin, rfl⟩) kf_X11_61 dX11_init_153 (fun H locs hW hS => ?_)
  refine lv_aload_n hx hb dX11_init_156 rfl (lv_at hl 0 rfl) ?_
  refine lv_sipush (v := 600) hx hb dX11_init_157 (by decide) ?_
  replace h := b2_some h
  obtain ⟨a52, s53, ga52, h⟩ := h
  refine z_newN (ty := .int) X hW hS ga52 (Or.inl ⟨rfl, rfl⟩) kp_int (by decide) dX11_init_160 (by decide) (by decide) (fun H hW hS => ?_)
  replace h := b1_some h
  obtain ⟨s54, gs54, h⟩ := h
  refine z_putP X hW hS gs54 kX11 (by decide) (by decide) (Or.inr ⟨_, rfl⟩) (Or.inr ⟨rfl, hin, rfl⟩) kf_X11_64 dX11_init_162 (fun H locs hW hS => ?_)
  refine lv_aload_n hx hb dX11_init_165 rfl (lv_at hl 0 rfl) ?_
  refine lv_sipush (v := 600) hx hb dX11_init_166 (by decide) ?_
  replace h := b2_some h
  obtain ⟨a55, s56, ga55, h⟩ := h
  refine z_newN (ty := .int) X hW hS ga55 (Or.inl ⟨rfl, rfl⟩) kp_int (by decide) dX11_init_169 (by decide) (by decide) (fun H hW hS => ?_)
  replace h := b1_some h
  obtain ⟨s57, gs57, h⟩ := h
  refine z_putP X hW hS gs57 kX11 (by decide) (by decide) (Or.inr ⟨_, rfl⟩) (Or.inr ⟨rfl, hin, rfl⟩) kf_X11_67 dX11_init_171 (fun H locs hW hS => ?_)
  refine lv_aload_n hx hb dX11_init_174 rfl (lv_at hl 0 rfl) ?_
  refine lv_sipush (v := 600) hx hb dX11_init_175 (by decide) ?_
  replace h := b2_some h
  obtain ⟨a58, s59, ga58, h⟩ := h
  refine z_newN (ty := .int) X hW hS ga58 (Or.inl ⟨rfl, rfl⟩) kp_int (by decide) dX11_init_178 (by decide) (by decide) (fun H hW hS => ?_)
  replace h := b1_some h
  obtain ⟨s60, gs60, h⟩ := h
  refine z_putP X hW hS gs60 kX11 (by decide) (by decide) (Or.inr ⟨_, rfl⟩) (Or.inr ⟨rfl, hin, rfl⟩) kf_X11_70 dX11_init_180 (fun H locs hW hS => ?_)
  refine lv_aload_n hx hb dX11_init_183 rfl (lv_at hl 0 rfl) ?_
  refine lv_sipush (v := 600) hx hb dX11_init_184 (by decide) ?_
  replace h := b2_some h
  obtain ⟨a61, s62, ga61, h⟩ := h
  refine z_newN (ty := .int) X hW hS ga61 (Or.inl ⟨rfl, rfl⟩) kp_int (by decide) dX11_init_187 (by decide) (by decide) (fun H hW hS => ?_)
  replace h := b1_some h
  obtain ⟨s63, gs63, h⟩ := h
  refine z_putP X hW hS gs63 kX11 (by decide) (by decide) (Or.inr ⟨_, rfl⟩) (Or.inr ⟨rfl, hin, rfl⟩) kf_X11_73 dX11_init_189 (fun H locs hW hS => ?_)
  refine lv_aload_n hx hb dX11_init_192 rfl (lv_at hl 0 rfl) ?_
  refine lv_sipush (v := 600) hx hb dX11_init_193 (by decide) ?_
  replace h := b2_some h
  obtain ⟨a64, s65, ga64, h⟩ := h
  refine z_newN (ty := .int) X hW hS ga64 (Or.inl ⟨rfl, rfl⟩) kp_int (by decide) dX11_init_196 (by decide) (by decide) (fun H hW hS => ?_)
  replace h := b1_some h
  obtain ⟨s66, gs66, h⟩ := h
  refine z_putP X hW hS gs66 kX11 (by decide) (by decide) (Or.inr ⟨_, rfl⟩) (Or.inr ⟨rfl, hin, rfl⟩) kf_X11_76 dX11_init_198 (fun H locs hW hS => ?_)
  refine lv_aload_n hx hb dX11_init_201 rfl (lv_at hl 0 rfl) ?_
  refine lv_sipush (v := 600) hx hb dX11_init_202 (by decide) ?_
  replace h := b2_some h
  obtain ⟨a67, s68, ga67, h⟩ := h
  refine z_newN (ty := .int) X hW hS ga67 (Or.inr (Or.inr ⟨rfl, rfl⟩)) kp_boolean (by decide) dX11_init_205 (by decide) (by decide) (fun H hW hS => ?_)
  replace h := b1_some h
  obtain ⟨s69, gs69, h⟩ := h
  refine z_putP X hW hS gs69 kX11 (by decide) (by decide) (Or.inr ⟨_, rfl⟩) (Or.inr ⟨rfl, hin, rfl⟩) kf_X11_79 dX11_init_207 (fun H locs hW hS => ?_)
  refine lv_aload_n hx hb dX11_init_210 rfl (lv_at hl 0 rfl) ?_
  refine lv_bipush (v := 16) hx hb dX11_init_211 (by decide) ?_
  replace h := b2_some h
  obtain ⟨a70, s71, ga70, h⟩ := h
  refine z_newN (ty := .int) X hW hS ga70 (Or.inl ⟨rfl, rfl⟩) kp_int (by decide) dX11_init_213 (by decide) (by decide) (fun H hW hS => ?_)
  replace h := b1_some h
  obtain ⟨s72, gs72, h⟩ := h
  refine z_putP X hW hS gs72 kX11 (by decide) (by decide) (Or.inr ⟨_, rfl⟩) (Or.inr ⟨rfl, hin, rfl⟩) kf_X11_82 dX11_init_215 (fun H locs hW hS => ?_)
  refine lv_aload_n hx hb dX11_init_218 rfl (lv_at hl 0 rfl) ?_
  refine lv_bipush (v := 16) hx hb dX11_init_219 (by decide) ?_
  replace h := b2_some h
  obtain ⟨a73, s74, ga73, h⟩ := h
  refine z_newN (ty := .int) X hW hS ga73 (Or.inl ⟨rfl, rfl⟩) kp_int (by decide) dX11_init_221 (by decide) (by decide) (fun H hW hS => ?_)
  replace h := b1_some h
  obtain ⟨s75, gs75, h⟩ := h
  refine z_putP X hW hS gs75 kX11 (by decide) (by decide) (Or.inr ⟨_, rfl⟩) (Or.inr ⟨rfl, hin, rfl⟩) kf_X11_85 dX11_init_223 (fun H locs hW hS => ?_)
  refine lv_aload_n hx hb dX11_init_226 rfl (lv_at hl 0 rfl) ?_
  refine lv_bipush (v := 16) hx hb dX11_init_227 (by decide) ?_
  replace h := b2_some h
  obtain ⟨a76, s77, ga76, h⟩ := h
  refine z_newN (ty := .int) X hW hS ga76 (Or.inl ⟨rfl, rfl⟩) kp_int (by decide) dX11_init_229 (by decide) (by decide) (fun H hW hS => ?_)
  replace h := b1_some h
  obtain ⟨s78, gs78, h⟩ := h
  refine z_putP X hW hS gs78 kX11 (by decide) (by decide) (Or.inr ⟨_, rfl⟩) (Or.inr ⟨rfl, hin, rfl⟩) kf_X11_88 dX11_init_231 (fun H locs hW hS => ?_)
  refine lv_aload_n hx hb dX11_init_234 rfl (lv_at hl 0 rfl) ?_
  refine lv_bipush (v := 8) hx hb dX11_init_235 (by decide) ?_
  replace h := b2_some h
  obtain ⟨a79, s80, ga79, h⟩ := h
  refine z_newN (ty := .int) X hW hS ga79 (Or.inl ⟨rfl, rfl⟩) kp_int (by decide) dX11_init_237 (by decide) (by decide) (fun H hW hS => ?_)
  replace h := b1_some h
  obtain ⟨s81, gs81, h⟩ := h
  refine z_putP X hW hS gs81 kX11 (by decide) (by decide) (Or.inr ⟨_, rfl⟩) (Or.inr ⟨rfl, hin, rfl⟩) kf_X11_91 dX11_init_239 (fun H locs hW hS => ?_)
  refine lv_aload_n hx hb dX11_init_242 rfl (lv_at hl 0 rfl) ?_
  refine lv_bipush (v := 8) hx hb dX11_init_243 (by decide) ?_
  replace h := b2_some h
  obtain ⟨a82, s83, ga82, h⟩ := h
  refine z_newN (ty := .int) X hW hS ga82 (Or.inl ⟨rfl, rfl⟩) kp_int (by decide) dX11_init_245 (by decide) (by decide) (fun H hW hS => ?_)
  replace h := b1_some h
  obtain ⟨s84, gs84, h⟩ := h
  refine z_putP X hW hS gs84 kX11 (by decide) (by decide) (Or.inr ⟨_, rfl⟩) (Or.inr ⟨rfl, hin, rfl⟩) kf_X11_94 dX11_init_247 (fun H locs hW hS => ?_)
  refine lv_aload_n hx hb dX11_init_250 rfl (lv_at hl 0 rfl) ?_
  refine lv_sipush (v := 300) hx hb dX11_init_251 (by decide) ?_
  replace h := b2_some h
  obtain ⟨a85, s86, ga85, h⟩ := h
  refine z_newN (ty := .int) X hW hS ga85 (Or.inl ⟨rfl, rfl⟩) kp_int (by decide) dX11_init_254 (by decide) (by decide) (fun H hW hS => ?_)
  replace h := b1_some h
  obtain ⟨s87, gs87, h⟩ := h
  refine z_putP X hW hS gs87 kX11 (by decide) (by decide) (Or.inr ⟨_, rfl⟩) (Or.inr ⟨rfl, hin, rfl⟩) kf_X11_97 dX11_init_256 (fun H locs hW hS => ?_)
  refine lv_aload_n hx hb dX11_init_259 rfl (lv_at hl 0 rfl) ?_
  refine lv_sipush (v := 300) hx hb dX11_init_260 (by decide) ?_
  replace h := b2_some h
  obtain ⟨a88, s89, ga88, h⟩ := h
  refine z_newN (ty := .int) X hW hS ga88 (Or.inr (Or.inr ⟨rfl, rfl⟩)) kp_boolean (by decide) dX11_init_263 (by decide) (by decide) (fun H hW hS => ?_)
  replace h := b1_some h
  obtain ⟨s90, gs90, h⟩ := h
  refine z_putP X hW hS gs90 kX11 (by decide) (by decide) (Or.inr ⟨_, rfl⟩) (Or.inr ⟨rfl, hin, rfl⟩) kf_X11_100 dX11_init_265 (fun H locs hW hS => ?_)
  refine lv_aload_n hx hb dX11_init_268 rfl (lv_at hl 0 rfl) ?_
  refine lv_sipush (v := 300) hx hb dX11_init_269 (by decide) ?_
  replace h := b2_some h
  obtain ⟨a91, s92, ga91, h⟩ := h
  refine z_newN (ty := .int) X hW hS ga91 (Or.inr (Or.inr ⟨rfl, rfl⟩)) kp_boolean (by decide) dX11_init_272 (by decide) (by decide) (fun H hW hS => ?_)
  replace h := b1_some h
  obtain ⟨s93, gs93, h⟩ := h
  refine z_putP X hW hS gs93 kX11 (by decide) (by decide) (Or.inr ⟨_, rfl⟩) (Or.inr ⟨rfl, hin, rfl⟩) kf_X11_103 dX11_init_274 (fun H locs hW hS => ?_)
  refine lv_aload_n hx hb dX11_init_277 rfl (lv_at hl 0 rfl) ?_
  refine lv_sipush (v := 300) hx hb dX11_init_278 (by decide) ?_
  replace h := b2_some h
  obtain ⟨a94, s95, ga94, h⟩ := h
  refine z_newN (ty := .int) X hW hS ga94 (Or.inl ⟨rfl, rfl⟩) kp_int (by decide) dX11_init_281 (by decide) (by decide) (fun H hW hS => ?_)
  replace h := b1_some h
  obtain ⟨s96, gs96, h⟩ := h
  refine z_putP X hW hS gs96 kX11 (by decide) (by decide) (Or.inr ⟨_, rfl⟩) (Or.inr ⟨rfl, hin, rfl⟩) kf_X11_106 dX11_init_283 (fun H locs hW hS => ?_)
  refine lv_aload_n hx hb dX11_init_286 rfl (lv_at hl 0 rfl) ?_
  refine lv_bipush (v := 20) hx hb dX11_init_287 (by decide) ?_
  replace h := b2_some h
  obtain ⟨a97, s98, ga97, h⟩ := h
  refine z_newN (ty := .int) X hW hS ga97 (Or.inl ⟨rfl, rfl⟩) kp_int (by decide) dX11_init_289 (by decide) (by decide) (fun H hW hS => ?_)
  replace h := b1_some h
  obtain ⟨s99, gs99, h⟩ := h
  refine z_putP X hW hS gs99 kX11 (by decide) (by decide) (Or.inr ⟨_, rfl⟩) (Or.inr ⟨rfl, hin, rfl⟩) kf_X11_109 dX11_init_291 (fun H locs hW hS => ?_)
  refine lv_aload_n hx hb dX11_init_294 rfl (lv_at hl 0 rfl) ?_
  refine lv_bipush (v := 20) hx hb dX11_init_295 (by decide) ?_
  replace h := b2_some h
  obtain ⟨a100, s101, ga100, h⟩ := h
  refine z_newN (ty := .int) X hW hS ga100 (Or.inl ⟨rfl, rfl⟩) kp_int (by decide) dX11_init_297 (by decide) (by decide) (fun H hW hS => ?_)
  replace h := b1_some h
  obtain ⟨s102, gs102, h⟩ := h
  refine z_putP X hW hS gs102 kX11 (by decide) (by decide) (Or.inr ⟨_, rfl⟩) (Or.inr ⟨rfl, hin, rfl⟩) kf_X11_112 dX11_init_299 (fun H locs hW hS => ?_)
  refine lv_aload_n hx hb dX11_init_302 rfl (lv_at hl 0 rfl) ?_
  refine lv_bipush (v := 20) hx hb dX11_init_303 (by decide) ?_
  replace h := b2_some h
  obtain ⟨a103, s104, ga103, h⟩ := h
  refine z_newN (ty := .int) X hW hS ga103 (Or.inl ⟨rfl, rfl⟩) kp_int (by decide) dX11_init_305 (by decide) (by decide) (fun H hW hS => ?_)
  replace h := b1_some h
  obtain ⟨s105, gs105, h⟩ := h
  refine z_putP X hW hS gs105 kX11 (by decide) (by decide) (Or.inr ⟨_, rfl⟩) (Or.inr ⟨rfl, hin, rfl⟩) kf_X11_115 dX11_init_307 (fun H locs hW hS => ?_)
  refine lv_aload_n hx hb dX11_init_310 rfl (lv_at hl 0 rfl) ?_
  refine lv_bipush (v := 20) hx hb dX11_init_311 (by decide) ?_
  replace h := b2_some h
  obtain ⟨a106, s107, ga106, h⟩ := h
  refine z_newN (ty := .int) X hW hS ga106 (Or.inl ⟨rfl, rfl⟩) kp_int (by decide) dX11_init_313 (by decide) (by decide) (fun H hW hS => ?_)
  replace h := b1_some h
  obtain ⟨s108, gs108, h⟩ := h
  refine z_putP X hW hS gs108 kX11 (by decide) (by decide) (Or.inr ⟨_, rfl⟩) (Or.inr ⟨rfl, hin, rfl⟩) kf_X11_118 dX11_init_315 (fun H locs hW hS => ?_)
  refine lv_aload_n hx hb dX11_init_318 rfl (lv_at hl 0 rfl) ?_
  refine lv_sipush (v := 160) hx hb dX11_init_319 (by decide) ?_
  replace h := b2_some h
  obtain ⟨a109, s110, ga109, h⟩ := h
  refine z_newN (ty := .int) X hW hS ga109 (Or.inl ⟨rfl, rfl⟩) kp_int (by decide) dX11_init_322 (by decide) (by decide) (fun H hW hS => ?_)
  replace h := b1_some h
  obtain ⟨s111, gs111, h⟩ := h
  refine z_putP X hW hS gs111 kX11 (by decide) (by decide) (Or.inr ⟨_, rfl⟩) (Or.inr ⟨rfl, hin, rfl⟩) kf_X11_121 dX11_init_324 (fun H locs hW hS => ?_)
  refine lv_aload_n hx hb dX11_init_327 rfl (lv_at hl 0 rfl) ?_
  refine lv_sipush (v := 6000) hx hb dX11_init_328 (by decide) ?_
  replace h := b2_some h
  obtain ⟨a112, s113, ga112, h⟩ := h
  refine z_newN (ty := .int) X hW hS ga112 (Or.inr (Or.inr ⟨rfl, rfl⟩)) kp_boolean (by decide) dX11_init_331 (by decide) (by decide) (fun H hW hS => ?_)
  replace h := b1_some h
  obtain ⟨s114, gs114, h⟩ := h
  refine z_putP X hW hS gs114 kX11 (by decide) (by decide) (Or.inr ⟨_, rfl⟩) (Or.inr ⟨rfl, hin, rfl⟩) kf_X11_124 dX11_init_333 (fun H locs hW hS => ?_)
  refine lv_aload_n hx hb dX11_init_336 rfl (lv_at hl 0 rfl) ?_
  refine lv_sipush (v := 6000) hx hb dX11_init_337 (by decide) ?_
  replace h := b2_some h
  obtain ⟨a115, s116, ga115, h⟩ := h
  refine z_newN (ty := .int) X hW hS ga115 (Or.inr (Or.inr ⟨rfl, rfl⟩)) kp_boolean (by decide) dX11_init_340 (by decide) (by decide) (fun H hW hS => ?_)
  replace h := b1_some h
  obtain ⟨s117, gs117, h⟩ := h
  refine z_putP X hW hS gs117 kX11 (by decide) (by decide) (Or.inr ⟨_, rfl⟩) (Or.inr ⟨rfl, hin, rfl⟩) kf_X11_127 dX11_init_342 (fun H locs hW hS => ?_)
  refine lv_aload_n hx hb dX11_init_345 rfl (lv_at hl 0 rfl) ?_
  refine lv_sipush (v := 6000) hx hb dX11_init_346 (by decide) ?_
  replace h := b2_some h
  obtain ⟨a118, s119, ga118, h⟩ := h
  refine z_newN (ty := .int) X hW hS ga118 (Or.inl ⟨rfl, rfl⟩) kp_int (by decide) dX11_init_349 (by decide) (by decide) (fun H hW hS => ?_)
  replace h := b1_some h
  obtain ⟨s120, gs120, h⟩ := h
  refine z_putP X hW hS gs120 kX11 (by decide) (by decide) (Or.inr ⟨_, rfl⟩) (Or.inr ⟨rfl, hin, rfl⟩) kf_X11_130 dX11_init_351 (fun H locs hW hS => ?_)
  refine lv_aload_n hx hb dX11_init_354 rfl (lv_at hl 0 rfl) ?_
  refine lv_sipush (v := 30000) hx hb dX11_init_355 (by decide) ?_
  replace h := b2_some h
  obtain ⟨a121, s122, ga121, h⟩ := h
  refine z_newN (ty := .int) X hW hS ga121 (Or.inr (Or.inl ⟨rfl, rfl⟩)) kp_long (by decide) dX11_init_358 (by decide) (by decide) (fun H hW hS => ?_)
  replace h := b1_some h
  obtain ⟨s123, gs123, h⟩ := h
  refine z_putP X hW hS gs123 kX11 (by decide) (by decide) (Or.inr ⟨_, rfl⟩) (Or.inr ⟨rfl, hin, rfl⟩) kf_X11_133 dX11_init_360 (fun H locs hW hS => ?_)
  refine lv_aload_n hx hb dX11_init_363 rfl (lv_at hl 0 rfl) ?_
  refine lv_sipush (v := 300) hx hb dX11_init_364 (by decide) ?_
  replace h := b2_some h
  obtain ⟨a124, s125, ga124, h⟩ := h
  refine z_newN (ty := .int) X hW hS ga124 (Or.inr (Or.inr ⟨rfl, rfl⟩)) kp_boolean (by decide) dX11_init_367 (by decide) (by decide) (fun H hW hS => ?_)
  replace h := b1_some h
  obtain ⟨s126, gs126, h⟩ := h
  refine z_putP X hW hS gs126 kX11 (by decide) (by decide) (Or.inr ⟨_, rfl⟩) (Or.inr ⟨rfl, hin, rfl⟩) kf_X11_136 dX11_init_369 (fun H locs hW hS => ?_)
  refine lv_aload_n hx hb dX11_init_372 rfl (lv_at hl 0 rfl) ?_
  refine lv_sipush (v := 300) hx hb dX11_init_373 (by decide) ?_
  replace h := b2_some h
  obtain ⟨a127, s128, ga127, h⟩ := h
  refine z_newN (ty := .int) X hW hS ga127 (Or.inr (Or.inr ⟨rfl, rfl⟩)) kp_boolean (by decide) dX11_init_376 (by decide) (by decide) (fun H hW hS => ?_)
  replace h := b1_some h
  obtain ⟨s129, gs129, h⟩ := h
  refine z_putP X hW hS gs129 kX11 (by decide) (by decide) (Or.inr ⟨_, rfl⟩) (Or.inr ⟨rfl, hin, rfl⟩) kf_X11_139 dX11_init_378 (fun H locs hW hS => ?_)
  refine lv_aload_n hx hb dX11_init_381 rfl (lv_at hl 0 rfl) ?_
  refine lv_sipush (v := 300) hx hb dX11_init_382 (by decide) ?_
  replace h := b2_some h
  obtain ⟨a130, s131, ga130, h⟩ := h
  refine z_newN (ty := .int) X hW hS ga130 (Or.inl ⟨rfl, rfl⟩) kp_int (by decide) dX11_init_385 (by decide) (by decide) (fun H hW hS => ?_)
  replace h := b1_some h
  obtain ⟨s132, gs132, h⟩ := h
  refine z_putP X hW hS gs132 kX11 (by decide) (by decide) (Or.inr ⟨_, rfl⟩) (Or.inr ⟨rfl, hin, rfl⟩) kf_X11_142 dX11_init_387 (fun H locs hW hS => ?_)
  exact z_etv X hlk hr hW hS h (by decide) (by decide) dX11_init_390

set_option maxHeartbeats 4000000 in
set_option maxRecDepth 100000 in
theorem cX11_init_met {l : Launch} {A : Nat → Prop} {D : va_G} {cy : Nat → ClassId} {r0 : Unit} {h0 : Hz} {o : Nat} {h : Hz} (g : fX11_init o h = some (r0, h0)) : Met l yX11_init (Cond.code yX11_init cX11_init 1 none :: wT) ({ frames := 1, cells := 44, slots := 143104, locals := 12 } : Room) (va_Pc [.ref o] (zS A D cy h)) (va_Qv (fun u => u = h0) (zB A D cy) A) 44 143104 A := by
  refine Met.ofW (cc := cX11_init) (maxL := 1) (ret := none) (by decide) rfl ?_
  intro p e s m args below meth c s₁ B hml hv
  obtain ⟨rfl, hW, hK, hN, hA⟩ := hv
  have X : zX A D cy p s m _ c cX11_init RX11 1 := ⟨B.exec, B.bytes, fun w hw => atoms_spec (ws := Cond.code yX11_init cX11_init 1 none :: wT) B.pre w (List.mem_cons_of_mem _ hw), findClass_of_methodNamed B.named, hK, hml, hN, hA⟩
  have hin : meth.name = "<init>" := (name_of_methodNamed B.named B.method).1
  have hl := lv_entry [.ref o] (n := 1) (Nat.le_of_ble_eq_true rfl)
  rw [lg_entry_eq]
  generalize (lg_sl [.ref o] ++ List.replicate (1 - (lg_sl [.ref o]).length) Slot.unset).toArray = ls at hl ⊢
  have hl : lv_has ls 1 [(0, .ref o)] := hl
  exact wX11_init_0 X B.notSynchronized B.returns hin o _ _ _ _ (lv_sub hl [0] rfl) hW va_S.rf g

theorem dX11_refuse_0 : decode cX11_refuse 0 = .ok (.aload_n 0, 1) := by decide +kernel
theorem dX11_refuse_1 : decode cX11_refuse 1 = .ok (.getfield 94, 3) := by decide +kernel
theorem dX11_refuse_4 : decode cX11_refuse 4 = .ok (.iload_n 1, 1) := by decide +kernel
theorem dX11_refuse_5 : decode cX11_refuse 5 = .ok (.ineg, 1) := by decide +kernel
theorem dX11_refuse_6 : decode cX11_refuse 6 = .ok (.dup2, 1) := by decide +kernel
theorem dX11_refuse_7 : decode cX11_refuse 7 = .ok (.iaload, 1) := by decide +kernel
theorem dX11_refuse_8 : decode cX11_refuse 8 = .ok (.iconst 1, 1) := by decide +kernel
theorem dX11_refuse_9 : decode cX11_refuse 9 = .ok (.iadd, 1) := by decide +kernel
theorem dX11_refuse_10 : decode cX11_refuse 10 = .ok (.iastore, 1) := by decide +kernel
theorem dX11_refuse_11 : decode cX11_refuse 11 = .ok (.iload_n 1, 1) := by decide +kernel
theorem dX11_refuse_12 : decode cX11_refuse 12 = .ok (.ireturn, 1) := by decide +kernel
def fX11_refuse (o : Nat) (v1 : Int32) (h : Hz) : Option (Int32 × Hz) := (b1 (gA 11 31 o h) fun a1 => (b1 (xI 12 a1 (-v1) h) fun x2 => (b1 (yI a1 (-v1) (x2 + 1) h) fun s3 => some (v1, s3))))
set_option maxHeartbeats 4000000 in
set_option maxRecDepth 100000 in
theorem wX11_refuse_0 {r0 : Int32} {h0 : Hz} (X : zX A D cy p s m args c cX11_refuse RX11 2) (hlk : meth.locks = false) (hr : meth.sig.returnType = (some .int)) (o : Nat) (v1 : Int32) (h : Hz) (H : Heap) (locs : List Loc) (ls : Array Slot) (hl : lv_has ls 2 [(0, .ref o), (1, .int v1)]) (hW : zW A cy D h H) (hS : va_S A s.heap H locs) (h : fX11_refuse o v1 h = some (r0, h0)) : W p l e ({ frames := 0, cells := 0, slots := 0, locals := 0 } : Room) s m args below meth c H locs 0 0 (MQ below (va_Qi (fun r1 u => r1 = r0 ∧ u = h0) (zB A D cy) A) args s 0 0 A) (F0 m 0 ls []) := by
  obtain ⟨hx, hb, hts, hown, hK9, hml, hN9, hA9⟩ := id X
  unfold fX11_refuse at h
  refine lv_aload_n hx hb dX11_refuse_0 rfl (lv_at hl 0 rfl) ?_
  replace h := b1_some h
  obtain ⟨a1, ga1, h⟩ := h
  refine z_getA X hW ga1 kX11 (by decide) (by decide) kf_X11_94 dX11_refuse_1 ?_
  refine lv_iload_n hx hb dX11_refuse_4 rfl (lv_at hl 1 rfl) ?_
  refine lv_ineg hx hb dX11_refuse_5 ?_
  refine lv_dup2_11 hx hb dX11_refuse_6 rfl rfl ?_
  replace h := b1_some h
  obtain ⟨x2, gx2, h⟩ := h
  refine z_aldI X hW gx2 dX11_refuse_7 ?_
  refine lv_iconst (v := 1) hx hb dX11_refuse_8 (by decide) ?_
  refine lv_iadd hx hb dX11_refuse_9 ?_
  replace h := b1_some h
  obtain ⟨s3, gs3, h⟩ := h
  refine z_astI X hW hS gs3 dX11_refuse_10 (fun H locs hW hS => ?_)
  refine lv_iload_n hx hb dX11_refuse_11 rfl (lv_at hl 1 rfl) ?_
  exact z_eti X hlk hr hW hS h (by decide) (by decide) dX11_refuse_12

set_option maxHeartbeats 4000000 in
set_option maxRecDepth 100000 in
theorem cX11_refuse_met {l : Launch} {A : Nat → Prop} {D : va_G} {cy : Nat → ClassId} {r0 : Int32} {h0 : Hz} {o : Nat} {v1 : Int32} {h : Hz} (g : fX11_refuse o v1 h = some (r0, h0)) : Met l yX11_refuse (Cond.code yX11_refuse cX11_refuse 2 (some .int) :: wT) ({ frames := 0, cells := 0, slots := 0, locals := 0 } : Room) (va_Pc [.ref o, .int v1] (zS A D cy h)) (va_Qi (fun r1 u => r1 = r0 ∧ u = h0) (zB A D cy) A) 0 0 A := by
  refine Met.ofW (cc := cX11_refuse) (maxL := 2) (ret := (some .int)) (by decide) rfl ?_
  intro p e s m args below meth c s₁ B hml hv
  obtain ⟨rfl, hW, hK, hN, hA⟩ := hv
  have X : zX A D cy p s m _ c cX11_refuse RX11 2 := ⟨B.exec, B.bytes, fun w hw => atoms_spec (ws := Cond.code yX11_refuse cX11_refuse 2 (some .int) :: wT) B.pre w (List.mem_cons_of_mem _ hw), findClass_of_methodNamed B.named, hK, hml, hN, hA⟩
  have hl := lv_entry [.ref o, .int v1] (n := 2) (Nat.le_of_ble_eq_true rfl)
  rw [lg_entry_eq]
  generalize (lg_sl [.ref o, .int v1] ++ List.replicate (2 - (lg_sl [.ref o, .int v1]).length) Slot.unset).toArray = ls at hl ⊢
  have hl : lv_has ls 2 [(0, .ref o), (1, .int v1)] := hl
  exact wX11_refuse_0 X B.notSynchronized B.returns o v1 _ _ _ _ (lv_sub hl [0, 1] rfl) hW va_S.rf g

theorem dX11_isIn_0 : decode cX11_isIn 0 = .ok (.iload_n 0, 1) := by decide +kernel
theorem dX11_isIn_1 : decode cX11_isIn 1 = .ok (.ifCond .lt 12, 3) := by decide +kernel
theorem dX11_isIn_4 : decode cX11_isIn 4 = .ok (.iload_n 0, 1) := by decide +kernel
theorem dX11_isIn_5 : decode cX11_isIn 5 = .ok (.iload_n 1, 1) := by decide +kernel
theorem dX11_isIn_6 : decode cX11_isIn 6 = .ok (.if_icmp .ge 7, 3) := by decide +kernel
theorem dX11_isIn_9 : decode cX11_isIn 9 = .ok (.iconst 1, 1) := by decide +kernel
theorem dX11_isIn_10 : decode cX11_isIn 10 = .ok (.goto 4, 3) := by decide +kernel
theorem dX11_isIn_13 : decode cX11_isIn 13 = .ok (.iconst 0, 1) := by decide +kernel
theorem dX11_isIn_14 : decode cX11_isIn 14 = .ok (.ireturn, 1) := by decide +kernel
def fX11_isIn (v0 : Int32) (v1 : Int32) (h : Hz) : Option (Int32 × Hz) := (if v0 < 0 then rz 0 h else (if v1 ≤ v0 then rz 0 h else rz 1 h))
set_option maxHeartbeats 4000000 in
set_option maxRecDepth 100000 in
theorem wX11_isIn_0 {r0 : Int32} {h0 : Hz} (X : zX A D cy p s m args c cX11_isIn RX11 2) (hlk : meth.locks = false) (hr : meth.sig.returnType = (some .boolean)) (v0 : Int32) (v1 : Int32) (h : Hz) (H : Heap) (locs : List Loc) (ls : Array Slot) (hl : lv_has ls 2 [(0, .int v0), (1, .int v1)]) (hW : zW A cy D h H) (hS : va_S A s.heap H locs) (h : fX11_isIn v0 v1 h = some (r0, h0)) : W p l e ({ frames := 0, cells := 0, slots := 0, locals := 0 } : Room) s m args below meth c H locs 0 0 (MQ below (va_Qi (fun r1 u => r1 = r0 ∧ u = h0) (zB A D cy) A) args s 0 0 A) (F0 m 0 ls []) := by
  obtain ⟨hx, hb, hts, hown, hK9, hml, hN9, hA9⟩ := id X
  unfold fX11_isIn at h
  refine lv_iload_n hx hb dX11_isIn_0 rfl (lv_at hl 0 rfl) ?_
  refine lv_if_lt (tgt := 13) hx hb dX11_isIn_1 (by decide) (fun c1 => ?_) (fun c1 => ?_)
  · replace h := it_t h c1
    refine lv_iconst (v := 0) hx hb dX11_isIn_13 (by decide) ?_
    exact z_etz X hlk hr hW hS h (by decide) (by decide) dX11_isIn_14
  · replace h := it_f h c1
    refine lv_iload_n hx hb dX11_isIn_4 rfl (lv_at hl 0 rfl) ?_
    refine lv_iload_n hx hb dX11_isIn_5 rfl (lv_at hl 1 rfl) ?_
    refine lv_icmp_ge (tgt := 13) hx hb dX11_isIn_6 (by decide) (fun c2 => ?_) (fun c2 => ?_)
    · replace h := it_t h c2
      refine lv_iconst (v := 0) hx hb dX11_isIn_13 (by decide) ?_
      exact z_etz X hlk hr hW hS h (by decide) (by decide) dX11_isIn_14
    · replace h := it_f h c2
      refine lv_iconst (v := 1) hx hb dX11_isIn_9 (by decide) ?_
      refine lv_goto (tgt := 14) hx hb dX11_isIn_10 (by decide) ?_
      exact z_etz X hlk hr hW hS h (by decide) (by decide) dX11_isIn_14

set_option maxHeartbeats 4000000 in
set_option maxRecDepth 100000 in
theorem cX11_isIn_met {l : Launch} {A : Nat → Prop} {D : va_G} {cy : Nat → ClassId} {r0 : Int32} {h0 : Hz} {v0 : Int32} {v1 : Int32} {h : Hz} (g : fX11_isIn v0 v1 h = some (r0, h0)) : Met l yX11_isIn (Cond.code yX11_isIn cX11_isIn 2 (some .boolean) :: wT) ({ frames := 0, cells := 0, slots := 0, locals := 0 } : Room) (va_Pc [.int v0, .int v1] (zS A D cy h)) (va_Qi (fun r1 u => r1 = r0 ∧ u = h0) (zB A D cy) A) 0 0 A := by
  refine Met.ofW (cc := cX11_isIn) (maxL := 2) (ret := (some .boolean)) (by decide) rfl ?_
  intro p e s m args below meth c s₁ B hml hv
  obtain ⟨rfl, hW, hK, hN, hA⟩ := hv
  have X : zX A D cy p s m _ c cX11_isIn RX11 2 := ⟨B.exec, B.bytes, fun w hw => atoms_spec (ws := Cond.code yX11_isIn cX11_isIn 2 (some .boolean) :: wT) B.pre w (List.mem_cons_of_mem _ hw), findClass_of_methodNamed B.named, hK, hml, hN, hA⟩
  have hl := lv_entry [.int v0, .int v1] (n := 2) (Nat.le_of_ble_eq_true rfl)
  rw [lg_entry_eq]
  generalize (lg_sl [.int v0, .int v1] ++ List.replicate (2 - (lg_sl [.int v0, .int v1]).length) Slot.unset).toArray = ls at hl ⊢
  have hl : lv_has ls 2 [(0, .int v0), (1, .int v1)] := hl
  exact wX11_isIn_0 X B.notSynchronized B.returns v0 v1 _ _ _ _ (lv_sub hl [0, 1] rfl) hW va_S.rf g

theorem dX11_isThere_0 : decode cX11_isThere 0 = .ok (.iload_n 1, 1) := by decide +kernel
theorem dX11_isThere_1 : decode cX11_isThere 1 = .ok (.aload_n 0, 1) := by decide +kernel
theorem dX11_isThere_2 : decode cX11_isThere 2 = .ok (.getfield 145, 3) := by decide +kernel
theorem dX11_isThere_5 : decode cX11_isThere 5 = .ok (.invokestatic 149, 3) := by decide +kernel
theorem dX11_isThere_8 : decode cX11_isThere 8 = .ok (.ifCond .eq 16, 3) := by decide +kernel
theorem dX11_isThere_11 : decode cX11_isThere 11 = .ok (.aload_n 0, 1) := by decide +kernel
theorem dX11_isThere_12 : decode cX11_isThere 12 = .ok (.getfield 31, 3) := by decide +kernel
theorem dX11_isThere_15 : decode cX11_isThere 15 = .ok (.iload_n 1, 1) := by decide +kernel
theorem dX11_isThere_16 : decode cX11_isThere 16 = .ok (.baload, 1) := by decide +kernel
theorem dX11_isThere_17 : decode cX11_isThere 17 = .ok (.ifCond .ne 7, 3) := by decide +kernel
theorem dX11_isThere_20 : decode cX11_isThere 20 = .ok (.iconst 1, 1) := by decide +kernel
theorem dX11_isThere_21 : decode cX11_isThere 21 = .ok (.goto 4, 3) := by decide +kernel
theorem dX11_isThere_24 : decode cX11_isThere 24 = .ok (.iconst 0, 1) := by decide +kernel
theorem dX11_isThere_25 : decode cX11_isThere 25 = .ok (.ireturn, 1) := by decide +kernel
def fX11_isThere (o : Nat) (v1 : Int32) (h : Hz) : Option (Int32 × Hz) := (b1 (gI 11 9 o h) fun x1 => (b2 (fX11_isIn v1 x1 h) fun x2 s3 => (if x2 = 0 then rz 0 s3 else (b1 (gA 11 7 o s3) fun a5 => (b1 (xI 14 a5 v1 s3) fun x6 => (if x6 = 0 then rz 1 s3 else rz 0 s3))))))
set_option maxHeartbeats 4000000 in
set_option maxRecDepth 100000 in
theorem wX11_isThere_0 {r0 : Int32} {h0 : Hz} (X : zX A D cy p s m args c cX11_isThere RX11 2) (hlk : meth.locks = false) (hr : meth.sig.returnType = (some .boolean)) (o : Nat) (v1 : Int32) (h : Hz) (H : Heap) (locs : List Loc) (ls : Array Slot) (hl : lv_has ls 2 [(0, .ref o), (1, .int v1)]) (hW : zW A cy D h H) (hS : va_S A s.heap H locs) (h : fX11_isThere o v1 h = some (r0, h0)) : W p l e ({ frames := 1, cells := 0, slots := 0, locals := 21 } : Room) s m args below meth c H locs 0 0 (MQ below (va_Qi (fun r1 u => r1 = r0 ∧ u = h0) (zB A D cy) A) args s 0 0 A) (F0 m 0 ls []) := by
  obtain ⟨hx, hb, hts, hown, hK9, hml, hN9, hA9⟩ := id X
  unfold fX11_isThere at h
  refine lv_iload_n hx hb dX11_isThere_0 rfl (lv_at hl 1 rfl) ?_
  refine lv_aload_n hx hb dX11_isThere_1 rfl (lv_at hl 0 rfl) ?_
  replace h := b1_some h
  obtain ⟨x1, gx1, h⟩ := h
  refine z_getI X hW gx1 kX11 (by decide) (by decide) kf_X11_145 dX11_isThere_2 ?_
  replace h := b2_some h
  obtain ⟨x2, s3, gs3, h⟩ := h
  refine z_callSi (rest := []) X hW hS (cX11_isIn_met gs3) kb_X11_isIn ks_X11_isIn kl_X11_149 rfl rfl ⟨Nat.le_of_ble_eq_true rfl, Nat.le_of_ble_eq_true rfl⟩ rfl rfl (by decide) hl.1 dX11_isThere_5 ⟨(by decide), (by decide)⟩ (fun H locs hW hS => ?_)
  refine lv_if_eq (tgt := 24) hx hb dX11_isThere_8 (by decide) (fun c4 => ?_) (fun c4 => ?_)
  · replace h := it_t h c4
    refine lv_iconst (v := 0) hx hb dX11_isThere_24 (by decide) ?_
    exact z_etz X hlk hr hW hS h (by decide) (by decide) dX11_isThere_25
  · replace h := it_f h c4
    refine lv_aload_n hx hb dX11_isThere_11 rfl (lv_at hl 0 rfl) ?_
    replace h := b1_some h
    obtain ⟨a5, ga5, h⟩ := h
    refine z_getA X hW ga5 kX11 (by decide) (by decide) kf_X11_31 dX11_isThere_12 ?_
    refine lv_iload_n hx hb dX11_isThere_15 rfl (lv_at hl 1 rfl) ?_
    replace h := b1_some h
    obtain ⟨x6, gx6, h⟩ := h
    refine z_aldZ X hW gx6 dX11_isThere_16 ?_
    refine lv_if_ne (tgt := 24) hx hb dX11_isThere_17 (by decide) (fun c7 => ?_) (fun c7 => ?_)
    · replace h := it_f h c7
      refine lv_iconst (v := 0) hx hb dX11_isThere_24 (by decide) ?_
      exact z_etz X hlk hr hW hS h (by decide) (by decide) dX11_isThere_25
    · replace h := it_t h c7
      refine lv_iconst (v := 1) hx hb dX11_isThere_20 (by decide) ?_
      refine lv_goto (tgt := 25) hx hb dX11_isThere_21 (by decide) ?_
      exact z_etz X hlk hr hW hS h (by decide) (by decide) dX11_isThere_25

set_option maxHeartbeats 4000000 in
set_option maxRecDepth 100000 in
theorem cX11_isThere_met {l : Launch} {A : Nat → Prop} {D : va_G} {cy : Nat → ClassId} {r0 : Int32} {h0 : Hz} {o : Nat} {v1 : Int32} {h : Hz} (g : fX11_isThere o v1 h = some (r0, h0)) : Met l yX11_isThere (Cond.code yX11_isThere cX11_isThere 2 (some .boolean) :: wT) ({ frames := 1, cells := 0, slots := 0, locals := 21 } : Room) (va_Pc [.ref o, .int v1] (zS A D cy h)) (va_Qi (fun r1 u => r1 = r0 ∧ u = h0) (zB A D cy) A) 0 0 A := by
  refine Met.ofW (cc := cX11_isThere) (maxL := 2) (ret := (some .boolean)) (by decide) rfl ?_
  intro p e s m args below meth c s₁ B hml hv
  obtain ⟨rfl, hW, hK, hN, hA⟩ := hv
  have X : zX A D cy p s m _ c cX11_isThere RX11 2 := ⟨B.exec, B.bytes, fun w hw => atoms_spec (ws := Cond.code yX11_isThere cX11_isThere 2 (some .boolean) :: wT) B.pre w (List.mem_cons_of_mem _ hw), findClass_of_methodNamed B.named, hK, hml, hN, hA⟩
  have hl := lv_entry [.ref o, .int v1] (n := 2) (Nat.le_of_ble_eq_true rfl)
  rw [lg_entry_eq]
  generalize (lg_sl [.ref o, .int v1] ++ List.replicate (2 - (lg_sl [.ref o, .int v1]).length) Slot.unset).toArray = ls at hl ⊢
  have hl : lv_has ls 2 [(0, .ref o), (1, .int v1)] := hl
  exact wX11_isThere_0 X B.notSynchronized B.returns o v1 _ _ _ _ (lv_sub hl [0, 1] rfl) hW va_S.rf g

theorem dX11_hasPlaces_0 : decode cX11_hasPlaces 0 = .ok (.aload_n 0, 1) := by decide +kernel
theorem dX11_hasPlaces_1 : decode cX11_hasPlaces 1 = .ok (.getfield 9, 3) := by decide +kernel
theorem dX11_hasPlaces_4 : decode cX11_hasPlaces 4 = .ok (.iload_n 1, 1) := by decide +kernel
theorem dX11_hasPlaces_5 : decode cX11_hasPlaces 5 = .ok (.iaload, 1) := by decide +kernel
theorem dX11_hasPlaces_6 : decode cX11_hasPlaces 6 = .ok (.iconst 1, 1) := by decide +kernel
theorem dX11_hasPlaces_7 : decode cX11_hasPlaces 7 = .ok (.if_icmp .eq 13, 3) := by decide +kernel
theorem dX11_hasPlaces_10 : decode cX11_hasPlaces 10 = .ok (.aload_n 0, 1) := by decide +kernel
theorem dX11_hasPlaces_11 : decode cX11_hasPlaces 11 = .ok (.getfield 9, 3) := by decide +kernel
theorem dX11_hasPlaces_14 : decode cX11_hasPlaces 14 = .ok (.iload_n 1, 1) := by decide +kernel
theorem dX11_hasPlaces_15 : decode cX11_hasPlaces 15 = .ok (.iaload, 1) := by decide +kernel
theorem dX11_hasPlaces_16 : decode cX11_hasPlaces 16 = .ok (.iconst 2, 1) := by decide +kernel
theorem dX11_hasPlaces_17 : decode cX11_hasPlaces 17 = .ok (.if_icmp .ne 7, 3) := by decide +kernel
theorem dX11_hasPlaces_20 : decode cX11_hasPlaces 20 = .ok (.iconst 1, 1) := by decide +kernel
theorem dX11_hasPlaces_21 : decode cX11_hasPlaces 21 = .ok (.goto 4, 3) := by decide +kernel
theorem dX11_hasPlaces_24 : decode cX11_hasPlaces 24 = .ok (.iconst 0, 1) := by decide +kernel
theorem dX11_hasPlaces_25 : decode cX11_hasPlaces 25 = .ok (.ireturn, 1) := by decide +kernel
def fX11_hasPlaces (o : Nat) (v1 : Int32) (h : Hz) : Option (Int32 × Hz) := (b1 (gA 11 0 o h) fun a1 => (b1 (xI 12 a1 v1 h) fun x2 => (if x2 = 1 then rz 1 h else (b1 (gA 11 0 o h) fun a4 => (b1 (xI 12 a4 v1 h) fun x5 => (if x5 = 2 then rz 1 h else rz 0 h))))))
set_option maxHeartbeats 4000000 in
set_option maxRecDepth 100000 in
theorem wX11_hasPlaces_0 {r0 : Int32} {h0 : Hz} (X : zX A D cy p s m args c cX11_hasPlaces RX11 2) (hlk : meth.locks = false) (hr : meth.sig.returnType = (some .boolean)) (o : Nat) (v1 : Int32) (h : Hz) (H : Heap) (locs : List Loc) (ls : Array Slot) (hl : lv_has ls 2 [(0, .ref o), (1, .int v1)]) (hW : zW A cy D h H) (hS : va_S A s.heap H locs) (h : fX11_hasPlaces o v1 h = some (r0, h0)) : W p l e ({ frames := 0, cells := 0, slots := 0, locals := 0 } : Room) s m args below meth c H locs 0 0 (MQ below (va_Qi (fun r1 u => r1 = r0 ∧ u = h0) (zB A D cy) A) args s 0 0 A) (F0 m 0 ls []) := by
  obtain ⟨hx, hb, hts, hown, hK9, hml, hN9, hA9⟩ := id X
  unfold fX11_hasPlaces at h
  refine lv_aload_n hx hb dX11_hasPlaces_0 rfl (lv_at hl 0 rfl) ?_
  replace h := b1_some h
  obtain ⟨a1, ga1, h⟩ := h
  refine z_getA X hW ga1 kX11 (by decide) (by decide) kf_X11_9 dX11_hasPlaces_1 ?_
  refine lv_iload_n hx hb dX11_hasPlaces_4 rfl (lv_at hl 1 rfl) ?_
  replace h := b1_some h
  obtain ⟨x2, gx2, h⟩ := h
  refine z_aldI X hW gx2 dX11_hasPlaces_5 ?_
  refine lv_iconst (v := 1) hx hb dX11_hasPlaces_6 (by decide) ?_
  refine lv_icmp_eq (tgt := 20) hx hb dX11_hasPlaces_7 (by decide) (fun c3 => ?_) (fun c3 => ?_)
  · replace h := it_t h c3
    refine lv_iconst (v := 1) hx hb dX11_hasPlaces_20 (by decide) ?_
    refine lv_goto (tgt := 25) hx hb dX11_hasPlaces_21 (by decide) ?_
    exact z_etz X hlk hr hW hS h (by decide) (by decide) dX11_hasPlaces_25
  · replace h := it_f h c3
    refine lv_aload_n hx hb dX11_hasPlaces_10 rfl (lv_at hl 0 rfl) ?_
    replace h := b1_some h
    obtain ⟨a4, ga4, h⟩ := h
    refine z_getA X hW ga4 kX11 (by decide) (by decide) kf_X11_9 dX11_hasPlaces_11 ?_
    refine lv_iload_n hx hb dX11_hasPlaces_14 rfl (lv_at hl 1 rfl) ?_
    replace h := b1_some h
    obtain ⟨x5, gx5, h⟩ := h
    refine z_aldI X hW gx5 dX11_hasPlaces_15 ?_
    refine lv_iconst (v := 2) hx hb dX11_hasPlaces_16 (by decide) ?_
    refine lv_icmp_ne (tgt := 24) hx hb dX11_hasPlaces_17 (by decide) (fun c6 => ?_) (fun c6 => ?_)
    · replace h := it_f h c6
      refine lv_iconst (v := 0) hx hb dX11_hasPlaces_24 (by decide) ?_
      exact z_etz X hlk hr hW hS h (by decide) (by decide) dX11_hasPlaces_25
    · replace h := it_t h c6
      refine lv_iconst (v := 1) hx hb dX11_hasPlaces_20 (by decide) ?_
      refine lv_goto (tgt := 25) hx hb dX11_hasPlaces_21 (by decide) ?_
      exact z_etz X hlk hr hW hS h (by decide) (by decide) dX11_hasPlaces_25

set_option maxHeartbeats 4000000 in
set_option maxRecDepth 100000 in
theorem cX11_hasPlaces_met {l : Launch} {A : Nat → Prop} {D : va_G} {cy : Nat → ClassId} {r0 : Int32} {h0 : Hz} {o : Nat} {v1 : Int32} {h : Hz} (g : fX11_hasPlaces o v1 h = some (r0, h0)) : Met l yX11_hasPlaces (Cond.code yX11_hasPlaces cX11_hasPlaces 2 (some .boolean) :: wT) ({ frames := 0, cells := 0, slots := 0, locals := 0 } : Room) (va_Pc [.ref o, .int v1] (zS A D cy h)) (va_Qi (fun r1 u => r1 = r0 ∧ u = h0) (zB A D cy) A) 0 0 A := by
  refine Met.ofW (cc := cX11_hasPlaces) (maxL := 2) (ret := (some .boolean)) (by decide) rfl ?_
  intro p e s m args below meth c s₁ B hml hv
  obtain ⟨rfl, hW, hK, hN, hA⟩ := hv
  have X : zX A D cy p s m _ c cX11_hasPlaces RX11 2 := ⟨B.exec, B.bytes, fun w hw => atoms_spec (ws := Cond.code yX11_hasPlaces cX11_hasPlaces 2 (some .boolean) :: wT) B.pre w (List.mem_cons_of_mem _ hw), findClass_of_methodNamed B.named, hK, hml, hN, hA⟩
  have hl := lv_entry [.ref o, .int v1] (n := 2) (Nat.le_of_ble_eq_true rfl)
  rw [lg_entry_eq]
  generalize (lg_sl [.ref o, .int v1] ++ List.replicate (2 - (lg_sl [.ref o, .int v1]).length) Slot.unset).toArray = ls at hl ⊢
  have hl : lv_has ls 2 [(0, .ref o), (1, .int v1)] := hl
  exact wX11_hasPlaces_0 X B.notSynchronized B.returns o v1 _ _ _ _ (lv_sub hl [0, 1] rfl) hW va_S.rf g

theorem dX11_noLeads_0 : decode cX11_noLeads 0 = .ok (.iconst 0, 1) := by decide +kernel
theorem dX11_noLeads_1 : decode cX11_noLeads 1 = .ok (.istore_n 1, 1) := by decide +kernel
theorem dX11_noLeads_2 : decode cX11_noLeads 2 = .ok (.iload_n 1, 1) := by decide +kernel
theorem dX11_noLeads_3 : decode cX11_noLeads 3 = .ok (.sipush 300, 3) := by decide +kernel
theorem dX11_noLeads_6 : decode cX11_noLeads 6 = .ok (.if_icmp .ge 16, 3) := by decide +kernel
theorem dX11_noLeads_9 : decode cX11_noLeads 9 = .ok (.aload_n 0, 1) := by decide +kernel
theorem dX11_noLeads_10 : decode cX11_noLeads 10 = .ok (.getfield 100, 3) := by decide +kernel
theorem dX11_noLeads_13 : decode cX11_noLeads 13 = .ok (.iload_n 1, 1) := by decide +kernel
theorem dX11_noLeads_14 : decode cX11_noLeads 14 = .ok (.iconst 0, 1) := by decide +kernel
theorem dX11_noLeads_15 : decode cX11_noLeads 15 = .ok (.bastore, 1) := by decide +kernel
theorem dX11_noLeads_16 : decode cX11_noLeads 16 = .ok (.iinc 1 1, 3) := by decide +kernel
theorem dX11_noLeads_19 : decode cX11_noLeads 19 = .ok (.goto (-17), 3) := by decide +kernel
theorem dX11_noLeads_22 : decode cX11_noLeads 22 = .ok (.return_, 1) := by decide +kernel
def fX11_noLeads_2 : Nat → Nat → Int32 → Hz → Option (Unit × Hz)
  | 0, _, _, _ => none
  | n + 1, o, v1, h => (if 300 ≤ v1 then some ((), h) else (b1 (gA 11 34 o h) fun a2 => (b1 (yZ a2 v1 0 h) fun s3 => fX11_noLeads_2 n o (v1 + 1) s3)))
set_option maxHeartbeats 4000000 in
set_option maxRecDepth 100000 in
theorem wX11_noLeads_2 {r0 : Unit} {h0 : Hz} (X : zX A D cy p s m args c cX11_noLeads RX11 2) (hlk : meth.locks = false) (hr : meth.sig.returnType = none) : ∀ (n : Nat) (o : Nat) (v1 : Int32) (h : Hz) (H : Heap) (locs : List Loc) (ls : Array Slot) (hl : lv_has ls 2 [(0, .ref o), (1, .int v1)]) (hW : zW A cy D h H) (hS : va_S A s.heap H locs) (h : fX11_noLeads_2 n o v1 h = some (r0, h0)), W p l e ({ frames := 0, cells := 0, slots := 0, locals := 0 } : Room) s m args below meth c H locs 0 0 (MQ below (va_Qv (fun u => u = h0) (zB A D cy) A) args s 0 0 A) (F0 m 2 ls []) := by
  obtain ⟨hx, hb, hts, hown, hK9, hml, hN9, hA9⟩ := id X
  intro n
  induction n with
  | zero =>
    intro o v1 h H locs ls hl hW hS h
    rw [fX11_noLeads_2] at h
    cases h
  | succ n ih =>
    intro o v1 h H locs ls hl hW hS h
    rw [fX11_noLeads_2] at h
    refine lv_iload_n hx hb dX11_noLeads_2 rfl (lv_at hl 1 rfl) ?_
    refine lv_sipush (v := 300) hx hb dX11_noLeads_3 (by decide) ?_
    refine lv_icmp_ge (tgt := 22) hx hb dX11_noLeads_6 (by decide) (fun c1 => ?_) (fun c1 => ?_)
    · replace h := it_t h c1
      exact z_etv X hlk hr hW hS h (by decide) (by decide) dX11_noLeads_22
    · replace h := it_f h c1
      refine lv_aload_n hx hb dX11_noLeads_9 rfl (lv_at hl 0 rfl) ?_
      replace h := b1_some h
      obtain ⟨a2, ga2, h⟩ := h
      refine z_getA X hW ga2 kX11 (by decide) (by decide) kf_X11_100 dX11_noLeads_10 ?_
      refine lv_iload_n hx hb dX11_noLeads_13 rfl (lv_at hl 1 rfl) ?_
      refine lv_iconst (v := 0) hx hb dX11_noLeads_14 (by decide) ?_
      replace h := b1_some h
      obtain ⟨s3, gs3, h⟩ := h
      refine z_astZ X hW hS gs3 dX11_noLeads_15 (fun H locs hW hS => ?_)
      refine lv_iinc (v := (v1 + 1)) (lv' := [(1, .int (v1 + 1)), (0, .ref o)]) hx hb dX11_noLeads_16 hl (k := 1) rfl rfl (by decide) rfl (fun ls hl => ?_)
      refine lv_goto (tgt := 2) hx hb dX11_noLeads_19 (by decide) ?_
      exact ih o (v1 + 1) _ _ _ _ (lv_sub hl [1, 0] rfl) hW hS h

def fX11_noLeads (o : Nat) (h : Hz) : Option (Unit × Hz) := fX11_noLeads_2 100000 o 0 h
set_option maxHeartbeats 4000000 in
set_option maxRecDepth 100000 in
theorem wX11_noLeads_0 {r0 : Unit} {h0 : Hz} (X : zX A D cy p s m args c cX11_noLeads RX11 2) (hlk : meth.locks = false) (hr : meth.sig.returnType = none) (o : Nat) (h : Hz) (H : Heap) (locs : List Loc) (ls : Array Slot) (hl : lv_has ls 2 [(0, .ref o)]) (hW : zW A cy D h H) (hS : va_S A s.heap H locs) (h : fX11_noLeads o h = some (r0, h0)) : W p l e ({ frames := 0, cells := 0, slots := 0, locals := 0 } : Room) s m args below meth c H locs 0 0 (MQ below (va_Qv (fun u => u = h0) (zB A D cy) A) args s 0 0 A) (F0 m 0 ls []) := by
  obtain ⟨hx, hb, hts, hown, hK9, hml, hN9, hA9⟩ := id X
  unfold fX11_noLeads at h
  refine lv_iconst (v := 0) hx hb dX11_noLeads_0 (by decide) ?_
  refine lv_istore_n (lv' := [(1, .int 0), (0, .ref o)]) hx hb dX11_noLeads_1 rfl hl (by decide) rfl (fun ls hl => ?_)
  exact wX11_noLeads_2 X hlk hr _ o 0 _ _ _ _ (lv_sub hl [1, 0] rfl) hW hS h

set_option maxHeartbeats 4000000 in
set_option maxRecDepth 100000 in
theorem cX11_noLeads_met {l : Launch} {A : Nat → Prop} {D : va_G} {cy : Nat → ClassId} {r0 : Unit} {h0 : Hz} {o : Nat} {h : Hz} (g : fX11_noLeads o h = some (r0, h0)) : Met l yX11_noLeads (Cond.code yX11_noLeads cX11_noLeads 2 none :: wT) ({ frames := 0, cells := 0, slots := 0, locals := 0 } : Room) (va_Pc [.ref o] (zS A D cy h)) (va_Qv (fun u => u = h0) (zB A D cy) A) 0 0 A := by
  refine Met.ofW (cc := cX11_noLeads) (maxL := 2) (ret := none) (by decide) rfl ?_
  intro p e s m args below meth c s₁ B hml hv
  obtain ⟨rfl, hW, hK, hN, hA⟩ := hv
  have X : zX A D cy p s m _ c cX11_noLeads RX11 2 := ⟨B.exec, B.bytes, fun w hw => atoms_spec (ws := Cond.code yX11_noLeads cX11_noLeads 2 none :: wT) B.pre w (List.mem_cons_of_mem _ hw), findClass_of_methodNamed B.named, hK, hml, hN, hA⟩
  have hl := lv_entry [.ref o] (n := 2) (Nat.le_of_ble_eq_true rfl)
  rw [lg_entry_eq]
  generalize (lg_sl [.ref o] ++ List.replicate (2 - (lg_sl [.ref o]).length) Slot.unset).toArray = ls at hl ⊢
  have hl : lv_has ls 2 [(0, .ref o)] := hl
  exact wX11_noLeads_0 X B.notSynchronized B.returns o _ _ _ _ (lv_sub hl [0] rfl) hW va_S.rf g

theorem dX11_lead_0 : decode cX11_lead 0 = .ok (.aload_n 0, 1) := by decide +kernel
theorem dX11_lead_1 : decode cX11_lead 1 = .ok (.getfield 100, 3) := by decide +kernel
theorem dX11_lead_4 : decode cX11_lead 4 = .ok (.iload_n 1, 1) := by decide +kernel
theorem dX11_lead_5 : decode cX11_lead 5 = .ok (.baload, 1) := by decide +kernel
theorem dX11_lead_6 : decode cX11_lead 6 = .ok (.ifCond .eq 4, 3) := by decide +kernel
theorem dX11_lead_9 : decode cX11_lead 9 = .ok (.return_, 1) := by decide +kernel
theorem dX11_lead_10 : decode cX11_lead 10 = .ok (.iconst 0, 1) := by decide +kernel
theorem dX11_lead_11 : decode cX11_lead 11 = .ok (.istore_n 2, 1) := by decide +kernel
theorem dX11_lead_12 : decode cX11_lead 12 = .ok (.aload_n 0, 1) := by decide +kernel
theorem dX11_lead_13 : decode cX11_lead 13 = .ok (.getfield 106, 3) := by decide +kernel
theorem dX11_lead_16 : decode cX11_lead 16 = .ok (.iload_n 2, 1) := by decide +kernel
theorem dX11_lead_17 : decode cX11_lead 17 = .ok (.iload_n 1, 1) := by decide +kernel
theorem dX11_lead_18 : decode cX11_lead 18 = .ok (.iastore, 1) := by decide +kernel
theorem dX11_lead_19 : decode cX11_lead 19 = .ok (.iinc 2 1, 3) := by decide +kernel
theorem dX11_lead_22 : decode cX11_lead 22 = .ok (.aload_n 0, 1) := by decide +kernel
theorem dX11_lead_23 : decode cX11_lead 23 = .ok (.getfield 100, 3) := by decide +kernel
theorem dX11_lead_26 : decode cX11_lead 26 = .ok (.iload_n 1, 1) := by decide +kernel
theorem dX11_lead_27 : decode cX11_lead 27 = .ok (.iconst 1, 1) := by decide +kernel
theorem dX11_lead_28 : decode cX11_lead 28 = .ok (.bastore, 1) := by decide +kernel
theorem dX11_lead_29 : decode cX11_lead 29 = .ok (.iload_n 2, 1) := by decide +kernel
theorem dX11_lead_30 : decode cX11_lead 30 = .ok (.ifCond .le 102, 3) := by decide +kernel
theorem dX11_lead_33 : decode cX11_lead 33 = .ok (.iinc 2 (-1), 3) := by decide +kernel
theorem dX11_lead_36 : decode cX11_lead 36 = .ok (.aload_n 0, 1) := by decide +kernel
theorem dX11_lead_37 : decode cX11_lead 37 = .ok (.getfield 106, 3) := by decide +kernel
theorem dX11_lead_40 : decode cX11_lead 40 = .ok (.iload_n 2, 1) := by decide +kernel
theorem dX11_lead_41 : decode cX11_lead 41 = .ok (.iaload, 1) := by decide +kernel
theorem dX11_lead_42 : decode cX11_lead 42 = .ok (.istore_n 3, 1) := by decide +kernel
theorem dX11_lead_43 : decode cX11_lead 43 = .ok (.iconst 0, 1) := by decide +kernel
theorem dX11_lead_44 : decode cX11_lead 44 = .ok (.istore 4, 2) := by decide +kernel
theorem dX11_lead_46 : decode cX11_lead 46 = .ok (.iload 4, 2) := by decide +kernel
theorem dX11_lead_48 : decode cX11_lead 48 = .ok (.aload_n 0, 1) := by decide +kernel
theorem dX11_lead_49 : decode cX11_lead 49 = .ok (.getfield 19, 3) := by decide +kernel
theorem dX11_lead_52 : decode cX11_lead 52 = .ok (.iload_n 3, 1) := by decide +kernel
theorem dX11_lead_53 : decode cX11_lead 53 = .ok (.iaload, 1) := by decide +kernel
theorem dX11_lead_54 : decode cX11_lead 54 = .ok (.if_icmp .ge 75, 3) := by decide +kernel
theorem dX11_lead_57 : decode cX11_lead 57 = .ok (.aload_n 0, 1) := by decide +kernel
theorem dX11_lead_58 : decode cX11_lead 58 = .ok (.getfield 38, 3) := by decide +kernel
theorem dX11_lead_61 : decode cX11_lead 61 = .ok (.bipush 8, 2) := by decide +kernel
theorem dX11_lead_63 : decode cX11_lead 63 = .ok (.iload_n 3, 1) := by decide +kernel
theorem dX11_lead_64 : decode cX11_lead 64 = .ok (.imul, 1) := by decide +kernel
theorem dX11_lead_65 : decode cX11_lead 65 = .ok (.iload 4, 2) := by decide +kernel
theorem dX11_lead_67 : decode cX11_lead 67 = .ok (.iadd, 1) := by decide +kernel
theorem dX11_lead_68 : decode cX11_lead 68 = .ok (.iaload, 1) := by decide +kernel
theorem dX11_lead_69 : decode cX11_lead 69 = .ok (.iconst 1, 1) := by decide +kernel
theorem dX11_lead_70 : decode cX11_lead 70 = .ok (.if_icmp .ne 18, 3) := by decide +kernel
theorem dX11_lead_73 : decode cX11_lead 73 = .ok (.aload_n 0, 1) := by decide +kernel
theorem dX11_lead_74 : decode cX11_lead 74 = .ok (.getfield 41, 3) := by decide +kernel
theorem dX11_lead_77 : decode cX11_lead 77 = .ok (.bipush 8, 2) := by decide +kernel
theorem dX11_lead_79 : decode cX11_lead 79 = .ok (.iload_n 3, 1) := by decide +kernel
theorem dX11_lead_80 : decode cX11_lead 80 = .ok (.imul, 1) := by decide +kernel
theorem dX11_lead_81 : decode cX11_lead 81 = .ok (.iload 4, 2) := by decide +kernel
theorem dX11_lead_83 : decode cX11_lead 83 = .ok (.iadd, 1) := by decide +kernel
theorem dX11_lead_84 : decode cX11_lead 84 = .ok (.iaload, 1) := by decide +kernel
theorem dX11_lead_85 : decode cX11_lead 85 = .ok (.goto 4, 3) := by decide +kernel
theorem dX11_lead_88 : decode cX11_lead 88 = .ok (.iload_n 3, 1) := by decide +kernel
theorem dX11_lead_89 : decode cX11_lead 89 = .ok (.istore 5, 2) := by decide +kernel
theorem dX11_lead_91 : decode cX11_lead 91 = .ok (.aload_n 0, 1) := by decide +kernel
theorem dX11_lead_92 : decode cX11_lead 92 = .ok (.getfield 100, 3) := by decide +kernel
theorem dX11_lead_95 : decode cX11_lead 95 = .ok (.iload 5, 2) := by decide +kernel
theorem dX11_lead_97 : decode cX11_lead 97 = .ok (.baload, 1) := by decide +kernel
theorem dX11_lead_98 : decode cX11_lead 98 = .ok (.ifCond .eq 6, 3) := by decide +kernel
theorem dX11_lead_101 : decode cX11_lead 101 = .ok (.goto 22, 3) := by decide +kernel
theorem dX11_lead_104 : decode cX11_lead 104 = .ok (.aload_n 0, 1) := by decide +kernel
theorem dX11_lead_105 : decode cX11_lead 105 = .ok (.getfield 100, 3) := by decide +kernel
theorem dX11_lead_108 : decode cX11_lead 108 = .ok (.iload 5, 2) := by decide +kernel
theorem dX11_lead_110 : decode cX11_lead 110 = .ok (.iconst 1, 1) := by decide +kernel
theorem dX11_lead_111 : decode cX11_lead 111 = .ok (.bastore, 1) := by decide +kernel
theorem dX11_lead_112 : decode cX11_lead 112 = .ok (.aload_n 0, 1) := by decide +kernel
theorem dX11_lead_113 : decode cX11_lead 113 = .ok (.getfield 106, 3) := by decide +kernel
theorem dX11_lead_116 : decode cX11_lead 116 = .ok (.iload_n 2, 1) := by decide +kernel
theorem dX11_lead_117 : decode cX11_lead 117 = .ok (.iload 5, 2) := by decide +kernel
theorem dX11_lead_119 : decode cX11_lead 119 = .ok (.iastore, 1) := by decide +kernel
theorem dX11_lead_120 : decode cX11_lead 120 = .ok (.iinc 2 1, 3) := by decide +kernel
theorem dX11_lead_123 : decode cX11_lead 123 = .ok (.iinc 4 1, 3) := by decide +kernel
theorem dX11_lead_126 : decode cX11_lead 126 = .ok (.goto (-80), 3) := by decide +kernel
theorem dX11_lead_129 : decode cX11_lead 129 = .ok (.goto (-100), 3) := by decide +kernel
theorem dX11_lead_132 : decode cX11_lead 132 = .ok (.return_, 1) := by decide +kernel
def fX11_lead_89 (K29 : Nat → Int32 → Hz → Option (Unit × Hz)) (K46 : Nat → Int32 → Int32 → Int32 → Hz → Option (Unit × Hz)) (o : Nat) (v2 : Int32) (v3 : Int32) (v4 : Int32) (w0 : Int32) (h : Hz) : Option (Unit × Hz) := (b1 (gA 11 34 o h) fun a1 => (b1 (xI 14 a1 w0 h) fun x2 => (if x2 = 0 then (b1 (gA 11 34 o h) fun a4 => (b1 (yZ a4 w0 1 h) fun s5 => (b1 (gA 11 36 o s5) fun a6 => (b1 (yI a6 v2 w0 s5) fun s7 => K46 o (v2 + 1) v3 (v4 + 1) s7)))) else K46 o v2 v3 (v4 + 1) h)))
set_option maxHeartbeats 4000000 in
set_option maxRecDepth 100000 in
theorem wX11_lead_89 {r0 : Unit} {h0 : Hz} (X : zX A D cy p s m args c cX11_lead RX11 6) (hlk : meth.locks = false) (hr : meth.sig.returnType = none) {K29 : Nat → Int32 → Hz → Option (Unit × Hz)} {K46 : Nat → Int32 → Int32 → Int32 → Hz → Option (Unit × Hz)} (hK29 : ∀ (o : Nat) (u2 : Int32) (h : Hz) (H : Heap) (locs : List Loc) (ls : Array Slot), lv_has ls 6 [(0, .ref o), (2, .int u2)] → zW A cy D h H → va_S A s.heap H locs → K29 o u2 h = some (r0, h0) → W p l e ({ frames := 0, cells := 0, slots := 0, locals := 0 } : Room) s m args below meth c H locs 0 0 (MQ below (va_Qv (fun u => u = h0) (zB A D cy) A) args s 0 0 A) (F0 m 29 ls [])) (hK46 : ∀ (o : Nat) (u2 : Int32) (u3 : Int32) (u4 : Int32) (h : Hz) (H : Heap) (locs : List Loc) (ls : Array Slot), lv_has ls 6 [(0, .ref o), (2, .int u2), (3, .int u3), (4, .int u4)] → zW A cy D h H → va_S A s.heap H locs → K46 o u2 u3 u4 h = some (r0, h0) → W p l e ({ frames := 0, cells := 0, slots := 0, locals := 0 } : Room) s m args below meth c H locs 0 0 (MQ below (va_Qv (fun u => u = h0) (zB A D cy) A) args s 0 0 A) (F0 m 46 ls [])) (o : Nat) (v2 : Int32) (v3 : Int32) (v4 : Int32) (w0 : Int32) (h : Hz) (H : Heap) (locs : List Loc) (ls : Array Slot) (hl : lv_has ls 6 [(0, .ref o), (2, .int v2), (3, .int v3), (4, .int v4)]) (hW : zW A cy D h H) (hS : va_S A s.heap H locs) (h : fX11_lead_89 K29 K46 o v2 v3 v4 w0 h = some (r0, h0)) : W p l e ({ frames := 0, cells := 0, slots := 0, locals := 0 } : Room) s m args below meth c H locs 0 0 (MQ below (va_Qv (fun u => u = h0) (zB A D cy) A) args s 0 0 A) (F0 m 89 ls [.int w0]) := by
  obtain ⟨hx, hb, hts, hown, hK9, hml, hN9, hA9⟩ := id X
  unfold fX11_lead_89 at h
  refine lv_istore (lv' := [(5, .int w0), (0, .ref o), (2, .int v2), (3, .int v3), (4, .int v4)]) hx hb dX11_lead_89 hl (by decide) rfl (fun ls hl => ?_)
  refine lv_aload_n hx hb dX11_lead_91 rfl (lv_at hl 1 rfl) ?_
  replace h := b1_some h
  obtain ⟨a1, ga1, h⟩ := h
  refine z_getA X hW ga1 kX11 (by decide) (by decide) kf_X11_100 dX11_lead_92 ?_
  refine lv_iload hx hb dX11_lead_95 (lv_at hl 0 rfl) ?_
  replace h := b1_some h
  obtain ⟨x2, gx2, h⟩ := h
  refine z_aldZ X hW gx2 dX11_lead_97 ?_
  refine lv_if_eq (tgt := 104) hx hb dX11_lead_98 (by decide) (fun c3 => ?_) (fun c3 => ?_)
  · replace h := it_t h c3
    refine lv_aload_n hx hb dX11_lead_104 rfl (lv_at hl 1 rfl) ?_
    replace h := b1_some h
    obtain ⟨a4, ga4, h⟩ := h
    refine z_getA X hW ga4 kX11 (by decide) (by decide) kf_X11_100 dX11_lead_105 ?_
    refine lv_iload hx hb dX11_lead_108 (lv_at hl 0 rfl) ?_
    refine lv_iconst (v := 1) hx hb dX11_lead_110 (by decide) ?_
    replace h := b1_some h
    obtain ⟨s5, gs5, h⟩ := h
    refine z_astZ X hW hS gs5 dX11_lead_111 (fun H locs hW hS => ?_)
    refine lv_aload_n hx hb dX11_lead_112 rfl (lv_at hl 1 rfl) ?_
    replace h := b1_some h
    obtain ⟨a6, ga6, h⟩ := h
    refine z_getA X hW ga6 kX11 (by decide) (by decide) kf_X11_106 dX11_lead_113 ?_
    refine lv_iload_n hx hb dX11_lead_116 rfl (lv_at hl 2 rfl) ?_
    refine lv_iload hx hb dX11_lead_117 (lv_at hl 0 rfl) ?_
    replace h := b1_some h
    obtain ⟨s7, gs7, h⟩ := h
    refine z_astI X hW hS gs7 dX11_lead_119 (fun H locs hW hS => ?_)
    refine lv_iinc (v := (v2 + 1)) (lv' := [(2, .int (v2 + 1)), (5, .int w0), (0, .ref o), (3, .int v3), (4, .int v4)]) hx hb dX11_lead_120 hl (k := 2) rfl rfl (by decide) rfl (fun ls hl => ?_)
    refine lv_iinc (v := (v4 + 1)) (lv' := [(4, .int (v4 + 1)), (2, .int (v2 + 1)), (5, .int w0), (0, .ref o), (3, .int v3)]) hx hb dX11_lead_123 hl (k := 4) rfl rfl (by decide) rfl (fun ls hl => ?_)
    refine lv_goto (tgt := 46) hx hb dX11_lead_126 (by decide) ?_
    exact hK46 o (v2 + 1) v3 (v4 + 1) _ _ _ _ (lv_sub hl [3, 1, 4, 0] rfl) hW hS h
  · replace h := it_f h c3
    refine lv_goto (tgt := 123) hx hb dX11_lead_101 (by decide) ?_
    refine lv_iinc (v := (v4 + 1)) (lv' := [(4, .int (v4 + 1)), (5, .int w0), (0, .ref o), (2, .int v2), (3, .int v3)]) hx hb dX11_lead_123 hl (k := 4) rfl rfl (by decide) rfl (fun ls hl => ?_)
    refine lv_goto (tgt := 46) hx hb dX11_lead_126 (by decide) ?_
    exact hK46 o v2 v3 (v4 + 1) _ _ _ _ (lv_sub hl [2, 3, 4, 0] rfl) hW hS h

def fX11_lead_46 (K29 : Nat → Int32 → Hz → Option (Unit × Hz)) : Nat → Nat → Int32 → Int32 → Int32 → Hz → Option (Unit × Hz)
  | 0, _, _, _, _, _ => none
  | n + 1, o, v2, v3, v4, h => (b1 (gA 11 3 o h) fun a1 => (b1 (xI 12 a1 v3 h) fun x2 => (if x2 ≤ v4 then K29 o v2 h else (b1 (gA 11 10 o h) fun a4 => (b1 (xI 12 a4 ((8 * v3) + v4) h) fun x5 => (if x5 = 1 then (b1 (gA 11 11 o h) fun a7 => (b1 (xI 12 a7 ((8 * v3) + v4) h) fun x8 => fX11_lead_89 K29 (fX11_lead_46 K29 n) o v2 v3 v4 x8 h)) else fX11_lead_89 K29 (fX11_lead_46 K29 n) o v2 v3 v4 v3 h))))))
set_option maxHeartbeats 4000000 in
set_option maxRecDepth 100000 in
theorem wX11_lead_46 {r0 : Unit} {h0 : Hz} (X : zX A D cy p s m args c cX11_lead RX11 6) (hlk : meth.locks = false) (hr : meth.sig.returnType = none) {K29 : Nat → Int32 → Hz → Option (Unit × Hz)} (hK29 : ∀ (o : Nat) (u2 : Int32) (h : Hz) (H : Heap) (locs : List Loc) (ls : Array Slot), lv_has ls 6 [(0, .ref o), (2, .int u2)] → zW A cy D h H → va_S A s.heap H locs → K29 o u2 h = some (r0, h0) → W p l e ({ frames := 0, cells := 0, slots := 0, locals := 0 } : Room) s m args below meth c H locs 0 0 (MQ below (va_Qv (fun u => u = h0) (zB A D cy) A) args s 0 0 A) (F0 m 29 ls [])) : ∀ (n : Nat) (o : Nat) (v2 : Int32) (v3 : Int32) (v4 : Int32) (h : Hz) (H : Heap) (locs : List Loc) (ls : Array Slot) (hl : lv_has ls 6 [(0, .ref o), (2, .int v2), (3, .int v3), (4, .int v4)]) (hW : zW A cy D h H) (hS : va_S A s.heap H locs) (h : fX11_lead_46 K29 n o v2 v3 v4 h = some (r0, h0)), W p l e ({ frames := 0, cells := 0, slots := 0, locals := 0 } : Room) s m args below meth c H locs 0 0 (MQ below (va_Qv (fun u => u = h0) (zB A D cy) A) args s 0 0 A) (F0 m 46 ls []) := by
  obtain ⟨hx, hb, hts, hown, hK9, hml, hN9, hA9⟩ := id X
  intro n
  induction n with
  | zero =>
    intro o v2 v3 v4 h H locs ls hl hW hS h
    rw [fX11_lead_46] at h
    cases h
  | succ n ih =>
    intro o v2 v3 v4 h H locs ls hl hW hS h
    rw [fX11_lead_46] at h
    refine lv_iload hx hb dX11_lead_46 (lv_at hl 3 rfl) ?_
    refine lv_aload_n hx hb dX11_lead_48 rfl (lv_at hl 0 rfl) ?_
    replace h := b1_some h
    obtain ⟨a1, ga1, h⟩ := h
    refine z_getA X hW ga1 kX11 (by decide) (by decide) kf_X11_19 dX11_lead_49 ?_
    refine lv_iload_n hx hb dX11_lead_52 rfl (lv_at hl 2 rfl) ?_
    replace h := b1_some h
    obtain ⟨x2, gx2, h⟩ := h
    refine z_aldI X hW gx2 dX11_lead_53 ?_
    refine lv_icmp_ge (tgt := 129) hx hb dX11_lead_54 (by decide) (fun c3 => ?_) (fun c3 => ?_)
    · replace h := it_t h c3
      refine lv_goto (tgt := 29) hx hb dX11_lead_129 (by decide) ?_
      exact hK29 o v2 _ _ _ _ (lv_sub hl [0, 1] rfl) hW hS h
    · replace h := it_f h c3
      refine lv_aload_n hx hb dX11_lead_57 rfl (lv_at hl 0 rfl) ?_
      replace h := b1_some h
      obtain ⟨a4, ga4, h⟩ := h
      refine z_getA X hW ga4 kX11 (by decide) (by decide) kf_X11_38 dX11_lead_58 ?_
      refine lv_bipush (v := 8) hx hb dX11_lead_61 (by decide) ?_
      refine lv_iload_n hx hb dX11_lead_63 rfl (lv_at hl 2 rfl) ?_
      refine lv_imul hx hb dX11_lead_64 ?_
      refine lv_iload hx hb dX11_lead_65 (lv_at hl 3 rfl) ?_
      refine lv_iadd hx hb dX11_lead_67 ?_
      replace h := b1_some h
      obtain ⟨x5, gx5, h⟩ := h
      refine z_aldI X hW gx5 dX11_lead_68 ?_
      refine lv_iconst (v := 1) hx hb dX11_lead_69 (by decide) ?_
      refine lv_icmp_ne (tgt := 88) hx hb dX11_lead_70 (by decide) (fun c6 => ?_) (fun c6 => ?_)
      · replace h := it_f h c6
        refine lv_iload_n hx hb dX11_lead_88 rfl (lv_at hl 2 rfl) ?_
        exact wX11_lead_89 X hlk hr hK29 ih o v2 v3 v4 v3 _ _ _ _ (lv_sub hl [0, 1, 2, 3] rfl) hW hS h
      · replace h := it_t h c6
        refine lv_aload_n hx hb dX11_lead_73 rfl (lv_at hl 0 rfl) ?_
        replace h := b1_some h
        obtain ⟨a7, ga7, h⟩ := h
        refine z_getA X hW ga7 kX11 (by decide) (by decide) kf_X11_41 dX11_lead_74 ?_
        refine lv_bipush (v := 8) hx hb dX11_lead_77 (by decide) ?_
        refine lv_iload_n hx hb dX11_lead_79 rfl (lv_at hl 2 rfl) ?_
        refine lv_imul hx hb dX11_lead_80 ?_
        refine lv_iload hx hb dX11_lead_81 (lv_at hl 3 rfl) ?_
        refine lv_iadd hx hb dX11_lead_83 ?_
        replace h := b1_some h
        obtain ⟨x8, gx8, h⟩ := h
        refine z_aldI X hW gx8 dX11_lead_84 ?_
        refine lv_goto (tgt := 89) hx hb dX11_lead_85 (by decide) ?_
        exact wX11_lead_89 X hlk hr hK29 ih o v2 v3 v4 x8 _ _ _ _ (lv_sub hl [0, 1, 2, 3] rfl) hW hS h

def fX11_lead_29 : Nat → Nat → Int32 → Hz → Option (Unit × Hz)
  | 0, _, _, _ => none
  | n + 1, o, v2, h => (if v2 ≤ 0 then some ((), h) else (b1 (gA 11 36 o h) fun a2 => (b1 (xI 12 a2 (v2 + (-1)) h) fun x3 => fX11_lead_46 (fX11_lead_29 n) 100000 o (v2 + (-1)) x3 0 h)))
set_option maxHeartbeats 4000000 in
set_option maxRecDepth 100000 in
theorem wX11_lead_29 {r0 : Unit} {h0 : Hz} (X : zX A D cy p s m args c cX11_lead RX11 6) (hlk : meth.locks = false) (hr : meth.sig.returnType = none) : ∀ (n : Nat) (o : Nat) (v2 : Int32) (h : Hz) (H : Heap) (locs : List Loc) (ls : Array Slot) (hl : lv_has ls 6 [(0, .ref o), (2, .int v2)]) (hW : zW A cy D h H) (hS : va_S A s.heap H locs) (h : fX11_lead_29 n o v2 h = some (r0, h0)), W p l e ({ frames := 0, cells := 0, slots := 0, locals := 0 } : Room) s m args below meth c H locs 0 0 (MQ below (va_Qv (fun u => u = h0) (zB A D cy) A) args s 0 0 A) (F0 m 29 ls []) := by
  obtain ⟨hx, hb, hts, hown, hK9, hml, hN9, hA9⟩ := id X
  intro n
  induction n with
  | zero =>
    intro o v2 h H locs ls hl hW hS h
    rw [fX11_lead_29] at h
    cases h
  | succ n ih =>
    intro o v2 h H locs ls hl hW hS h
    rw [fX11_lead_29] at h
    refine lv_iload_n hx hb dX11_lead_29 rfl (lv_at hl 1 rfl) ?_
    refine lv_if_le (tgt := 132) hx hb dX11_lead_30 (by decide) (fun c1 => ?_) (fun c1 => ?_)
    · replace h := it_t h c1
      exact z_etv X hlk hr hW hS h (by decide) (by decide) dX11_lead_132
    · replace h := it_f h c1
      refine lv_iinc (v := (v2 + (-1))) (lv' := [(2, .int (v2 + (-1))), (0, .ref o)]) hx hb dX11_lead_33 hl (k := 1) rfl rfl (by decide) rfl (fun ls hl => ?_)
      refine lv_aload_n hx hb dX11_lead_36 rfl (lv_at hl 1 rfl) ?_
      replace h := b1_some h
      obtain ⟨a2, ga2, h⟩ := h
      refine z_getA X hW ga2 kX11 (by decide) (by decide) kf_X11_106 dX11_lead_37 ?_
      refine lv_iload_n hx hb dX11_lead_40 rfl (lv_at hl 0 rfl) ?_
      replace h := b1_some h
      obtain ⟨x3, gx3, h⟩ := h
      refine z_aldI X hW gx3 dX11_lead_41 ?_
      refine lv_istore_n (lv' := [(3, .int x3), (2, .int (v2 + (-1))), (0, .ref o)]) hx hb dX11_lead_42 rfl hl (by decide) rfl (fun ls hl => ?_)
      refine lv_iconst (v := 0) hx hb dX11_lead_43 (by decide) ?_
      refine lv_istore (lv' := [(4, .int 0), (3, .int x3), (2, .int (v2 + (-1))), (0, .ref o)]) hx hb dX11_lead_44 hl (by decide) rfl (fun ls hl => ?_)
      exact wX11_lead_46 X hlk hr ih _ o (v2 + (-1)) x3 0 _ _ _ _ (lv_sub hl [3, 2, 1, 0] rfl) hW hS h

def fX11_lead (o : Nat) (v1 : Int32) (h : Hz) : Option (Unit × Hz) := (b1 (gA 11 34 o h) fun a1 => (b1 (xI 14 a1 v1 h) fun x2 => (if x2 = 0 then (b1 (gA 11 36 o h) fun a4 => (b1 (yI a4 0 v1 h) fun s5 => (b1 (gA 11 34 o s5) fun a6 => (b1 (yZ a6 v1 1 s5) fun s7 => fX11_lead_29 100000 o (0 + 1) s7)))) else some ((), h))))
set_option maxHeartbeats 4000000 in
set_option maxRecDepth 100000 in
theorem wX11_lead_0 {r0 : Unit} {h0 : Hz} (X : zX A D cy p s m args c cX11_lead RX11 6) (hlk : meth.locks = false) (hr : meth.sig.returnType = none) (o : Nat) (v1 : Int32) (h : Hz) (H : Heap) (locs : List Loc) (ls : Array Slot) (hl : lv_has ls 6 [(0, .ref o), (1, .int v1)]) (hW : zW A cy D h H) (hS : va_S A s.heap H locs) (h : fX11_lead o v1 h = some (r0, h0)) : W p l e ({ frames := 0, cells := 0, slots := 0, locals := 0 } : Room) s m args below meth c H locs 0 0 (MQ below (va_Qv (fun u => u = h0) (zB A D cy) A) args s 0 0 A) (F0 m 0 ls []) := by
  obtain ⟨hx, hb, hts, hown, hK9, hml, hN9, hA9⟩ := id X
  unfold fX11_lead at h
  refine lv_aload_n hx hb dX11_lead_0 rfl (lv_at hl 0 rfl) ?_
  replace h := b1_some h
  obtain ⟨a1, ga1, h⟩ := h
  refine z_getA X hW ga1 kX11 (by decide) (by decide) kf_X11_100 dX11_lead_1 ?_
  refine lv_iload_n hx hb dX11_lead_4 rfl (lv_at hl 1 rfl) ?_
  replace h := b1_some h
  obtain ⟨x2, gx2, h⟩ := h
  refine z_aldZ X hW gx2 dX11_lead_5 ?_
  refine lv_if_eq (tgt := 10) hx hb dX11_lead_6 (by decide) (fun c3 => ?_) (fun c3 => ?_)
  · replace h := it_t h c3
    refine lv_iconst (v := 0) hx hb dX11_lead_10 (by decide) ?_
    refine lv_istore_n (lv' := [(2, .int 0), (0, .ref o), (1, .int v1)]) hx hb dX11_lead_11 rfl hl (by decide) rfl (fun ls hl => ?_)
    refine lv_aload_n hx hb dX11_lead_12 rfl (lv_at hl 1 rfl) ?_
    replace h := b1_some h
    obtain ⟨a4, ga4, h⟩ := h
    refine z_getA X hW ga4 kX11 (by decide) (by decide) kf_X11_106 dX11_lead_13 ?_
    refine lv_iload_n hx hb dX11_lead_16 rfl (lv_at hl 0 rfl) ?_
    refine lv_iload_n hx hb dX11_lead_17 rfl (lv_at hl 2 rfl) ?_
    replace h := b1_some h
    obtain ⟨s5, gs5, h⟩ := h
    refine z_astI X hW hS gs5 dX11_lead_18 (fun H locs hW hS => ?_)
    refine lv_iinc (v := (0 + 1)) (lv' := [(2, .int (0 + 1)), (0, .ref o), (1, .int v1)]) hx hb dX11_lead_19 hl (k := 0) rfl rfl (by decide) rfl (fun ls hl => ?_)
    refine lv_aload_n hx hb dX11_lead_22 rfl (lv_at hl 1 rfl) ?_
    replace h := b1_some h
    obtain ⟨a6, ga6, h⟩ := h
    refine z_getA X hW ga6 kX11 (by decide) (by decide) kf_X11_100 dX11_lead_23 ?_
    refine lv_iload_n hx hb dX11_lead_26 rfl (lv_at hl 2 rfl) ?_
    refine lv_iconst (v := 1) hx hb dX11_lead_27 (by decide) ?_
    replace h := b1_some h
    obtain ⟨s7, gs7, h⟩ := h
    refine z_astZ X hW hS gs7 dX11_lead_28 (fun H locs hW hS => ?_)
    exact wX11_lead_29 X hlk hr _ o (0 + 1) _ _ _ _ (lv_sub hl [1, 0] rfl) hW hS h
  · replace h := it_f h c3
    exact z_etv X hlk hr hW hS h (by decide) (by decide) dX11_lead_9

set_option maxHeartbeats 4000000 in
set_option maxRecDepth 100000 in
theorem cX11_lead_met {l : Launch} {A : Nat → Prop} {D : va_G} {cy : Nat → ClassId} {r0 : Unit} {h0 : Hz} {o : Nat} {v1 : Int32} {h : Hz} (g : fX11_lead o v1 h = some (r0, h0)) : Met l yX11_lead (Cond.code yX11_lead cX11_lead 6 none :: wT) ({ frames := 0, cells := 0, slots := 0, locals := 0 } : Room) (va_Pc [.ref o, .int v1] (zS A D cy h)) (va_Qv (fun u => u = h0) (zB A D cy) A) 0 0 A := by
  refine Met.ofW (cc := cX11_lead) (maxL := 6) (ret := none) (by decide) rfl ?_
  intro p e s m args below meth c s₁ B hml hv
  obtain ⟨rfl, hW, hK, hN, hA⟩ := hv
  have X : zX A D cy p s m _ c cX11_lead RX11 6 := ⟨B.exec, B.bytes, fun w hw => atoms_spec (ws := Cond.code yX11_lead cX11_lead 6 none :: wT) B.pre w (List.mem_cons_of_mem _ hw), findClass_of_methodNamed B.named, hK, hml, hN, hA⟩
  have hl := lv_entry [.ref o, .int v1] (n := 6) (Nat.le_of_ble_eq_true rfl)
  rw [lg_entry_eq]
  generalize (lg_sl [.ref o, .int v1] ++ List.replicate (6 - (lg_sl [.ref o, .int v1]).length) Slot.unset).toArray = ls at hl ⊢
  have hl : lv_has ls 6 [(0, .ref o), (1, .int v1)] := hl
  exact wX11_lead_0 X B.notSynchronized B.returns o v1 _ _ _ _ (lv_sub hl [0, 1] rfl) hW va_S.rf g

theorem dX11_isNear_0 : decode cX11_isNear 0 = .ok (.aload_n 0, 1) := by decide +kernel
theorem dX11_isNear_1 : decode cX11_isNear 1 = .ok (.invokevirtual 153, 3) := by decide +kernel
theorem dX11_isNear_4 : decode cX11_isNear 4 = .ok (.iconst 0, 1) := by decide +kernel
theorem dX11_isNear_5 : decode cX11_isNear 5 = .ok (.istore_n 2, 1) := by decide +kernel
theorem dX11_isNear_6 : decode cX11_isNear 6 = .ok (.iload_n 2, 1) := by decide +kernel
theorem dX11_isNear_7 : decode cX11_isNear 7 = .ok (.aload_n 0, 1) := by decide +kernel
theorem dX11_isNear_8 : decode cX11_isNear 8 = .ok (.getfield 145, 3) := by decide +kernel
theorem dX11_isNear_11 : decode cX11_isNear 11 = .ok (.if_icmp .ge 48, 3) := by decide +kernel
theorem dX11_isNear_14 : decode cX11_isNear 14 = .ok (.aload_n 0, 1) := by decide +kernel
theorem dX11_isNear_15 : decode cX11_isNear 15 = .ok (.getfield 31, 3) := by decide +kernel
theorem dX11_isNear_18 : decode cX11_isNear 18 = .ok (.iload_n 2, 1) := by decide +kernel
theorem dX11_isNear_19 : decode cX11_isNear 19 = .ok (.baload, 1) := by decide +kernel
theorem dX11_isNear_20 : decode cX11_isNear 20 = .ok (.ifCond .ne 33, 3) := by decide +kernel
theorem dX11_isNear_23 : decode cX11_isNear 23 = .ok (.aload_n 0, 1) := by decide +kernel
theorem dX11_isNear_24 : decode cX11_isNear 24 = .ok (.getfield 9, 3) := by decide +kernel
theorem dX11_isNear_27 : decode cX11_isNear 27 = .ok (.iload_n 2, 1) := by decide +kernel
theorem dX11_isNear_28 : decode cX11_isNear 28 = .ok (.iaload, 1) := by decide +kernel
theorem dX11_isNear_29 : decode cX11_isNear 29 = .ok (.iconst 2, 1) := by decide +kernel
theorem dX11_isNear_30 : decode cX11_isNear 30 = .ok (.if_icmp .ne 23, 3) := by decide +kernel
theorem dX11_isNear_33 : decode cX11_isNear 33 = .ok (.aload_n 0, 1) := by decide +kernel
theorem dX11_isNear_34 : decode cX11_isNear 34 = .ok (.getfield 13, 3) := by decide +kernel
theorem dX11_isNear_37 : decode cX11_isNear 37 = .ok (.iload_n 2, 1) := by decide +kernel
theorem dX11_isNear_38 : decode cX11_isNear 38 = .ok (.iaload, 1) := by decide +kernel
theorem dX11_isNear_39 : decode cX11_isNear 39 = .ok (.aload_n 0, 1) := by decide +kernel
theorem dX11_isNear_40 : decode cX11_isNear 40 = .ok (.getfield 13, 3) := by decide +kernel
theorem dX11_isNear_43 : decode cX11_isNear 43 = .ok (.iload_n 1, 1) := by decide +kernel
theorem dX11_isNear_44 : decode cX11_isNear 44 = .ok (.iaload, 1) := by decide +kernel
theorem dX11_isNear_45 : decode cX11_isNear 45 = .ok (.if_icmp .ne 8, 3) := by decide +kernel
theorem dX11_isNear_48 : decode cX11_isNear 48 = .ok (.aload_n 0, 1) := by decide +kernel
theorem dX11_isNear_49 : decode cX11_isNear 49 = .ok (.iload_n 2, 1) := by decide +kernel
theorem dX11_isNear_50 : decode cX11_isNear 50 = .ok (.invokevirtual 156, 3) := by decide +kernel
theorem dX11_isNear_53 : decode cX11_isNear 53 = .ok (.iinc 2 1, 3) := by decide +kernel
theorem dX11_isNear_56 : decode cX11_isNear 56 = .ok (.goto (-50), 3) := by decide +kernel
theorem dX11_isNear_59 : decode cX11_isNear 59 = .ok (.aload_n 0, 1) := by decide +kernel
theorem dX11_isNear_60 : decode cX11_isNear 60 = .ok (.getfield 100, 3) := by decide +kernel
theorem dX11_isNear_63 : decode cX11_isNear 63 = .ok (.iload_n 1, 1) := by decide +kernel
theorem dX11_isNear_64 : decode cX11_isNear 64 = .ok (.baload, 1) := by decide +kernel
theorem dX11_isNear_65 : decode cX11_isNear 65 = .ok (.ireturn, 1) := by decide +kernel
def fX11_isNear_6 : Nat → Nat → Int32 → Int32 → Hz → Option (Int32 × Hz)
  | 0, _, _, _, _ => none
  | n + 1, o, v1, v2, h => (b1 (gI 11 9 o h) fun x1 => (if x1 ≤ v2 then (b1 (gA 11 34 o h) fun a3 => (b1 (xI 14 a3 v1 h) fun x4 => rz x4 h)) else (b1 (gA 11 7 o h) fun a5 => (b1 (xI 14 a5 v2 h) fun x6 => (if x6 = 0 then (b1 (gA 11 0 o h) fun a8 => (b1 (xI 12 a8 v2 h) fun x9 => (if x9 = 2 then (b1 (gA 11 1 o h) fun a11 => (b1 (xI 12 a11 v2 h) fun x12 => (b1 (gA 11 1 o h) fun a13 => (b1 (xI 12 a13 v1 h) fun x14 => (if x12 = x14 then (b1 (tg 11 o h) fun _ => (b2 (fX11_lead o v2 h) fun _ s18 => fX11_isNear_6 n o v1 (v2 + 1) s18)) else fX11_isNear_6 n o v1 (v2 + 1) h))))) else fX11_isNear_6 n o v1 (v2 + 1) h))) else fX11_isNear_6 n o v1 (v2 + 1) h)))))
set_option maxHeartbeats 4000000 in
set_option maxRecDepth 100000 in
theorem wX11_isNear_6 {r0 : Int32} {h0 : Hz} (X : zX A D cy p s m args c cX11_isNear RX11 3) (hlk : meth.locks = false) (hr : meth.sig.returnType = (some .boolean)) : ∀ (n : Nat) (o : Nat) (v1 : Int32) (v2 : Int32) (h : Hz) (H : Heap) (locs : List Loc) (ls : Array Slot) (hl : lv_has ls 3 [(0, .ref o), (1, .int v1), (2, .int v2)]) (hW : zW A cy D h H) (hS : va_S A s.heap H locs) (h : fX11_isNear_6 n o v1 v2 h = some (r0, h0)), W p l e ({ frames := 1, cells := 0, slots := 0, locals := 25 } : Room) s m args below meth c H locs 0 0 (MQ below (va_Qi (fun r1 u => r1 = r0 ∧ u = h0) (zB A D cy) A) args s 0 0 A) (F0 m 6 ls []) := by
  obtain ⟨hx, hb, hts, hown, hK9, hml, hN9, hA9⟩ := id X
  intro n
  induction n with
  | zero =>
    intro o v1 v2 h H locs ls hl hW hS h
    rw [fX11_isNear_6] at h
    cases h
  | succ n ih =>
    intro o v1 v2 h H locs ls hl hW hS h
    rw [fX11_isNear_6] at h
    refine lv_iload_n hx hb dX11_isNear_6 rfl (lv_at hl 2 rfl) ?_
    refine lv_aload_n hx hb dX11_isNear_7 rfl (lv_at hl 0 rfl) ?_
    replace h := b1_some h
    obtain ⟨x1, gx1, h⟩ := h
    refine z_getI X hW gx1 kX11 (by decide) (by decide) kf_X11_145 dX11_isNear_8 ?_
    refine lv_icmp_ge (tgt := 59) hx hb dX11_isNear_11 (by decide) (fun c2 => ?_) (fun c2 => ?_)
    · replace h := it_t h c2
      refine lv_aload_n hx hb dX11_isNear_59 rfl (lv_at hl 0 rfl) ?_
      replace h := b1_some h
      obtain ⟨a3, ga3, h⟩ := h
      refine z_getA X hW ga3 kX11 (by decide) (by decide) kf_X11_100 dX11_isNear_60 ?_
      refine lv_iload_n hx hb dX11_isNear_63 rfl (lv_at hl 1 rfl) ?_
      replace h := b1_some h
      obtain ⟨x4, gx4, h⟩ := h
      refine z_aldZ X hW gx4 dX11_isNear_64 ?_
      exact z_etz X hlk hr hW hS h (by decide) (by decide) dX11_isNear_65
    · replace h := it_f h c2
      refine lv_aload_n hx hb dX11_isNear_14 rfl (lv_at hl 0 rfl) ?_
      replace h := b1_some h
      obtain ⟨a5, ga5, h⟩ := h
      refine z_getA X hW ga5 kX11 (by decide) (by decide) kf_X11_31 dX11_isNear_15 ?_
      refine lv_iload_n hx hb dX11_isNear_18 rfl (lv_at hl 2 rfl) ?_
      replace h := b1_some h
      obtain ⟨x6, gx6, h⟩ := h
      refine z_aldZ X hW gx6 dX11_isNear_19 ?_
      refine lv_if_ne (tgt := 53) hx hb dX11_isNear_20 (by decide) (fun c7 => ?_) (fun c7 => ?_)
      · replace h := it_f h c7
        refine lv_iinc (v := (v2 + 1)) (lv' := [(2, .int (v2 + 1)), (0, .ref o), (1, .int v1)]) hx hb dX11_isNear_53 hl (k := 2) rfl rfl (by decide) rfl (fun ls hl => ?_)
        refine lv_goto (tgt := 6) hx hb dX11_isNear_56 (by decide) ?_
        exact ih o v1 (v2 + 1) _ _ _ _ (lv_sub hl [1, 2, 0] rfl) hW hS h
      · replace h := it_t h c7
        refine lv_aload_n hx hb dX11_isNear_23 rfl (lv_at hl 0 rfl) ?_
        replace h := b1_some h
        obtain ⟨a8, ga8, h⟩ := h
        refine z_getA X hW ga8 kX11 (by decide) (by decide) kf_X11_9 dX11_isNear_24 ?_
        refine lv_iload_n hx hb dX11_isNear_27 rfl (lv_at hl 2 rfl) ?_
        replace h := b1_some h
        obtain ⟨x9, gx9, h⟩ := h
        refine z_aldI X hW gx9 dX11_isNear_28 ?_
        refine lv_iconst (v := 2) hx hb dX11_isNear_29 (by decide) ?_
        refine lv_icmp_ne (tgt := 53) hx hb dX11_isNear_30 (by decide) (fun c10 => ?_) (fun c10 => ?_)
        · replace h := it_f h c10
          refine lv_iinc (v := (v2 + 1)) (lv' := [(2, .int (v2 + 1)), (0, .ref o), (1, .int v1)]) hx hb dX11_isNear_53 hl (k := 2) rfl rfl (by decide) rfl (fun ls hl => ?_)
          refine lv_goto (tgt := 6) hx hb dX11_isNear_56 (by decide) ?_
          exact ih o v1 (v2 + 1) _ _ _ _ (lv_sub hl [1, 2, 0] rfl) hW hS h
        · replace h := it_t h c10
          refine lv_aload_n hx hb dX11_isNear_33 rfl (lv_at hl 0 rfl) ?_
          replace h := b1_some h
          obtain ⟨a11, ga11, h⟩ := h
          refine z_getA X hW ga11 kX11 (by decide) (by decide) kf_X11_13 dX11_isNear_34 ?_
          refine lv_iload_n hx hb dX11_isNear_37 rfl (lv_at hl 2 rfl) ?_
          replace h := b1_some h
          obtain ⟨x12, gx12, h⟩ := h
          refine z_aldI X hW gx12 dX11_isNear_38 ?_
          refine lv_aload_n hx hb dX11_isNear_39 rfl (lv_at hl 0 rfl) ?_
          replace h := b1_some h
          obtain ⟨a13, ga13, h⟩ := h
          refine z_getA X hW ga13 kX11 (by decide) (by decide) kf_X11_13 dX11_isNear_40 ?_
          refine lv_iload_n hx hb dX11_isNear_43 rfl (lv_at hl 1 rfl) ?_
          replace h := b1_some h
          obtain ⟨x14, gx14, h⟩ := h
          refine z_aldI X hW gx14 dX11_isNear_44 ?_
          refine lv_icmp_ne (tgt := 53) hx hb dX11_isNear_45 (by decide) (fun c15 => ?_) (fun c15 => ?_)
          · replace h := it_f h c15
            refine lv_iinc (v := (v2 + 1)) (lv' := [(2, .int (v2 + 1)), (0, .ref o), (1, .int v1)]) hx hb dX11_isNear_53 hl (k := 2) rfl rfl (by decide) rfl (fun ls hl => ?_)
            refine lv_goto (tgt := 6) hx hb dX11_isNear_56 (by decide) ?_
            exact ih o v1 (v2 + 1) _ _ _ _ (lv_sub hl [1, 2, 0] rfl) hW hS h
          · replace h := it_t h c15
            refine lv_aload_n hx hb dX11_isNear_48 rfl (lv_at hl 0 rfl) ?_
            refine lv_iload_n hx hb dX11_isNear_49 rfl (lv_at hl 2 rfl) ?_
            replace h := b1_some h
            obtain ⟨q16, gq16, h⟩ := h
            replace h := b2_some h
            obtain ⟨_ur17, s18, gs18, h⟩ := h
            refine z_callVv (rest := []) X hW hS (cX11_lead_met gs18) kb_X11_lead kv_X11_lead kl_X11_156 (it_v gq16).1 kX11 rfl rfl ⟨Nat.le_of_ble_eq_true rfl, Nat.le_of_ble_eq_true rfl⟩ rfl rfl (by decide) hl.1 dX11_isNear_50 ⟨(by decide), (by decide)⟩ (fun H locs hW hS => ?_)
            refine lv_iinc (v := (v2 + 1)) (lv' := [(2, .int (v2 + 1)), (0, .ref o), (1, .int v1)]) hx hb dX11_isNear_53 hl (k := 2) rfl rfl (by decide) rfl (fun ls hl => ?_)
            refine lv_goto (tgt := 6) hx hb dX11_isNear_56 (by decide) ?_
            exact ih o v1 (v2 + 1) _ _ _ _ (lv_sub hl [1, 2, 0] rfl) hW hS h

def fX11_isNear (o : Nat) (v1 : Int32) (h : Hz) : Option (Int32 × Hz) := (b1 (tg 11 o h) fun _ => (b2 (fX11_noLeads o h) fun _ s3 => fX11_isNear_6 100000 o v1 0 s3))
set_option maxHeartbeats 4000000 in
set_option maxRecDepth 100000 in
theorem wX11_isNear_0 {r0 : Int32} {h0 : Hz} (X : zX A D cy p s m args c cX11_isNear RX11 3) (hlk : meth.locks = false) (hr : meth.sig.returnType = (some .boolean)) (o : Nat) (v1 : Int32) (h : Hz) (H : Heap) (locs : List Loc) (ls : Array Slot) (hl : lv_has ls 3 [(0, .ref o), (1, .int v1)]) (hW : zW A cy D h H) (hS : va_S A s.heap H locs) (h : fX11_isNear o v1 h = some (r0, h0)) : W p l e ({ frames := 1, cells := 0, slots := 0, locals := 25 } : Room) s m args below meth c H locs 0 0 (MQ below (va_Qi (fun r1 u => r1 = r0 ∧ u = h0) (zB A D cy) A) args s 0 0 A) (F0 m 0 ls []) := by
  obtain ⟨hx, hb, hts, hown, hK9, hml, hN9, hA9⟩ := id X
  unfold fX11_isNear at h
  refine lv_aload_n hx hb dX11_isNear_0 rfl (lv_at hl 0 rfl) ?_
  replace h := b1_some h
  obtain ⟨q1, gq1, h⟩ := h
  replace h := b2_some h
  obtain ⟨_ur2, s3, gs3, h⟩ := h
  refine z_callVv (rest := []) X hW hS (cX11_noLeads_met gs3) kb_X11_noLeads kv_X11_noLeads kl_X11_153 (it_v gq1).1 kX11 rfl rfl ⟨Nat.le_of_ble_eq_true rfl, Nat.le_of_ble_eq_true rfl⟩ rfl rfl (by decide) hl.1 dX11_isNear_1 ⟨(by decide), (by decide)⟩ (fun H locs hW hS => ?_)
  refine lv_iconst (v := 0) hx hb dX11_isNear_4 (by decide) ?_
  refine lv_istore_n (lv' := [(2, .int 0), (0, .ref o), (1, .int v1)]) hx hb dX11_isNear_5 rfl hl (by decide) rfl (fun ls hl => ?_)
  exact wX11_isNear_6 X hlk hr _ o v1 0 _ _ _ _ (lv_sub hl [1, 2, 0] rfl) hW hS h

set_option maxHeartbeats 4000000 in
set_option maxRecDepth 100000 in
theorem cX11_isNear_met {l : Launch} {A : Nat → Prop} {D : va_G} {cy : Nat → ClassId} {r0 : Int32} {h0 : Hz} {o : Nat} {v1 : Int32} {h : Hz} (g : fX11_isNear o v1 h = some (r0, h0)) : Met l yX11_isNear (Cond.code yX11_isNear cX11_isNear 3 (some .boolean) :: wT) ({ frames := 1, cells := 0, slots := 0, locals := 25 } : Room) (va_Pc [.ref o, .int v1] (zS A D cy h)) (va_Qi (fun r1 u => r1 = r0 ∧ u = h0) (zB A D cy) A) 0 0 A := by
  refine Met.ofW (cc := cX11_isNear) (maxL := 3) (ret := (some .boolean)) (by decide) rfl ?_
  intro p e s m args below meth c s₁ B hml hv
  obtain ⟨rfl, hW, hK, hN, hA⟩ := hv
  have X : zX A D cy p s m _ c cX11_isNear RX11 3 := ⟨B.exec, B.bytes, fun w hw => atoms_spec (ws := Cond.code yX11_isNear cX11_isNear 3 (some .boolean) :: wT) B.pre w (List.mem_cons_of_mem _ hw), findClass_of_methodNamed B.named, hK, hml, hN, hA⟩
  have hl := lv_entry [.ref o, .int v1] (n := 3) (Nat.le_of_ble_eq_true rfl)
  rw [lg_entry_eq]
  generalize (lg_sl [.ref o, .int v1] ++ List.replicate (3 - (lg_sl [.ref o, .int v1]).length) Slot.unset).toArray = ls at hl ⊢
  have hl : lv_has ls 3 [(0, .ref o), (1, .int v1)] := hl
  exact wX11_isNear_0 X B.notSynchronized B.returns o v1 _ _ _ _ (lv_sub hl [0, 1] rfl) hW va_S.rf g

theorem dX11_isWaited_0 : decode cX11_isWaited 0 = .ok (.iconst 0, 1) := by decide +kernel
theorem dX11_isWaited_1 : decode cX11_isWaited 1 = .ok (.istore_n 2, 1) := by decide +kernel
theorem dX11_isWaited_2 : decode cX11_isWaited 2 = .ok (.iconst 0, 1) := by decide +kernel
theorem dX11_isWaited_3 : decode cX11_isWaited 3 = .ok (.istore_n 3, 1) := by decide +kernel
theorem dX11_isWaited_4 : decode cX11_isWaited 4 = .ok (.iload_n 3, 1) := by decide +kernel
theorem dX11_isWaited_5 : decode cX11_isWaited 5 = .ok (.aload_n 0, 1) := by decide +kernel
theorem dX11_isWaited_6 : decode cX11_isWaited 6 = .ok (.getfield 160, 3) := by decide +kernel
theorem dX11_isWaited_9 : decode cX11_isWaited 9 = .ok (.if_icmp .ge 29, 3) := by decide +kernel
theorem dX11_isWaited_12 : decode cX11_isWaited 12 = .ok (.iload_n 2, 1) := by decide +kernel
theorem dX11_isWaited_13 : decode cX11_isWaited 13 = .ok (.ifCond .ne 25, 3) := by decide +kernel
theorem dX11_isWaited_16 : decode cX11_isWaited 16 = .ok (.aload_n 0, 1) := by decide +kernel
theorem dX11_isWaited_17 : decode cX11_isWaited 17 = .ok (.getfield 82, 3) := by decide +kernel
theorem dX11_isWaited_20 : decode cX11_isWaited 20 = .ok (.iload_n 3, 1) := by decide +kernel
theorem dX11_isWaited_21 : decode cX11_isWaited 21 = .ok (.iaload, 1) := by decide +kernel
theorem dX11_isWaited_22 : decode cX11_isWaited 22 = .ok (.iload_n 1, 1) := by decide +kernel
theorem dX11_isWaited_23 : decode cX11_isWaited 23 = .ok (.if_icmp .ne 7, 3) := by decide +kernel
theorem dX11_isWaited_26 : decode cX11_isWaited 26 = .ok (.iconst 1, 1) := by decide +kernel
theorem dX11_isWaited_27 : decode cX11_isWaited 27 = .ok (.goto 4, 3) := by decide +kernel
theorem dX11_isWaited_30 : decode cX11_isWaited 30 = .ok (.iconst 0, 1) := by decide +kernel
theorem dX11_isWaited_31 : decode cX11_isWaited 31 = .ok (.istore_n 2, 1) := by decide +kernel
theorem dX11_isWaited_32 : decode cX11_isWaited 32 = .ok (.iinc 3 1, 3) := by decide +kernel
theorem dX11_isWaited_35 : decode cX11_isWaited 35 = .ok (.goto (-31), 3) := by decide +kernel
theorem dX11_isWaited_38 : decode cX11_isWaited 38 = .ok (.iload_n 2, 1) := by decide +kernel
theorem dX11_isWaited_39 : decode cX11_isWaited 39 = .ok (.ireturn, 1) := by decide +kernel
def fX11_isWaited_4 : Nat → Nat → Int32 → Int32 → Int32 → Hz → Option (Int32 × Hz)
  | 0, _, _, _, _, _ => none
  | n + 1, o, v1, v2, v3, h => (b1 (gI 11 29 o h) fun x1 => (if x1 ≤ v3 then rz v2 h else (if v2 = 0 then (b1 (gA 11 26 o h) fun a4 => (b1 (xI 12 a4 v3 h) fun x5 => (if x5 = v1 then fX11_isWaited_4 n o v1 1 (v3 + 1) h else fX11_isWaited_4 n o v1 0 (v3 + 1) h))) else rz v2 h)))
set_option maxHeartbeats 4000000 in
set_option maxRecDepth 100000 in
theorem wX11_isWaited_4 {r0 : Int32} {h0 : Hz} (X : zX A D cy p s m args c cX11_isWaited RX11 4) (hlk : meth.locks = false) (hr : meth.sig.returnType = (some .boolean)) : ∀ (n : Nat) (o : Nat) (v1 : Int32) (v2 : Int32) (v3 : Int32) (h : Hz) (H : Heap) (locs : List Loc) (ls : Array Slot) (hl : lv_has ls 4 [(0, .ref o), (1, .int v1), (2, .int v2), (3, .int v3)]) (hW : zW A cy D h H) (hS : va_S A s.heap H locs) (h : fX11_isWaited_4 n o v1 v2 v3 h = some (r0, h0)), W p l e ({ frames := 0, cells := 0, slots := 0, locals := 0 } : Room) s m args below meth c H locs 0 0 (MQ below (va_Qi (fun r1 u => r1 = r0 ∧ u = h0) (zB A D cy) A) args s 0 0 A) (F0 m 4 ls []) := by
  obtain ⟨hx, hb, hts, hown, hK9, hml, hN9, hA9⟩ := id X
  intro n
  induction n with
  | zero =>
    intro o v1 v2 v3 h H locs ls hl hW hS h
    rw [fX11_isWaited_4] at h
    cases h
  | succ n ih =>
    intro o v1 v2 v3 h H locs ls hl hW hS h
    rw [fX11_isWaited_4] at h
    refine lv_iload_n hx hb dX11_isWaited_4 rfl (lv_at hl 3 rfl) ?_
    refine lv_aload_n hx hb dX11_isWaited_5 rfl (lv_at hl 0 rfl) ?_
    replace h := b1_some h
    obtain ⟨x1, gx1, h⟩ := h
    refine z_getI X hW gx1 kX11 (by decide) (by decide) kf_X11_160 dX11_isWaited_6 ?_
    refine lv_icmp_ge (tgt := 38) hx hb dX11_isWaited_9 (by decide) (fun c2 => ?_) (fun c2 => ?_)
    · replace h := it_t h c2
      refine lv_iload_n hx hb dX11_isWaited_38 rfl (lv_at hl 2 rfl) ?_
      exact z_etz X hlk hr hW hS h (by decide) (by decide) dX11_isWaited_39
    · replace h := it_f h c2
      refine lv_iload_n hx hb dX11_isWaited_12 rfl (lv_at hl 2 rfl) ?_
      refine lv_if_ne (tgt := 38) hx hb dX11_isWaited_13 (by decide) (fun c3 => ?_) (fun c3 => ?_)
      · replace h := it_f h c3
        refine lv_iload_n hx hb dX11_isWaited_38 rfl (lv_at hl 2 rfl) ?_
        exact z_etz X hlk hr hW hS h (by decide) (by decide) dX11_isWaited_39
      · replace h := it_t h c3
        refine lv_aload_n hx hb dX11_isWaited_16 rfl (lv_at hl 0 rfl) ?_
        replace h := b1_some h
        obtain ⟨a4, ga4, h⟩ := h
        refine z_getA X hW ga4 kX11 (by decide) (by decide) kf_X11_82 dX11_isWaited_17 ?_
        refine lv_iload_n hx hb dX11_isWaited_20 rfl (lv_at hl 3 rfl) ?_
        replace h := b1_some h
        obtain ⟨x5, gx5, h⟩ := h
        refine z_aldI X hW gx5 dX11_isWaited_21 ?_
        refine lv_iload_n hx hb dX11_isWaited_22 rfl (lv_at hl 1 rfl) ?_
        refine lv_icmp_ne (tgt := 30) hx hb dX11_isWaited_23 (by decide) (fun c6 => ?_) (fun c6 => ?_)
        · replace h := it_f h c6
          refine lv_iconst (v := 0) hx hb dX11_isWaited_30 (by decide) ?_
          refine lv_istore_n (lv' := [(2, .int 0), (0, .ref o), (1, .int v1), (3, .int v3)]) hx hb dX11_isWaited_31 rfl hl (by decide) rfl (fun ls hl => ?_)
          refine lv_iinc (v := (v3 + 1)) (lv' := [(3, .int (v3 + 1)), (2, .int 0), (0, .ref o), (1, .int v1)]) hx hb dX11_isWaited_32 hl (k := 3) rfl rfl (by decide) rfl (fun ls hl => ?_)
          refine lv_goto (tgt := 4) hx hb dX11_isWaited_35 (by decide) ?_
          exact ih o v1 0 (v3 + 1) _ _ _ _ (lv_sub hl [2, 3, 1, 0] rfl) hW hS h
        · replace h := it_t h c6
          refine lv_iconst (v := 1) hx hb dX11_isWaited_26 (by decide) ?_
          refine lv_goto (tgt := 31) hx hb dX11_isWaited_27 (by decide) ?_
          refine lv_istore_n (lv' := [(2, .int 1), (0, .ref o), (1, .int v1), (3, .int v3)]) hx hb dX11_isWaited_31 rfl hl (by decide) rfl (fun ls hl => ?_)
          refine lv_iinc (v := (v3 + 1)) (lv' := [(3, .int (v3 + 1)), (2, .int 1), (0, .ref o), (1, .int v1)]) hx hb dX11_isWaited_32 hl (k := 3) rfl rfl (by decide) rfl (fun ls hl => ?_)
          refine lv_goto (tgt := 4) hx hb dX11_isWaited_35 (by decide) ?_
          exact ih o v1 1 (v3 + 1) _ _ _ _ (lv_sub hl [2, 3, 1, 0] rfl) hW hS h

def fX11_isWaited (o : Nat) (v1 : Int32) (h : Hz) : Option (Int32 × Hz) := fX11_isWaited_4 100000 o v1 0 0 h
set_option maxHeartbeats 4000000 in
set_option maxRecDepth 100000 in
theorem wX11_isWaited_0 {r0 : Int32} {h0 : Hz} (X : zX A D cy p s m args c cX11_isWaited RX11 4) (hlk : meth.locks = false) (hr : meth.sig.returnType = (some .boolean)) (o : Nat) (v1 : Int32) (h : Hz) (H : Heap) (locs : List Loc) (ls : Array Slot) (hl : lv_has ls 4 [(0, .ref o), (1, .int v1)]) (hW : zW A cy D h H) (hS : va_S A s.heap H locs) (h : fX11_isWaited o v1 h = some (r0, h0)) : W p l e ({ frames := 0, cells := 0, slots := 0, locals := 0 } : Room) s m args below meth c H locs 0 0 (MQ below (va_Qi (fun r1 u => r1 = r0 ∧ u = h0) (zB A D cy) A) args s 0 0 A) (F0 m 0 ls []) := by
  obtain ⟨hx, hb, hts, hown, hK9, hml, hN9, hA9⟩ := id X
  unfold fX11_isWaited at h
  refine lv_iconst (v := 0) hx hb dX11_isWaited_0 (by decide) ?_
  refine lv_istore_n (lv' := [(2, .int 0), (0, .ref o), (1, .int v1)]) hx hb dX11_isWaited_1 rfl hl (by decide) rfl (fun ls hl => ?_)
  refine lv_iconst (v := 0) hx hb dX11_isWaited_2 (by decide) ?_
  refine lv_istore_n (lv' := [(3, .int 0), (2, .int 0), (0, .ref o), (1, .int v1)]) hx hb dX11_isWaited_3 rfl hl (by decide) rfl (fun ls hl => ?_)
  exact wX11_isWaited_4 X hlk hr _ o v1 0 0 _ _ _ _ (lv_sub hl [2, 3, 1, 0] rfl) hW hS h

set_option maxHeartbeats 4000000 in
set_option maxRecDepth 100000 in
theorem cX11_isWaited_met {l : Launch} {A : Nat → Prop} {D : va_G} {cy : Nat → ClassId} {r0 : Int32} {h0 : Hz} {o : Nat} {v1 : Int32} {h : Hz} (g : fX11_isWaited o v1 h = some (r0, h0)) : Met l yX11_isWaited (Cond.code yX11_isWaited cX11_isWaited 4 (some .boolean) :: wT) ({ frames := 0, cells := 0, slots := 0, locals := 0 } : Room) (va_Pc [.ref o, .int v1] (zS A D cy h)) (va_Qi (fun r1 u => r1 = r0 ∧ u = h0) (zB A D cy) A) 0 0 A := by
  refine Met.ofW (cc := cX11_isWaited) (maxL := 4) (ret := (some .boolean)) (by decide) rfl ?_
  intro p e s m args below meth c s₁ B hml hv
  obtain ⟨rfl, hW, hK, hN, hA⟩ := hv
  have X : zX A D cy p s m _ c cX11_isWaited RX11 4 := ⟨B.exec, B.bytes, fun w hw => atoms_spec (ws := Cond.code yX11_isWaited cX11_isWaited 4 (some .boolean) :: wT) B.pre w (List.mem_cons_of_mem _ hw), findClass_of_methodNamed B.named, hK, hml, hN, hA⟩
  have hl := lv_entry [.ref o, .int v1] (n := 4) (Nat.le_of_ble_eq_true rfl)
  rw [lg_entry_eq]
  generalize (lg_sl [.ref o, .int v1] ++ List.replicate (4 - (lg_sl [.ref o, .int v1]).length) Slot.unset).toArray = ls at hl ⊢
  have hl : lv_has ls 4 [(0, .ref o), (1, .int v1)] := hl
  exact wX11_isWaited_0 X B.notSynchronized B.returns o v1 _ _ _ _ (lv_sub hl [0, 1] rfl) hW va_S.rf g

theorem dX11_isRooted_0 : decode cX11_isRooted 0 = .ok (.aload_n 0, 1) := by decide +kernel
theorem dX11_isRooted_1 : decode cX11_isRooted 1 = .ok (.iload_n 1, 1) := by decide +kernel
theorem dX11_isRooted_2 : decode cX11_isRooted 2 = .ok (.invokevirtual 163, 3) := by decide +kernel
theorem dX11_isRooted_5 : decode cX11_isRooted 5 = .ok (.ifCond .ne 11, 3) := by decide +kernel
theorem dX11_isRooted_8 : decode cX11_isRooted 8 = .ok (.aload_n 0, 1) := by decide +kernel
theorem dX11_isRooted_9 : decode cX11_isRooted 9 = .ok (.iload_n 1, 1) := by decide +kernel
theorem dX11_isRooted_10 : decode cX11_isRooted 10 = .ok (.invokevirtual 167, 3) := by decide +kernel
theorem dX11_isRooted_13 : decode cX11_isRooted 13 = .ok (.ifCond .eq 7, 3) := by decide +kernel
theorem dX11_isRooted_16 : decode cX11_isRooted 16 = .ok (.iconst 1, 1) := by decide +kernel
theorem dX11_isRooted_17 : decode cX11_isRooted 17 = .ok (.goto 4, 3) := by decide +kernel
theorem dX11_isRooted_20 : decode cX11_isRooted 20 = .ok (.iconst 0, 1) := by decide +kernel
theorem dX11_isRooted_21 : decode cX11_isRooted 21 = .ok (.ireturn, 1) := by decide +kernel
def fX11_isRooted (o : Nat) (v1 : Int32) (h : Hz) : Option (Int32 × Hz) := (b1 (tg 11 o h) fun _ => (b2 (fX11_isWaited o v1 h) fun x2 s3 => (if x2 = 0 then (b1 (tg 11 o s3) fun _ => (b2 (fX11_isNear o v1 s3) fun x6 s7 => (if x6 = 0 then rz 0 s7 else rz 1 s7))) else rz 1 s3)))
set_option maxHeartbeats 4000000 in
set_option maxRecDepth 100000 in
theorem wX11_isRooted_0 {r0 : Int32} {h0 : Hz} (X : zX A D cy p s m args c cX11_isRooted RX11 2) (hlk : meth.locks = false) (hr : meth.sig.returnType = (some .boolean)) (o : Nat) (v1 : Int32) (h : Hz) (H : Heap) (locs : List Loc) (ls : Array Slot) (hl : lv_has ls 2 [(0, .ref o), (1, .int v1)]) (hW : zW A cy D h H) (hS : va_S A s.heap H locs) (h : fX11_isRooted o v1 h = some (r0, h0)) : W p l e ({ frames := 2, cells := 0, slots := 0, locals := 47 } : Room) s m args below meth c H locs 0 0 (MQ below (va_Qi (fun r1 u => r1 = r0 ∧ u = h0) (zB A D cy) A) args s 0 0 A) (F0 m 0 ls []) := by
  obtain ⟨hx, hb, hts, hown, hK9, hml, hN9, hA9⟩ := id X
  unfold fX11_isRooted at h
  refine lv_aload_n hx hb dX11_isRooted_0 rfl (lv_at hl 0 rfl) ?_
  refine lv_iload_n hx hb dX11_isRooted_1 rfl (lv_at hl 1 rfl) ?_
  replace h := b1_some h
  obtain ⟨q1, gq1, h⟩ := h
  replace h := b2_some h
  obtain ⟨x2, s3, gs3, h⟩ := h
  refine z_callVi (rest := []) X hW hS (cX11_isWaited_met gs3) kb_X11_isWaited kv_X11_isWaited kl_X11_163 (it_v gq1).1 kX11 rfl rfl ⟨Nat.le_of_ble_eq_true rfl, Nat.le_of_ble_eq_true rfl⟩ rfl rfl (by decide) hl.1 dX11_isRooted_2 ⟨(by decide), (by decide)⟩ (fun H locs hW hS => ?_)
  refine lv_if_ne (tgt := 16) hx hb dX11_isRooted_5 (by decide) (fun c4 => ?_) (fun c4 => ?_)
  · replace h := it_f h c4
    refine lv_iconst (v := 1) hx hb dX11_isRooted_16 (by decide) ?_
    refine lv_goto (tgt := 21) hx hb dX11_isRooted_17 (by decide) ?_
    exact z_etz X hlk hr hW hS h (by decide) (by decide) dX11_isRooted_21
  · replace h := it_t h c4
    refine lv_aload_n hx hb dX11_isRooted_8 rfl (lv_at hl 0 rfl) ?_
    refine lv_iload_n hx hb dX11_isRooted_9 rfl (lv_at hl 1 rfl) ?_
    replace h := b1_some h
    obtain ⟨q5, gq5, h⟩ := h
    replace h := b2_some h
    obtain ⟨x6, s7, gs7, h⟩ := h
    refine z_callVi (rest := []) X hW hS (cX11_isNear_met gs7) kb_X11_isNear kv_X11_isNear kl_X11_167 (it_v gq5).1 kX11 rfl rfl ⟨Nat.le_of_ble_eq_true rfl, Nat.le_of_ble_eq_true rfl⟩ rfl rfl (by decide) hl.1 dX11_isRooted_10 ⟨(by decide), (by decide)⟩ (fun H locs hW hS => ?_)
    refine lv_if_eq (tgt := 20) hx hb dX11_isRooted_13 (by decide) (fun c8 => ?_) (fun c8 => ?_)
    · replace h := it_t h c8
      refine lv_iconst (v := 0) hx hb dX11_isRooted_20 (by decide) ?_
      exact z_etz X hlk hr hW hS h (by decide) (by decide) dX11_isRooted_21
    · replace h := it_f h c8
      refine lv_iconst (v := 1) hx hb dX11_isRooted_16 (by decide) ?_
      refine lv_goto (tgt := 21) hx hb dX11_isRooted_17 (by decide) ?_
      exact z_etz X hlk hr hW hS h (by decide) (by decide) dX11_isRooted_21

set_option maxHeartbeats 4000000 in
set_option maxRecDepth 100000 in
theorem cX11_isRooted_met {l : Launch} {A : Nat → Prop} {D : va_G} {cy : Nat → ClassId} {r0 : Int32} {h0 : Hz} {o : Nat} {v1 : Int32} {h : Hz} (g : fX11_isRooted o v1 h = some (r0, h0)) : Met l yX11_isRooted (Cond.code yX11_isRooted cX11_isRooted 2 (some .boolean) :: wT) ({ frames := 2, cells := 0, slots := 0, locals := 47 } : Room) (va_Pc [.ref o, .int v1] (zS A D cy h)) (va_Qi (fun r1 u => r1 = r0 ∧ u = h0) (zB A D cy) A) 0 0 A := by
  refine Met.ofW (cc := cX11_isRooted) (maxL := 2) (ret := (some .boolean)) (by decide) rfl ?_
  intro p e s m args below meth c s₁ B hml hv
  obtain ⟨rfl, hW, hK, hN, hA⟩ := hv
  have X : zX A D cy p s m _ c cX11_isRooted RX11 2 := ⟨B.exec, B.bytes, fun w hw => atoms_spec (ws := Cond.code yX11_isRooted cX11_isRooted 2 (some .boolean) :: wT) B.pre w (List.mem_cons_of_mem _ hw), findClass_of_methodNamed B.named, hK, hml, hN, hA⟩
  have hl := lv_entry [.ref o, .int v1] (n := 2) (Nat.le_of_ble_eq_true rfl)
  rw [lg_entry_eq]
  generalize (lg_sl [.ref o, .int v1] ++ List.replicate (2 - (lg_sl [.ref o, .int v1]).length) Slot.unset).toArray = ls at hl ⊢
  have hl : lv_has ls 2 [(0, .ref o), (1, .int v1)] := hl
  exact wX11_isRooted_0 X B.notSynchronized B.returns o v1 _ _ _ _ (lv_sub hl [0, 1] rfl) hW va_S.rf g

theorem dX11_holdsOut_0 : decode cX11_holdsOut 0 = .ok (.aload_n 0, 1) := by decide +kernel
theorem dX11_holdsOut_1 : decode cX11_holdsOut 1 = .ok (.getfield 31, 3) := by decide +kernel
theorem dX11_holdsOut_4 : decode cX11_holdsOut 4 = .ok (.iload_n 1, 1) := by decide +kernel
theorem dX11_holdsOut_5 : decode cX11_holdsOut 5 = .ok (.baload, 1) := by decide +kernel
theorem dX11_holdsOut_6 : decode cX11_holdsOut 6 = .ok (.ifCond .ne 35, 3) := by decide +kernel
theorem dX11_holdsOut_9 : decode cX11_holdsOut 9 = .ok (.aload_n 0, 1) := by decide +kernel
theorem dX11_holdsOut_10 : decode cX11_holdsOut 10 = .ok (.getfield 9, 3) := by decide +kernel
theorem dX11_holdsOut_13 : decode cX11_holdsOut 13 = .ok (.iload_n 1, 1) := by decide +kernel
theorem dX11_holdsOut_14 : decode cX11_holdsOut 14 = .ok (.iaload, 1) := by decide +kernel
theorem dX11_holdsOut_15 : decode cX11_holdsOut 15 = .ok (.iconst 3, 1) := by decide +kernel
theorem dX11_holdsOut_16 : decode cX11_holdsOut 16 = .ok (.if_icmp .eq 25, 3) := by decide +kernel
theorem dX11_holdsOut_19 : decode cX11_holdsOut 19 = .ok (.aload_n 0, 1) := by decide +kernel
theorem dX11_holdsOut_20 : decode cX11_holdsOut 20 = .ok (.getfield 22, 3) := by decide +kernel
theorem dX11_holdsOut_23 : decode cX11_holdsOut 23 = .ok (.iload_n 1, 1) := by decide +kernel
theorem dX11_holdsOut_24 : decode cX11_holdsOut 24 = .ok (.iaload, 1) := by decide +kernel
theorem dX11_holdsOut_25 : decode cX11_holdsOut 25 = .ok (.ifCond .le 16, 3) := by decide +kernel
theorem dX11_holdsOut_28 : decode cX11_holdsOut 28 = .ok (.aload_n 0, 1) := by decide +kernel
theorem dX11_holdsOut_29 : decode cX11_holdsOut 29 = .ok (.getfield 35, 3) := by decide +kernel
theorem dX11_holdsOut_32 : decode cX11_holdsOut 32 = .ok (.iload_n 1, 1) := by decide +kernel
theorem dX11_holdsOut_33 : decode cX11_holdsOut 33 = .ok (.baload, 1) := by decide +kernel
theorem dX11_holdsOut_34 : decode cX11_holdsOut 34 = .ok (.ifCond .ne 7, 3) := by decide +kernel
theorem dX11_holdsOut_37 : decode cX11_holdsOut 37 = .ok (.iconst 1, 1) := by decide +kernel
theorem dX11_holdsOut_38 : decode cX11_holdsOut 38 = .ok (.goto 4, 3) := by decide +kernel
theorem dX11_holdsOut_41 : decode cX11_holdsOut 41 = .ok (.iconst 0, 1) := by decide +kernel
theorem dX11_holdsOut_42 : decode cX11_holdsOut 42 = .ok (.ireturn, 1) := by decide +kernel
def fX11_holdsOut (o : Nat) (v1 : Int32) (h : Hz) : Option (Int32 × Hz) := (b1 (gA 11 7 o h) fun a1 => (b1 (xI 14 a1 v1 h) fun x2 => (if x2 = 0 then (b1 (gA 11 0 o h) fun a4 => (b1 (xI 12 a4 v1 h) fun x5 => (if x5 = 3 then rz 0 h else (b1 (gA 11 4 o h) fun a7 => (b1 (xI 12 a7 v1 h) fun x8 => (if x8 ≤ 0 then rz 0 h else (b1 (gA 11 8 o h) fun a10 => (b1 (xI 14 a10 v1 h) fun x11 => (if x11 = 0 then rz 1 h else rz 0 h))))))))) else rz 0 h)))
set_option maxHeartbeats 4000000 in
set_option maxRecDepth 100000 in
theorem wX11_holdsOut_0 {r0 : Int32} {h0 : Hz} (X : zX A D cy p s m args c cX11_holdsOut RX11 2) (hlk : meth.locks = false) (hr : meth.sig.returnType = (some .boolean)) (o : Nat) (v1 : Int32) (h : Hz) (H : Heap) (locs : List Loc) (ls : Array Slot) (hl : lv_has ls 2 [(0, .ref o), (1, .int v1)]) (hW : zW A cy D h H) (hS : va_S A s.heap H locs) (h : fX11_holdsOut o v1 h = some (r0, h0)) : W p l e ({ frames := 0, cells := 0, slots := 0, locals := 0 } : Room) s m args below meth c H locs 0 0 (MQ below (va_Qi (fun r1 u => r1 = r0 ∧ u = h0) (zB A D cy) A) args s 0 0 A) (F0 m 0 ls []) := by
  obtain ⟨hx, hb, hts, hown, hK9, hml, hN9, hA9⟩ := id X
  unfold fX11_holdsOut at h
  refine lv_aload_n hx hb dX11_holdsOut_0 rfl (lv_at hl 0 rfl) ?_
  replace h := b1_some h
  obtain ⟨a1, ga1, h⟩ := h
  refine z_getA X hW ga1 kX11 (by decide) (by decide) kf_X11_31 dX11_holdsOut_1 ?_
  refine lv_iload_n hx hb dX11_holdsOut_4 rfl (lv_at hl 1 rfl) ?_
  replace h := b1_some h
  obtain ⟨x2, gx2, h⟩ := h
  refine z_aldZ X hW gx2 dX11_holdsOut_5 ?_
  refine lv_if_ne (tgt := 41) hx hb dX11_holdsOut_6 (by decide) (fun c3 => ?_) (fun c3 => ?_)
  · replace h := it_f h c3
    refine lv_iconst (v := 0) hx hb dX11_holdsOut_41 (by decide) ?_
    exact z_etz X hlk hr hW hS h (by decide) (by decide) dX11_holdsOut_42
  · replace h := it_t h c3
    refine lv_aload_n hx hb dX11_holdsOut_9 rfl (lv_at hl 0 rfl) ?_
    replace h := b1_some h
    obtain ⟨a4, ga4, h⟩ := h
    refine z_getA X hW ga4 kX11 (by decide) (by decide) kf_X11_9 dX11_holdsOut_10 ?_
    refine lv_iload_n hx hb dX11_holdsOut_13 rfl (lv_at hl 1 rfl) ?_
    replace h := b1_some h
    obtain ⟨x5, gx5, h⟩ := h
    refine z_aldI X hW gx5 dX11_holdsOut_14 ?_
    refine lv_iconst (v := 3) hx hb dX11_holdsOut_15 (by decide) ?_
    refine lv_icmp_eq (tgt := 41) hx hb dX11_holdsOut_16 (by decide) (fun c6 => ?_) (fun c6 => ?_)
    · replace h := it_t h c6
      refine lv_iconst (v := 0) hx hb dX11_holdsOut_41 (by decide) ?_
      exact z_etz X hlk hr hW hS h (by decide) (by decide) dX11_holdsOut_42
    · replace h := it_f h c6
      refine lv_aload_n hx hb dX11_holdsOut_19 rfl (lv_at hl 0 rfl) ?_
      replace h := b1_some h
      obtain ⟨a7, ga7, h⟩ := h
      refine z_getA X hW ga7 kX11 (by decide) (by decide) kf_X11_22 dX11_holdsOut_20 ?_
      refine lv_iload_n hx hb dX11_holdsOut_23 rfl (lv_at hl 1 rfl) ?_
      replace h := b1_some h
      obtain ⟨x8, gx8, h⟩ := h
      refine z_aldI X hW gx8 dX11_holdsOut_24 ?_
      refine lv_if_le (tgt := 41) hx hb dX11_holdsOut_25 (by decide) (fun c9 => ?_) (fun c9 => ?_)
      · replace h := it_t h c9
        refine lv_iconst (v := 0) hx hb dX11_holdsOut_41 (by decide) ?_
        exact z_etz X hlk hr hW hS h (by decide) (by decide) dX11_holdsOut_42
      · replace h := it_f h c9
        refine lv_aload_n hx hb dX11_holdsOut_28 rfl (lv_at hl 0 rfl) ?_
        replace h := b1_some h
        obtain ⟨a10, ga10, h⟩ := h
        refine z_getA X hW ga10 kX11 (by decide) (by decide) kf_X11_35 dX11_holdsOut_29 ?_
        refine lv_iload_n hx hb dX11_holdsOut_32 rfl (lv_at hl 1 rfl) ?_
        replace h := b1_some h
        obtain ⟨x11, gx11, h⟩ := h
        refine z_aldZ X hW gx11 dX11_holdsOut_33 ?_
        refine lv_if_ne (tgt := 41) hx hb dX11_holdsOut_34 (by decide) (fun c12 => ?_) (fun c12 => ?_)
        · replace h := it_f h c12
          refine lv_iconst (v := 0) hx hb dX11_holdsOut_41 (by decide) ?_
          exact z_etz X hlk hr hW hS h (by decide) (by decide) dX11_holdsOut_42
        · replace h := it_t h c12
          refine lv_iconst (v := 1) hx hb dX11_holdsOut_37 (by decide) ?_
          refine lv_goto (tgt := 42) hx hb dX11_holdsOut_38 (by decide) ?_
          exact z_etz X hlk hr hW hS h (by decide) (by decide) dX11_holdsOut_42

set_option maxHeartbeats 4000000 in
set_option maxRecDepth 100000 in
theorem cX11_holdsOut_met {l : Launch} {A : Nat → Prop} {D : va_G} {cy : Nat → ClassId} {r0 : Int32} {h0 : Hz} {o : Nat} {v1 : Int32} {h : Hz} (g : fX11_holdsOut o v1 h = some (r0, h0)) : Met l yX11_holdsOut (Cond.code yX11_holdsOut cX11_holdsOut 2 (some .boolean) :: wT) ({ frames := 0, cells := 0, slots := 0, locals := 0 } : Room) (va_Pc [.ref o, .int v1] (zS A D cy h)) (va_Qi (fun r1 u => r1 = r0 ∧ u = h0) (zB A D cy) A) 0 0 A := by
  refine Met.ofW (cc := cX11_holdsOut) (maxL := 2) (ret := (some .boolean)) (by decide) rfl ?_
  intro p e s m args below meth c s₁ B hml hv
  obtain ⟨rfl, hW, hK, hN, hA⟩ := hv
  have X : zX A D cy p s m _ c cX11_holdsOut RX11 2 := ⟨B.exec, B.bytes, fun w hw => atoms_spec (ws := Cond.code yX11_holdsOut cX11_holdsOut 2 (some .boolean) :: wT) B.pre w (List.mem_cons_of_mem _ hw), findClass_of_methodNamed B.named, hK, hml, hN, hA⟩
  have hl := lv_entry [.ref o, .int v1] (n := 2) (Nat.le_of_ble_eq_true rfl)
  rw [lg_entry_eq]
  generalize (lg_sl [.ref o, .int v1] ++ List.replicate (2 - (lg_sl [.ref o, .int v1]).length) Slot.unset).toArray = ls at hl ⊢
  have hl : lv_has ls 2 [(0, .ref o), (1, .int v1)] := hl
  exact wX11_holdsOut_0 X B.notSynchronized B.returns o v1 _ _ _ _ (lv_sub hl [0, 1] rfl) hW va_S.rf g

theorem dX11_gateOf_0 : decode cX11_gateOf 0 = .ok (.iconst 0, 1) := by decide +kernel
theorem dX11_gateOf_1 : decode cX11_gateOf 1 = .ok (.istore_n 3, 1) := by decide +kernel
theorem dX11_gateOf_2 : decode cX11_gateOf 2 = .ok (.iload_n 3, 1) := by decide +kernel
theorem dX11_gateOf_3 : decode cX11_gateOf 3 = .ok (.aload_n 0, 1) := by decide +kernel
theorem dX11_gateOf_4 : decode cX11_gateOf 4 = .ok (.getfield 145, 3) := by decide +kernel
theorem dX11_gateOf_7 : decode cX11_gateOf 7 = .ok (.if_icmp .ge 50, 3) := by decide +kernel
theorem dX11_gateOf_10 : decode cX11_gateOf 10 = .ok (.aload_n 0, 1) := by decide +kernel
theorem dX11_gateOf_11 : decode cX11_gateOf 11 = .ok (.getfield 31, 3) := by decide +kernel
theorem dX11_gateOf_14 : decode cX11_gateOf 14 = .ok (.iload_n 3, 1) := by decide +kernel
theorem dX11_gateOf_15 : decode cX11_gateOf 15 = .ok (.baload, 1) := by decide +kernel
theorem dX11_gateOf_16 : decode cX11_gateOf 16 = .ok (.ifCond .ne 35, 3) := by decide +kernel
theorem dX11_gateOf_19 : decode cX11_gateOf 19 = .ok (.aload_n 0, 1) := by decide +kernel
theorem dX11_gateOf_20 : decode cX11_gateOf 20 = .ok (.getfield 9, 3) := by decide +kernel
theorem dX11_gateOf_23 : decode cX11_gateOf 23 = .ok (.iload_n 3, 1) := by decide +kernel
theorem dX11_gateOf_24 : decode cX11_gateOf 24 = .ok (.iaload, 1) := by decide +kernel
theorem dX11_gateOf_25 : decode cX11_gateOf 25 = .ok (.iconst 3, 1) := by decide +kernel
theorem dX11_gateOf_26 : decode cX11_gateOf 26 = .ok (.if_icmp .ne 25, 3) := by decide +kernel
theorem dX11_gateOf_29 : decode cX11_gateOf 29 = .ok (.aload_n 0, 1) := by decide +kernel
theorem dX11_gateOf_30 : decode cX11_gateOf 30 = .ok (.getfield 13, 3) := by decide +kernel
theorem dX11_gateOf_33 : decode cX11_gateOf 33 = .ok (.iload_n 3, 1) := by decide +kernel
theorem dX11_gateOf_34 : decode cX11_gateOf 34 = .ok (.iaload, 1) := by decide +kernel
theorem dX11_gateOf_35 : decode cX11_gateOf 35 = .ok (.iload_n 1, 1) := by decide +kernel
theorem dX11_gateOf_36 : decode cX11_gateOf 36 = .ok (.if_icmp .ne 15, 3) := by decide +kernel
theorem dX11_gateOf_39 : decode cX11_gateOf 39 = .ok (.aload_n 0, 1) := by decide +kernel
theorem dX11_gateOf_40 : decode cX11_gateOf 40 = .ok (.getfield 25, 3) := by decide +kernel
theorem dX11_gateOf_43 : decode cX11_gateOf 43 = .ok (.iload_n 3, 1) := by decide +kernel
theorem dX11_gateOf_44 : decode cX11_gateOf 44 = .ok (.iaload, 1) := by decide +kernel
theorem dX11_gateOf_45 : decode cX11_gateOf 45 = .ok (.iload_n 2, 1) := by decide +kernel
theorem dX11_gateOf_46 : decode cX11_gateOf 46 = .ok (.if_icmp .ne 5, 3) := by decide +kernel
theorem dX11_gateOf_49 : decode cX11_gateOf 49 = .ok (.iload_n 3, 1) := by decide +kernel
theorem dX11_gateOf_50 : decode cX11_gateOf 50 = .ok (.ireturn, 1) := by decide +kernel
theorem dX11_gateOf_51 : decode cX11_gateOf 51 = .ok (.iinc 3 1, 3) := by decide +kernel
theorem dX11_gateOf_54 : decode cX11_gateOf 54 = .ok (.goto (-52), 3) := by decide +kernel
theorem dX11_gateOf_57 : decode cX11_gateOf 57 = .ok (.iconst (-1), 1) := by decide +kernel
theorem dX11_gateOf_58 : decode cX11_gateOf 58 = .ok (.ireturn, 1) := by decide +kernel
def fX11_gateOf_2 : Nat → Nat → Int32 → Int32 → Int32 → Hz → Option (Int32 × Hz)
  | 0, _, _, _, _, _ => none
  | n + 1, o, v1, v2, v3, h => (b1 (gI 11 9 o h) fun x1 => (if x1 ≤ v3 then some ((-1), h) else (b1 (gA 11 7 o h) fun a3 => (b1 (xI 14 a3 v3 h) fun x4 => (if x4 = 0 then (b1 (gA 11 0 o h) fun a6 => (b1 (xI 12 a6 v3 h) fun x7 => (if x7 = 3 then (b1 (gA 11 1 o h) fun a9 => (b1 (xI 12 a9 v3 h) fun x10 => (if x10 = v1 then (b1 (gA 11 5 o h) fun a12 => (b1 (xI 12 a12 v3 h) fun x13 => (if x13 = v2 then some (v3, h) else fX11_gateOf_2 n o v1 v2 (v3 + 1) h))) else fX11_gateOf_2 n o v1 v2 (v3 + 1) h))) else fX11_gateOf_2 n o v1 v2 (v3 + 1) h))) else fX11_gateOf_2 n o v1 v2 (v3 + 1) h)))))
set_option maxHeartbeats 4000000 in
set_option maxRecDepth 100000 in
theorem wX11_gateOf_2 {r0 : Int32} {h0 : Hz} (X : zX A D cy p s m args c cX11_gateOf RX11 4) (hlk : meth.locks = false) (hr : meth.sig.returnType = (some .int)) : ∀ (n : Nat) (o : Nat) (v1 : Int32) (v2 : Int32) (v3 : Int32) (h : Hz) (H : Heap) (locs : List Loc) (ls : Array Slot) (hl : lv_has ls 4 [(0, .ref o), (1, .int v1), (2, .int v2), (3, .int v3)]) (hW : zW A cy D h H) (hS : va_S A s.heap H locs) (h : fX11_gateOf_2 n o v1 v2 v3 h = some (r0, h0)), W p l e ({ frames := 0, cells := 0, slots := 0, locals := 0 } : Room) s m args below meth c H locs 0 0 (MQ below (va_Qi (fun r1 u => r1 = r0 ∧ u = h0) (zB A D cy) A) args s 0 0 A) (F0 m 2 ls []) := by
  obtain ⟨hx, hb, hts, hown, hK9, hml, hN9, hA9⟩ := id X
  intro n
  induction n with
  | zero =>
    intro o v1 v2 v3 h H locs ls hl hW hS h
    rw [fX11_gateOf_2] at h
    cases h
  | succ n ih =>
    intro o v1 v2 v3 h H locs ls hl hW hS h
    rw [fX11_gateOf_2] at h
    refine lv_iload_n hx hb dX11_gateOf_2 rfl (lv_at hl 3 rfl) ?_
    refine lv_aload_n hx hb dX11_gateOf_3 rfl (lv_at hl 0 rfl) ?_
    replace h := b1_some h
    obtain ⟨x1, gx1, h⟩ := h
    refine z_getI X hW gx1 kX11 (by decide) (by decide) kf_X11_145 dX11_gateOf_4 ?_
    refine lv_icmp_ge (tgt := 57) hx hb dX11_gateOf_7 (by decide) (fun c2 => ?_) (fun c2 => ?_)
    · replace h := it_t h c2
      refine lv_iconst (v := (-1)) hx hb dX11_gateOf_57 (by decide) ?_
      exact z_eti X hlk hr hW hS h (by decide) (by decide) dX11_gateOf_58
    · replace h := it_f h c2
      refine lv_aload_n hx hb dX11_gateOf_10 rfl (lv_at hl 0 rfl) ?_
      replace h := b1_some h
      obtain ⟨a3, ga3, h⟩ := h
      refine z_getA X hW ga3 kX11 (by decide) (by decide) kf_X11_31 dX11_gateOf_11 ?_
      refine lv_iload_n hx hb dX11_gateOf_14 rfl (lv_at hl 3 rfl) ?_
      replace h := b1_some h
      obtain ⟨x4, gx4, h⟩ := h
      refine z_aldZ X hW gx4 dX11_gateOf_15 ?_
      refine lv_if_ne (tgt := 51) hx hb dX11_gateOf_16 (by decide) (fun c5 => ?_) (fun c5 => ?_)
      · replace h := it_f h c5
        refine lv_iinc (v := (v3 + 1)) (lv' := [(3, .int (v3 + 1)), (0, .ref o), (1, .int v1), (2, .int v2)]) hx hb dX11_gateOf_51 hl (k := 3) rfl rfl (by decide) rfl (fun ls hl => ?_)
        refine lv_goto (tgt := 2) hx hb dX11_gateOf_54 (by decide) ?_
        exact ih o v1 v2 (v3 + 1) _ _ _ _ (lv_sub hl [1, 2, 3, 0] rfl) hW hS h
      · replace h := it_t h c5
        refine lv_aload_n hx hb dX11_gateOf_19 rfl (lv_at hl 0 rfl) ?_
        replace h := b1_some h
        obtain ⟨a6, ga6, h⟩ := h
        refine z_getA X hW ga6 kX11 (by decide) (by decide) kf_X11_9 dX11_gateOf_20 ?_
        refine lv_iload_n hx hb dX11_gateOf_23 rfl (lv_at hl 3 rfl) ?_
        replace h := b1_some h
        obtain ⟨x7, gx7, h⟩ := h
        refine z_aldI X hW gx7 dX11_gateOf_24 ?_
        refine lv_iconst (v := 3) hx hb dX11_gateOf_25 (by decide) ?_
        refine lv_icmp_ne (tgt := 51) hx hb dX11_gateOf_26 (by decide) (fun c8 => ?_) (fun c8 => ?_)
        · replace h := it_f h c8
          refine lv_iinc (v := (v3 + 1)) (lv' := [(3, .int (v3 + 1)), (0, .ref o), (1, .int v1), (2, .int v2)]) hx hb dX11_gateOf_51 hl (k := 3) rfl rfl (by decide) rfl (fun ls hl => ?_)
          refine lv_goto (tgt := 2) hx hb dX11_gateOf_54 (by decide) ?_
          exact ih o v1 v2 (v3 + 1) _ _ _ _ (lv_sub hl [1, 2, 3, 0] rfl) hW hS h
        · replace h := it_t h c8
          refine lv_aload_n hx hb dX11_gateOf_29 rfl (lv_at hl 0 rfl) ?_
          replace h := b1_some h
          obtain ⟨a9, ga9, h⟩ := h
          refine z_getA X hW ga9 kX11 (by decide) (by decide) kf_X11_13 dX11_gateOf_30 ?_
          refine lv_iload_n hx hb dX11_gateOf_33 rfl (lv_at hl 3 rfl) ?_
          replace h := b1_some h
          obtain ⟨x10, gx10, h⟩ := h
          refine z_aldI X hW gx10 dX11_gateOf_34 ?_
          refine lv_iload_n hx hb dX11_gateOf_35 rfl (lv_at hl 1 rfl) ?_
          refine lv_icmp_ne (tgt := 51) hx hb dX11_gateOf_36 (by decide) (fun c11 => ?_) (fun c11 => ?_)
          · replace h := it_f h c11
            refine lv_iinc (v := (v3 + 1)) (lv' := [(3, .int (v3 + 1)), (0, .ref o), (1, .int v1), (2, .int v2)]) hx hb dX11_gateOf_51 hl (k := 3) rfl rfl (by decide) rfl (fun ls hl => ?_)
            refine lv_goto (tgt := 2) hx hb dX11_gateOf_54 (by decide) ?_
            exact ih o v1 v2 (v3 + 1) _ _ _ _ (lv_sub hl [1, 2, 3, 0] rfl) hW hS h
          · replace h := it_t h c11
            refine lv_aload_n hx hb dX11_gateOf_39 rfl (lv_at hl 0 rfl) ?_
            replace h := b1_some h
            obtain ⟨a12, ga12, h⟩ := h
            refine z_getA X hW ga12 kX11 (by decide) (by decide) kf_X11_25 dX11_gateOf_40 ?_
            refine lv_iload_n hx hb dX11_gateOf_43 rfl (lv_at hl 3 rfl) ?_
            replace h := b1_some h
            obtain ⟨x13, gx13, h⟩ := h
            refine z_aldI X hW gx13 dX11_gateOf_44 ?_
            refine lv_iload_n hx hb dX11_gateOf_45 rfl (lv_at hl 2 rfl) ?_
            refine lv_icmp_ne (tgt := 51) hx hb dX11_gateOf_46 (by decide) (fun c14 => ?_) (fun c14 => ?_)
            · replace h := it_f h c14
              refine lv_iinc (v := (v3 + 1)) (lv' := [(3, .int (v3 + 1)), (0, .ref o), (1, .int v1), (2, .int v2)]) hx hb dX11_gateOf_51 hl (k := 3) rfl rfl (by decide) rfl (fun ls hl => ?_)
              refine lv_goto (tgt := 2) hx hb dX11_gateOf_54 (by decide) ?_
              exact ih o v1 v2 (v3 + 1) _ _ _ _ (lv_sub hl [1, 2, 3, 0] rfl) hW hS h
            · replace h := it_t h c14
              refine lv_iload_n hx hb dX11_gateOf_49 rfl (lv_at hl 3 rfl) ?_
              exact z_eti X hlk hr hW hS h (by decide) (by decide) dX11_gateOf_50

def fX11_gateOf (o : Nat) (v1 : Int32) (v2 : Int32) (h : Hz) : Option (Int32 × Hz) := fX11_gateOf_2 100000 o v1 v2 0 h
set_option maxHeartbeats 4000000 in
set_option maxRecDepth 100000 in
theorem wX11_gateOf_0 {r0 : Int32} {h0 : Hz} (X : zX A D cy p s m args c cX11_gateOf RX11 4) (hlk : meth.locks = false) (hr : meth.sig.returnType = (some .int)) (o : Nat) (v1 : Int32) (v2 : Int32) (h : Hz) (H : Heap) (locs : List Loc) (ls : Array Slot) (hl : lv_has ls 4 [(0, .ref o), (1, .int v1), (2, .int v2)]) (hW : zW A cy D h H) (hS : va_S A s.heap H locs) (h : fX11_gateOf o v1 v2 h = some (r0, h0)) : W p l e ({ frames := 0, cells := 0, slots := 0, locals := 0 } : Room) s m args below meth c H locs 0 0 (MQ below (va_Qi (fun r1 u => r1 = r0 ∧ u = h0) (zB A D cy) A) args s 0 0 A) (F0 m 0 ls []) := by
  obtain ⟨hx, hb, hts, hown, hK9, hml, hN9, hA9⟩ := id X
  unfold fX11_gateOf at h
  refine lv_iconst (v := 0) hx hb dX11_gateOf_0 (by decide) ?_
  refine lv_istore_n (lv' := [(3, .int 0), (0, .ref o), (1, .int v1), (2, .int v2)]) hx hb dX11_gateOf_1 rfl hl (by decide) rfl (fun ls hl => ?_)
  exact wX11_gateOf_2 X hlk hr _ o v1 v2 0 _ _ _ _ (lv_sub hl [1, 2, 3, 0] rfl) hW hS h

set_option maxHeartbeats 4000000 in
set_option maxRecDepth 100000 in
theorem cX11_gateOf_met {l : Launch} {A : Nat → Prop} {D : va_G} {cy : Nat → ClassId} {r0 : Int32} {h0 : Hz} {o : Nat} {v1 : Int32} {v2 : Int32} {h : Hz} (g : fX11_gateOf o v1 v2 h = some (r0, h0)) : Met l yX11_gateOf (Cond.code yX11_gateOf cX11_gateOf 4 (some .int) :: wT) ({ frames := 0, cells := 0, slots := 0, locals := 0 } : Room) (va_Pc [.ref o, .int v1, .int v2] (zS A D cy h)) (va_Qi (fun r1 u => r1 = r0 ∧ u = h0) (zB A D cy) A) 0 0 A := by
  refine Met.ofW (cc := cX11_gateOf) (maxL := 4) (ret := (some .int)) (by decide) rfl ?_
  intro p e s m args below meth c s₁ B hml hv
  obtain ⟨rfl, hW, hK, hN, hA⟩ := hv
  have X : zX A D cy p s m _ c cX11_gateOf RX11 4 := ⟨B.exec, B.bytes, fun w hw => atoms_spec (ws := Cond.code yX11_gateOf cX11_gateOf 4 (some .int) :: wT) B.pre w (List.mem_cons_of_mem _ hw), findClass_of_methodNamed B.named, hK, hml, hN, hA⟩
  have hl := lv_entry [.ref o, .int v1, .int v2] (n := 4) (Nat.le_of_ble_eq_true rfl)
  rw [lg_entry_eq]
  generalize (lg_sl [.ref o, .int v1, .int v2] ++ List.replicate (4 - (lg_sl [.ref o, .int v1, .int v2]).length) Slot.unset).toArray = ls at hl ⊢
  have hl : lv_has ls 4 [(0, .ref o), (1, .int v1), (2, .int v2)] := hl
  exact wX11_gateOf_0 X B.notSynchronized B.returns o v1 v2 _ _ _ _ (lv_sub hl [0, 1, 2] rfl) hW va_S.rf g

theorem dX11_make_0 : decode cX11_make 0 = .ok (.aload_n 0, 1) := by decide +kernel
theorem dX11_make_1 : decode cX11_make 1 = .ok (.getfield 145, 3) := by decide +kernel
theorem dX11_make_4 : decode cX11_make 4 = .ok (.istore 4, 2) := by decide +kernel
theorem dX11_make_6 : decode cX11_make 6 = .ok (.aload_n 0, 1) := by decide +kernel
theorem dX11_make_7 : decode cX11_make 7 = .ok (.getfield 9, 3) := by decide +kernel
theorem dX11_make_10 : decode cX11_make 10 = .ok (.iload 4, 2) := by decide +kernel
theorem dX11_make_12 : decode cX11_make 12 = .ok (.iload_n 1, 1) := by decide +kernel
theorem dX11_make_13 : decode cX11_make 13 = .ok (.iastore, 1) := by decide +kernel
theorem dX11_make_14 : decode cX11_make 14 = .ok (.aload_n 0, 1) := by decide +kernel
theorem dX11_make_15 : decode cX11_make 15 = .ok (.getfield 13, 3) := by decide +kernel
theorem dX11_make_18 : decode cX11_make 18 = .ok (.iload 4, 2) := by decide +kernel
theorem dX11_make_20 : decode cX11_make 20 = .ok (.iload_n 2, 1) := by decide +kernel
theorem dX11_make_21 : decode cX11_make 21 = .ok (.iastore, 1) := by decide +kernel
theorem dX11_make_22 : decode cX11_make 22 = .ok (.aload_n 0, 1) := by decide +kernel
theorem dX11_make_23 : decode cX11_make 23 = .ok (.getfield 19, 3) := by decide +kernel
theorem dX11_make_26 : decode cX11_make 26 = .ok (.iload 4, 2) := by decide +kernel
theorem dX11_make_28 : decode cX11_make 28 = .ok (.iload_n 3, 1) := by decide +kernel
theorem dX11_make_29 : decode cX11_make 29 = .ok (.iastore, 1) := by decide +kernel
theorem dX11_make_30 : decode cX11_make 30 = .ok (.aload_n 0, 1) := by decide +kernel
theorem dX11_make_31 : decode cX11_make 31 = .ok (.getfield 25, 3) := by decide +kernel
theorem dX11_make_34 : decode cX11_make 34 = .ok (.iload 4, 2) := by decide +kernel
theorem dX11_make_36 : decode cX11_make 36 = .ok (.iconst (-1), 1) := by decide +kernel
theorem dX11_make_37 : decode cX11_make 37 = .ok (.iastore, 1) := by decide +kernel
theorem dX11_make_38 : decode cX11_make 38 = .ok (.aload_n 0, 1) := by decide +kernel
theorem dX11_make_39 : decode cX11_make 39 = .ok (.dup, 1) := by decide +kernel
theorem dX11_make_40 : decode cX11_make 40 = .ok (.getfield 145, 3) := by decide +kernel
theorem dX11_make_43 : decode cX11_make 43 = .ok (.iconst 1, 1) := by decide +kernel
theorem dX11_make_44 : decode cX11_make 44 = .ok (.iadd, 1) := by decide +kernel
theorem dX11_make_45 : decode cX11_make 45 = .ok (.putfield 145, 3) := by decide +kernel
theorem dX11_make_48 : decode cX11_make 48 = .ok (.iload 4, 2) := by decide +kernel
theorem dX11_make_50 : decode cX11_make 50 = .ok (.ireturn, 1) := by decide +kernel
def fX11_make (o : Nat) (v1 : Int32) (v2 : Int32) (v3 : Int32) (h : Hz) : Option (Int32 × Hz) := (b1 (gI 11 9 o h) fun x1 => (b1 (gA 11 0 o h) fun a2 => (b1 (yI a2 x1 v1 h) fun s3 => (b1 (gA 11 1 o s3) fun a4 => (b1 (yI a4 x1 v2 s3) fun s5 => (b1 (gA 11 3 o s5) fun a6 => (b1 (yI a6 x1 v3 s5) fun s7 => (b1 (gA 11 5 o s7) fun a8 => (b1 (yI a8 x1 (-1) s7) fun s9 => (b1 (gI 11 9 o s9) fun x10 => (b1 (pI 11 9 o (x10 + 1) s9) fun s11 => some (x1, s11))))))))))))
set_option maxHeartbeats 4000000 in
set_option maxRecDepth 100000 in
theorem wX11_make_0 {r0 : Int32} {h0 : Hz} (X : zX A D cy p s m args c cX11_make RX11 5) (hlk : meth.locks = false) (hr : meth.sig.returnType = (some .int)) (o : Nat) (v1 : Int32) (v2 : Int32) (v3 : Int32) (h : Hz) (H : Heap) (locs : List Loc) (ls : Array Slot) (hl : lv_has ls 5 [(0, .ref o), (1, .int v1), (2, .int v2), (3, .int v3)]) (hW : zW A cy D h H) (hS : va_S A s.heap H locs) (h : fX11_make o v1 v2 v3 h = some (r0, h0)) : W p l e ({ frames := 0, cells := 0, slots := 0, locals := 0 } : Room) s m args below meth c H locs 0 0 (MQ below (va_Qi (fun r1 u => r1 = r0 ∧ u = h0) (zB A D cy) A) args s 0 0 A) (F0 m 0 ls []) := by
  obtain ⟨hx, hb, hts, hown, hK9, hml, hN9, hA9⟩ := id X
  unfold fX11_make at h
  refine lv_aload_n hx hb dX11_make_0 rfl (lv_at hl 0 rfl) ?_
  replace h := b1_some h
  obtain ⟨x1, gx1, h⟩ := h
  refine z_getI X hW gx1 kX11 (by decide) (by decide) kf_X11_145 dX11_make_1 ?_
  refine lv_istore (lv' := [(4, .int x1), (0, .ref o), (1, .int v1), (2, .int v2), (3, .int v3)]) hx hb dX11_make_4 hl (by decide) rfl (fun ls hl => ?_)
  refine lv_aload_n hx hb dX11_make_6 rfl (lv_at hl 1 rfl) ?_
  replace h := b1_some h
  obtain ⟨a2, ga2, h⟩ := h
  refine z_getA X hW ga2 kX11 (by decide) (by decide) kf_X11_9 dX11_make_7 ?_
  refine lv_iload hx hb dX11_make_10 (lv_at hl 0 rfl) ?_
  refine lv_iload_n hx hb dX11_make_12 rfl (lv_at hl 2 rfl) ?_
  replace h := b1_some h
  obtain ⟨s3, gs3, h⟩ := h
  refine z_astI X hW hS gs3 dX11_make_13 (fun H locs hW hS => ?_)
  refine lv_aload_n hx hb dX11_make_14 rfl (lv_at hl 1 rfl) ?_
  replace h := b1_some h
  obtain ⟨a4, ga4, h⟩ := h
  refine z_getA X hW ga4 kX11 (by decide) (by decide) kf_X11_13 dX11_make_15 ?_
  refine lv_iload hx hb dX11_make_18 (lv_at hl 0 rfl) ?_
  refine lv_iload_n hx hb dX11_make_20 rfl (lv_at hl 3 rfl) ?_
  replace h := b1_some h
  obtain ⟨s5, gs5, h⟩ := h
  refine z_astI X hW hS gs5 dX11_make_21 (fun H locs hW hS => ?_)
  refine lv_aload_n hx hb dX11_make_22 rfl (lv_at hl 1 rfl) ?_
  replace h := b1_some h
  obtain ⟨a6, ga6, h⟩ := h
  refine z_getA X hW ga6 kX11 (by decide) (by decide) kf_X11_19 dX11_make_23 ?_
  refine lv_iload hx hb dX11_make_26 (lv_at hl 0 rfl) ?_
  refine lv_iload_n hx hb dX11_make_28 rfl (lv_at hl 4 rfl) ?_
  replace h := b1_some h
  obtain ⟨s7, gs7, h⟩ := h
  refine z_astI X hW hS gs7 dX11_make_29 (fun H locs hW hS => ?_)
  refine lv_aload_n hx hb dX11_make_30 rfl (lv_at hl 1 rfl) ?_
  replace h := b1_some h
  obtain ⟨a8, ga8, h⟩ := h
  refine z_getA X hW ga8 kX11 (by decide) (by decide) kf_X11_25 dX11_make_31 ?_
  refine lv_iload hx hb dX11_make_34 (lv_at hl 0 rfl) ?_
  refine lv_iconst (v := (-1)) hx hb dX11_make_36 (by decide) ?_
  replace h := b1_some h
  obtain ⟨s9, gs9, h⟩ := h
  refine z_astI X hW hS gs9 dX11_make_37 (fun H locs hW hS => ?_)
  refine lv_aload_n hx hb dX11_make_38 rfl (lv_at hl 1 rfl) ?_
  refine lv_dup hx hb dX11_make_39 rfl ?_
  replace h := b1_some h
  obtain ⟨x10, gx10, h⟩ := h
  refine z_getI X hW gx10 kX11 (by decide) (by decide) kf_X11_145 dX11_make_40 ?_
  refine lv_iconst (v := 1) hx hb dX11_make_43 (by decide) ?_
  refine lv_iadd hx hb dX11_make_44 ?_
  replace h := b1_some h
  obtain ⟨s11, gs11, h⟩ := h
  refine z_putI X hW hS gs11 kX11 (by decide) (by decide) rfl (Or.inl rfl) kf_X11_145 dX11_make_45 (fun H locs hW hS => ?_)
  refine lv_iload hx hb dX11_make_48 (lv_at hl 0 rfl) ?_
  exact z_eti X hlk hr hW hS h (by decide) (by decide) dX11_make_50

set_option maxHeartbeats 4000000 in
set_option maxRecDepth 100000 in
theorem cX11_make_met {l : Launch} {A : Nat → Prop} {D : va_G} {cy : Nat → ClassId} {r0 : Int32} {h0 : Hz} {o : Nat} {v1 : Int32} {v2 : Int32} {v3 : Int32} {h : Hz} (g : fX11_make o v1 v2 v3 h = some (r0, h0)) : Met l yX11_make (Cond.code yX11_make cX11_make 5 (some .int) :: wT) ({ frames := 0, cells := 0, slots := 0, locals := 0 } : Room) (va_Pc [.ref o, .int v1, .int v2, .int v3] (zS A D cy h)) (va_Qi (fun r1 u => r1 = r0 ∧ u = h0) (zB A D cy) A) 0 0 A := by
  refine Met.ofW (cc := cX11_make) (maxL := 5) (ret := (some .int)) (by decide) rfl ?_
  intro p e s m args below meth c s₁ B hml hv
  obtain ⟨rfl, hW, hK, hN, hA⟩ := hv
  have X : zX A D cy p s m _ c cX11_make RX11 5 := ⟨B.exec, B.bytes, fun w hw => atoms_spec (ws := Cond.code yX11_make cX11_make 5 (some .int) :: wT) B.pre w (List.mem_cons_of_mem _ hw), findClass_of_methodNamed B.named, hK, hml, hN, hA⟩
  have hl := lv_entry [.ref o, .int v1, .int v2, .int v3] (n := 5) (Nat.le_of_ble_eq_true rfl)
  rw [lg_entry_eq]
  generalize (lg_sl [.ref o, .int v1, .int v2, .int v3] ++ List.replicate (5 - (lg_sl [.ref o, .int v1, .int v2, .int v3]).length) Slot.unset).toArray = ls at hl ⊢
  have hl : lv_has ls 5 [(0, .ref o), (1, .int v1), (2, .int v2), (3, .int v3)] := hl
  exact wX11_make_0 X B.notSynchronized B.returns o v1 v2 v3 _ _ _ _ (lv_sub hl [0, 1, 2, 3] rfl) hW va_S.rf g

theorem dX11_lay_0 : decode cX11_lay 0 = .ok (.aload_n 0, 1) := by decide +kernel
theorem dX11_lay_1 : decode cX11_lay 1 = .ok (.getfield 38, 3) := by decide +kernel
theorem dX11_lay_4 : decode cX11_lay 4 = .ok (.bipush 8, 2) := by decide +kernel
theorem dX11_lay_6 : decode cX11_lay 6 = .ok (.iload_n 1, 1) := by decide +kernel
theorem dX11_lay_7 : decode cX11_lay 7 = .ok (.imul, 1) := by decide +kernel
theorem dX11_lay_8 : decode cX11_lay 8 = .ok (.iload_n 2, 1) := by decide +kernel
theorem dX11_lay_9 : decode cX11_lay 9 = .ok (.iadd, 1) := by decide +kernel
theorem dX11_lay_10 : decode cX11_lay 10 = .ok (.iconst 1, 1) := by decide +kernel
theorem dX11_lay_11 : decode cX11_lay 11 = .ok (.iastore, 1) := by decide +kernel
theorem dX11_lay_12 : decode cX11_lay 12 = .ok (.aload_n 0, 1) := by decide +kernel
theorem dX11_lay_13 : decode cX11_lay 13 = .ok (.getfield 41, 3) := by decide +kernel
theorem dX11_lay_16 : decode cX11_lay 16 = .ok (.bipush 8, 2) := by decide +kernel
theorem dX11_lay_18 : decode cX11_lay 18 = .ok (.iload_n 1, 1) := by decide +kernel
theorem dX11_lay_19 : decode cX11_lay 19 = .ok (.imul, 1) := by decide +kernel
theorem dX11_lay_20 : decode cX11_lay 20 = .ok (.iload_n 2, 1) := by decide +kernel
theorem dX11_lay_21 : decode cX11_lay 21 = .ok (.iadd, 1) := by decide +kernel
theorem dX11_lay_22 : decode cX11_lay 22 = .ok (.iload_n 3, 1) := by decide +kernel
theorem dX11_lay_23 : decode cX11_lay 23 = .ok (.iastore, 1) := by decide +kernel
theorem dX11_lay_24 : decode cX11_lay 24 = .ok (.return_, 1) := by decide +kernel
def fX11_lay (o : Nat) (v1 : Int32) (v2 : Int32) (v3 : Int32) (h : Hz) : Option (Unit × Hz) := (b1 (gA 11 10 o h) fun a1 => (b1 (yI a1 ((8 * v1) + v2) 1 h) fun s2 => (b1 (gA 11 11 o s2) fun a3 => (b1 (yI a3 ((8 * v1) + v2) v3 s2) fun s4 => some ((), s4)))))
set_option maxHeartbeats 4000000 in
set_option maxRecDepth 100000 in
theorem wX11_lay_0 {r0 : Unit} {h0 : Hz} (X : zX A D cy p s m args c cX11_lay RX11 4) (hlk : meth.locks = false) (hr : meth.sig.returnType = none) (o : Nat) (v1 : Int32) (v2 : Int32) (v3 : Int32) (h : Hz) (H : Heap) (locs : List Loc) (ls : Array Slot) (hl : lv_has ls 4 [(0, .ref o), (1, .int v1), (2, .int v2), (3, .int v3)]) (hW : zW A cy D h H) (hS : va_S A s.heap H locs) (h : fX11_lay o v1 v2 v3 h = some (r0, h0)) : W p l e ({ frames := 0, cells := 0, slots := 0, locals := 0 } : Room) s m args below meth c H locs 0 0 (MQ below (va_Qv (fun u => u = h0) (zB A D cy) A) args s 0 0 A) (F0 m 0 ls []) := by
  obtain ⟨hx, hb, hts, hown, hK9, hml, hN9, hA9⟩ := id X
  unfold fX11_lay at h
  refine lv_aload_n hx hb dX11_lay_0 rfl (lv_at hl 0 rfl) ?_
  replace h := b1_some h
  obtain ⟨a1, ga1, h⟩ := h
  refine z_getA X hW ga1 kX11 (by decide) (by decide) kf_X11_38 dX11_lay_1 ?_
  refine lv_bipush (v := 8) hx hb dX11_lay_4 (by decide) ?_
  refine lv_iload_n hx hb dX11_lay_6 rfl (lv_at hl 1 rfl) ?_
  refine lv_imul hx hb dX11_lay_7 ?_
  refine lv_iload_n hx hb dX11_lay_8 rfl (lv_at hl 2 rfl) ?_
  refine lv_iadd hx hb dX11_lay_9 ?_
  refine lv_iconst (v := 1) hx hb dX11_lay_10 (by decide) ?_
  replace h := b1_some h
  obtain ⟨s2, gs2, h⟩ := h
  refine z_astI X hW hS gs2 dX11_lay_11 (fun H locs hW hS => ?_)
  refine lv_aload_n hx hb dX11_lay_12 rfl (lv_at hl 0 rfl) ?_
  replace h := b1_some h
  obtain ⟨a3, ga3, h⟩ := h
  refine z_getA X hW ga3 kX11 (by decide) (by decide) kf_X11_41 dX11_lay_13 ?_
  refine lv_bipush (v := 8) hx hb dX11_lay_16 (by decide) ?_
  refine lv_iload_n hx hb dX11_lay_18 rfl (lv_at hl 1 rfl) ?_
  refine lv_imul hx hb dX11_lay_19 ?_
  refine lv_iload_n hx hb dX11_lay_20 rfl (lv_at hl 2 rfl) ?_
  refine lv_iadd hx hb dX11_lay_21 ?_
  refine lv_iload_n hx hb dX11_lay_22 rfl (lv_at hl 3 rfl) ?_
  replace h := b1_some h
  obtain ⟨s4, gs4, h⟩ := h
  refine z_astI X hW hS gs4 dX11_lay_23 (fun H locs hW hS => ?_)
  exact z_etv X hlk hr hW hS h (by decide) (by decide) dX11_lay_24

set_option maxHeartbeats 4000000 in
set_option maxRecDepth 100000 in
theorem cX11_lay_met {l : Launch} {A : Nat → Prop} {D : va_G} {cy : Nat → ClassId} {r0 : Unit} {h0 : Hz} {o : Nat} {v1 : Int32} {v2 : Int32} {v3 : Int32} {h : Hz} (g : fX11_lay o v1 v2 v3 h = some (r0, h0)) : Met l yX11_lay (Cond.code yX11_lay cX11_lay 4 none :: wT) ({ frames := 0, cells := 0, slots := 0, locals := 0 } : Room) (va_Pc [.ref o, .int v1, .int v2, .int v3] (zS A D cy h)) (va_Qv (fun u => u = h0) (zB A D cy) A) 0 0 A := by
  refine Met.ofW (cc := cX11_lay) (maxL := 4) (ret := none) (by decide) rfl ?_
  intro p e s m args below meth c s₁ B hml hv
  obtain ⟨rfl, hW, hK, hN, hA⟩ := hv
  have X : zX A D cy p s m _ c cX11_lay RX11 4 := ⟨B.exec, B.bytes, fun w hw => atoms_spec (ws := Cond.code yX11_lay cX11_lay 4 none :: wT) B.pre w (List.mem_cons_of_mem _ hw), findClass_of_methodNamed B.named, hK, hml, hN, hA⟩
  have hl := lv_entry [.ref o, .int v1, .int v2, .int v3] (n := 4) (Nat.le_of_ble_eq_true rfl)
  rw [lg_entry_eq]
  generalize (lg_sl [.ref o, .int v1, .int v2, .int v3] ++ List.replicate (4 - (lg_sl [.ref o, .int v1, .int v2, .int v3]).length) Slot.unset).toArray = ls at hl ⊢
  have hl : lv_has ls 4 [(0, .ref o), (1, .int v1), (2, .int v2), (3, .int v3)] := hl
  exact wX11_lay_0 X B.notSynchronized B.returns o v1 v2 v3 _ _ _ _ (lv_sub hl [0, 1, 2, 3] rfl) hW va_S.rf g

theorem dX11_root_0 : decode cX11_root 0 = .ok (.iload_n 1, 1) := by decide +kernel
theorem dX11_root_1 : decode cX11_root 1 = .ok (.bipush 8, 2) := by decide +kernel
theorem dX11_root_3 : decode cX11_root 3 = .ok (.invokestatic 149, 3) := by decide +kernel
theorem dX11_root_6 : decode cX11_root 6 = .ok (.ifCond .ne 9, 3) := by decide +kernel
theorem dX11_root_9 : decode cX11_root 9 = .ok (.aload_n 0, 1) := by decide +kernel
theorem dX11_root_10 : decode cX11_root 10 = .ok (.iconst (-1), 1) := by decide +kernel
theorem dX11_root_11 : decode cX11_root 11 = .ok (.invokevirtual 170, 3) := by decide +kernel
theorem dX11_root_14 : decode cX11_root 14 = .ok (.ireturn, 1) := by decide +kernel
theorem dX11_root_15 : decode cX11_root 15 = .ok (.iload_n 2, 1) := by decide +kernel
theorem dX11_root_16 : decode cX11_root 16 = .ok (.iconst 1, 1) := by decide +kernel
theorem dX11_root_17 : decode cX11_root 17 = .ok (.if_icmp .ge 10, 3) := by decide +kernel
theorem dX11_root_20 : decode cX11_root 20 = .ok (.aload_n 0, 1) := by decide +kernel
theorem dX11_root_21 : decode cX11_root 21 = .ok (.bipush (-4), 2) := by decide +kernel
theorem dX11_root_23 : decode cX11_root 23 = .ok (.invokevirtual 170, 3) := by decide +kernel
theorem dX11_root_26 : decode cX11_root 26 = .ok (.ireturn, 1) := by decide +kernel
theorem dX11_root_27 : decode cX11_root 27 = .ok (.iload_n 2, 1) := by decide +kernel
theorem dX11_root_28 : decode cX11_root 28 = .ok (.bipush 8, 2) := by decide +kernel
theorem dX11_root_30 : decode cX11_root 30 = .ok (.if_icmp .gt 13, 3) := by decide +kernel
theorem dX11_root_33 : decode cX11_root 33 = .ok (.aload_n 0, 1) := by decide +kernel
theorem dX11_root_34 : decode cX11_root 34 = .ok (.getfield 145, 3) := by decide +kernel
theorem dX11_root_37 : decode cX11_root 37 = .ok (.sipush 300, 3) := by decide +kernel
theorem dX11_root_40 : decode cX11_root 40 = .ok (.if_icmp .ne 10, 3) := by decide +kernel
theorem dX11_root_43 : decode cX11_root 43 = .ok (.aload_n 0, 1) := by decide +kernel
theorem dX11_root_44 : decode cX11_root 44 = .ok (.bipush (-6), 2) := by decide +kernel
theorem dX11_root_46 : decode cX11_root 46 = .ok (.invokevirtual 170, 3) := by decide +kernel
theorem dX11_root_49 : decode cX11_root 49 = .ok (.ireturn, 1) := by decide +kernel
theorem dX11_root_50 : decode cX11_root 50 = .ok (.aload_n 0, 1) := by decide +kernel
theorem dX11_root_51 : decode cX11_root 51 = .ok (.getfield 91, 3) := by decide +kernel
theorem dX11_root_54 : decode cX11_root 54 = .ok (.iload_n 1, 1) := by decide +kernel
theorem dX11_root_55 : decode cX11_root 55 = .ok (.dup2, 1) := by decide +kernel
theorem dX11_root_56 : decode cX11_root 56 = .ok (.iaload, 1) := by decide +kernel
theorem dX11_root_57 : decode cX11_root 57 = .ok (.iconst 1, 1) := by decide +kernel
theorem dX11_root_58 : decode cX11_root 58 = .ok (.iadd, 1) := by decide +kernel
theorem dX11_root_59 : decode cX11_root 59 = .ok (.iastore, 1) := by decide +kernel
theorem dX11_root_60 : decode cX11_root 60 = .ok (.aload_n 0, 1) := by decide +kernel
theorem dX11_root_61 : decode cX11_root 61 = .ok (.iconst 2, 1) := by decide +kernel
theorem dX11_root_62 : decode cX11_root 62 = .ok (.iload_n 1, 1) := by decide +kernel
theorem dX11_root_63 : decode cX11_root 63 = .ok (.iload_n 2, 1) := by decide +kernel
theorem dX11_root_64 : decode cX11_root 64 = .ok (.invokevirtual 174, 3) := by decide +kernel
theorem dX11_root_67 : decode cX11_root 67 = .ok (.ireturn, 1) := by decide +kernel
def fX11_root_43 (o : Nat) (h : Hz) : Option (Int32 × Hz) := (b1 (tg 11 o h) fun _ => (b2 (fX11_refuse o (-6) h) fun x2 s3 => some (x2, s3)))
set_option maxHeartbeats 4000000 in
set_option maxRecDepth 100000 in
theorem wX11_root_43 {r0 : Int32} {h0 : Hz} (X : zX A D cy p s m args c cX11_root RX11 3) (hlk : meth.locks = false) (hr : meth.sig.returnType = (some .int)) (o : Nat) (h : Hz) (H : Heap) (locs : List Loc) (ls : Array Slot) (hl : lv_has ls 3 [(0, .ref o)]) (hW : zW A cy D h H) (hS : va_S A s.heap H locs) (h : fX11_root_43 o h = some (r0, h0)) : W p l e ({ frames := 1, cells := 0, slots := 0, locals := 24 } : Room) s m args below meth c H locs 0 0 (MQ below (va_Qi (fun r1 u => r1 = r0 ∧ u = h0) (zB A D cy) A) args s 0 0 A) (F0 m 43 ls []) := by
  obtain ⟨hx, hb, hts, hown, hK9, hml, hN9, hA9⟩ := id X
  unfold fX11_root_43 at h
  refine lv_aload_n hx hb dX11_root_43 rfl (lv_at hl 0 rfl) ?_
  refine lv_bipush (v := (-6)) hx hb dX11_root_44 (by decide) ?_
  replace h := b1_some h
  obtain ⟨q1, gq1, h⟩ := h
  replace h := b2_some h
  obtain ⟨x2, s3, gs3, h⟩ := h
  refine z_callVi (rest := []) X hW hS (cX11_refuse_met gs3) kb_X11_refuse kv_X11_refuse kl_X11_170 (it_v gq1).1 kX11 rfl rfl ⟨Nat.le_of_ble_eq_true rfl, Nat.le_of_ble_eq_true rfl⟩ rfl rfl (by decide) hl.1 dX11_root_46 ⟨(by decide), (by decide)⟩ (fun H locs hW hS => ?_)
  exact z_eti X hlk hr hW hS h (by decide) (by decide) dX11_root_49

def fX11_root (o : Nat) (v1 : Int32) (v2 : Int32) (h : Hz) : Option (Int32 × Hz) := (b2 (fX11_isIn v1 8 h) fun x1 s2 => (if x1 = 0 then (b1 (tg 11 o s2) fun _ => (b2 (fX11_refuse o (-1) s2) fun x18 s19 => some (x18, s19))) else (if 1 ≤ v2 then (if 8 < v2 then fX11_root_43 o s2 else (b1 (gI 11 9 o s2) fun x6 => (if x6 = 300 then fX11_root_43 o s2 else (b1 (gA 11 30 o s2) fun a8 => (b1 (xI 12 a8 v1 s2) fun x9 => (b1 (yI a8 v1 (x9 + 1) s2) fun s10 => (b1 (tg 11 o s10) fun _ => (b2 (fX11_make o 2 v1 v2 s10) fun x12 s13 => some (x12, s13))))))))) else (b1 (tg 11 o s2) fun _ => (b2 (fX11_refuse o (-4) s2) fun x15 s16 => some (x15, s16))))))
set_option maxHeartbeats 4000000 in
set_option maxRecDepth 100000 in
theorem wX11_root_0 {r0 : Int32} {h0 : Hz} (X : zX A D cy p s m args c cX11_root RX11 3) (hlk : meth.locks = false) (hr : meth.sig.returnType = (some .int)) (o : Nat) (v1 : Int32) (v2 : Int32) (h : Hz) (H : Heap) (locs : List Loc) (ls : Array Slot) (hl : lv_has ls 3 [(0, .ref o), (1, .int v1), (2, .int v2)]) (hW : zW A cy D h H) (hS : va_S A s.heap H locs) (h : fX11_root o v1 v2 h = some (r0, h0)) : W p l e ({ frames := 1, cells := 0, slots := 0, locals := 24 } : Room) s m args below meth c H locs 0 0 (MQ below (va_Qi (fun r1 u => r1 = r0 ∧ u = h0) (zB A D cy) A) args s 0 0 A) (F0 m 0 ls []) := by
  obtain ⟨hx, hb, hts, hown, hK9, hml, hN9, hA9⟩ := id X
  unfold fX11_root at h
  refine lv_iload_n hx hb dX11_root_0 rfl (lv_at hl 1 rfl) ?_
  refine lv_bipush (v := 8) hx hb dX11_root_1 (by decide) ?_
  replace h := b2_some h
  obtain ⟨x1, s2, gs2, h⟩ := h
  refine z_callSi (rest := []) X hW hS (cX11_isIn_met gs2) kb_X11_isIn ks_X11_isIn kl_X11_149 rfl rfl ⟨Nat.le_of_ble_eq_true rfl, Nat.le_of_ble_eq_true rfl⟩ rfl rfl (by decide) hl.1 dX11_root_3 ⟨(by decide), (by decide)⟩ (fun H locs hW hS => ?_)
  refine lv_if_ne (tgt := 15) hx hb dX11_root_6 (by decide) (fun c3 => ?_) (fun c3 => ?_)
  · replace h := it_f h c3
    refine lv_iload_n hx hb dX11_root_15 rfl (lv_at hl 2 rfl) ?_
    refine lv_iconst (v := 1) hx hb dX11_root_16 (by decide) ?_
    refine lv_icmp_ge (tgt := 27) hx hb dX11_root_17 (by decide) (fun c4 => ?_) (fun c4 => ?_)
    · replace h := it_t h c4
      refine lv_iload_n hx hb dX11_root_27 rfl (lv_at hl 2 rfl) ?_
      refine lv_bipush (v := 8) hx hb dX11_root_28 (by decide) ?_
      refine lv_icmp_gt (tgt := 43) hx hb dX11_root_30 (by decide) (fun c5 => ?_) (fun c5 => ?_)
      · replace h := it_t h c5
        exact wX11_root_43 X hlk hr o _ _ _ _ (lv_sub hl [0] rfl) hW hS h
      · replace h := it_f h c5
        refine lv_aload_n hx hb dX11_root_33 rfl (lv_at hl 0 rfl) ?_
        replace h := b1_some h
        obtain ⟨x6, gx6, h⟩ := h
        refine z_getI X hW gx6 kX11 (by decide) (by decide) kf_X11_145 dX11_root_34 ?_
        refine lv_sipush (v := 300) hx hb dX11_root_37 (by decide) ?_
        refine lv_icmp_ne (tgt := 50) hx hb dX11_root_40 (by decide) (fun c7 => ?_) (fun c7 => ?_)
        · replace h := it_f h c7
          refine lv_aload_n hx hb dX11_root_50 rfl (lv_at hl 0 rfl) ?_
          replace h := b1_some h
          obtain ⟨a8, ga8, h⟩ := h
          refine z_getA X hW ga8 kX11 (by decide) (by decide) kf_X11_91 dX11_root_51 ?_
          refine lv_iload_n hx hb dX11_root_54 rfl (lv_at hl 1 rfl) ?_
          refine lv_dup2_11 hx hb dX11_root_55 rfl rfl ?_
          replace h := b1_some h
          obtain ⟨x9, gx9, h⟩ := h
          refine z_aldI X hW gx9 dX11_root_56 ?_
          refine lv_iconst (v := 1) hx hb dX11_root_57 (by decide) ?_
          refine lv_iadd hx hb dX11_root_58 ?_
          replace h := b1_some h
          obtain ⟨s10, gs10, h⟩ := h
          refine z_astI X hW hS gs10 dX11_root_59 (fun H locs hW hS => ?_)
          refine lv_aload_n hx hb dX11_root_60 rfl (lv_at hl 0 rfl) ?_
          refine lv_iconst (v := 2) hx hb dX11_root_61 (by decide) ?_
          refine lv_iload_n hx hb dX11_root_62 rfl (lv_at hl 1 rfl) ?_
          refine lv_iload_n hx hb dX11_root_63 rfl (lv_at hl 2 rfl) ?_
          replace h := b1_some h
          obtain ⟨q11, gq11, h⟩ := h
          replace h := b2_some h
          obtain ⟨x12, s13, gs13, h⟩ := h
          refine z_callVi (rest := []) X hW hS (cX11_make_met gs13) kb_X11_make kv_X11_make kl_X11_174 (it_v gq11).1 kX11 rfl rfl ⟨Nat.le_of_ble_eq_true rfl, Nat.le_of_ble_eq_true rfl⟩ rfl rfl (by decide) hl.1 dX11_root_64 ⟨(by decide), (by decide)⟩ (fun H locs hW hS => ?_)
          exact z_eti X hlk hr hW hS h (by decide) (by decide) dX11_root_67
        · replace h := it_t h c7
          exact wX11_root_43 X hlk hr o _ _ _ _ (lv_sub hl [0] rfl) hW hS h
    · replace h := it_f h c4
      refine lv_aload_n hx hb dX11_root_20 rfl (lv_at hl 0 rfl) ?_
      refine lv_bipush (v := (-4)) hx hb dX11_root_21 (by decide) ?_
      replace h := b1_some h
      obtain ⟨q14, gq14, h⟩ := h
      replace h := b2_some h
      obtain ⟨x15, s16, gs16, h⟩ := h
      refine z_callVi (rest := []) X hW hS (cX11_refuse_met gs16) kb_X11_refuse kv_X11_refuse kl_X11_170 (it_v gq14).1 kX11 rfl rfl ⟨Nat.le_of_ble_eq_true rfl, Nat.le_of_ble_eq_true rfl⟩ rfl rfl (by decide) hl.1 dX11_root_23 ⟨(by decide), (by decide)⟩ (fun H locs hW hS => ?_)
      exact z_eti X hlk hr hW hS h (by decide) (by decide) dX11_root_26
  · replace h := it_t h c3
    refine lv_aload_n hx hb dX11_root_9 rfl (lv_at hl 0 rfl) ?_
    refine lv_iconst (v := (-1)) hx hb dX11_root_10 (by decide) ?_
    replace h := b1_some h
    obtain ⟨q17, gq17, h⟩ := h
    replace h := b2_some h
    obtain ⟨x18, s19, gs19, h⟩ := h
    refine z_callVi (rest := []) X hW hS (cX11_refuse_met gs19) kb_X11_refuse kv_X11_refuse kl_X11_170 (it_v gq17).1 kX11 rfl rfl ⟨Nat.le_of_ble_eq_true rfl, Nat.le_of_ble_eq_true rfl⟩ rfl rfl (by decide) hl.1 dX11_root_11 ⟨(by decide), (by decide)⟩ (fun H locs hW hS => ?_)
    exact z_eti X hlk hr hW hS h (by decide) (by decide) dX11_root_14

set_option maxHeartbeats 4000000 in
set_option maxRecDepth 100000 in
theorem cX11_root_met {l : Launch} {A : Nat → Prop} {D : va_G} {cy : Nat → ClassId} {r0 : Int32} {h0 : Hz} {o : Nat} {v1 : Int32} {v2 : Int32} {h : Hz} (g : fX11_root o v1 v2 h = some (r0, h0)) : Met l yX11_root (Cond.code yX11_root cX11_root 3 (some .int) :: wT) ({ frames := 1, cells := 0, slots := 0, locals := 24 } : Room) (va_Pc [.ref o, .int v1, .int v2] (zS A D cy h)) (va_Qi (fun r1 u => r1 = r0 ∧ u = h0) (zB A D cy) A) 0 0 A := by
  refine Met.ofW (cc := cX11_root) (maxL := 3) (ret := (some .int)) (by decide) rfl ?_
  intro p e s m args below meth c s₁ B hml hv
  obtain ⟨rfl, hW, hK, hN, hA⟩ := hv
  have X : zX A D cy p s m _ c cX11_root RX11 3 := ⟨B.exec, B.bytes, fun w hw => atoms_spec (ws := Cond.code yX11_root cX11_root 3 (some .int) :: wT) B.pre w (List.mem_cons_of_mem _ hw), findClass_of_methodNamed B.named, hK, hml, hN, hA⟩
  have hl := lv_entry [.ref o, .int v1, .int v2] (n := 3) (Nat.le_of_ble_eq_true rfl)
  rw [lg_entry_eq]
  generalize (lg_sl [.ref o, .int v1, .int v2] ++ List.replicate (3 - (lg_sl [.ref o, .int v1, .int v2]).length) Slot.unset).toArray = ls at hl ⊢
  have hl : lv_has ls 3 [(0, .ref o), (1, .int v1), (2, .int v2)] := hl
  exact wX11_root_0 X B.notSynchronized B.returns o v1 v2 _ _ _ _ (lv_sub hl [0, 1, 2] rfl) hW va_S.rf g

theorem dX11_place_0 : decode cX11_place 0 = .ok (.aload_n 0, 1) := by decide +kernel
theorem dX11_place_1 : decode cX11_place 1 = .ok (.iload_n 1, 1) := by decide +kernel
theorem dX11_place_2 : decode cX11_place 2 = .ok (.invokevirtual 178, 3) := by decide +kernel
theorem dX11_place_5 : decode cX11_place 5 = .ok (.ifCond .ne 7, 3) := by decide +kernel
theorem dX11_place_8 : decode cX11_place 8 = .ok (.iconst (-1), 1) := by decide +kernel
theorem dX11_place_9 : decode cX11_place 9 = .ok (.goto 35, 3) := by decide +kernel
theorem dX11_place_12 : decode cX11_place 12 = .ok (.aload_n 0, 1) := by decide +kernel
theorem dX11_place_13 : decode cX11_place 13 = .ok (.iload_n 1, 1) := by decide +kernel
theorem dX11_place_14 : decode cX11_place 14 = .ok (.invokevirtual 181, 3) := by decide +kernel
theorem dX11_place_17 : decode cX11_place 17 = .ok (.ifCond .ne 8, 3) := by decide +kernel
theorem dX11_place_20 : decode cX11_place 20 = .ok (.bipush (-2), 2) := by decide +kernel
theorem dX11_place_22 : decode cX11_place 22 = .ok (.goto 22, 3) := by decide +kernel
theorem dX11_place_25 : decode cX11_place 25 = .ok (.iload_n 2, 1) := by decide +kernel
theorem dX11_place_26 : decode cX11_place 26 = .ok (.aload_n 0, 1) := by decide +kernel
theorem dX11_place_27 : decode cX11_place 27 = .ok (.getfield 19, 3) := by decide +kernel
theorem dX11_place_30 : decode cX11_place 30 = .ok (.iload_n 1, 1) := by decide +kernel
theorem dX11_place_31 : decode cX11_place 31 = .ok (.iaload, 1) := by decide +kernel
theorem dX11_place_32 : decode cX11_place 32 = .ok (.invokestatic 149, 3) := by decide +kernel
theorem dX11_place_35 : decode cX11_place 35 = .ok (.ifCond .ne 8, 3) := by decide +kernel
theorem dX11_place_38 : decode cX11_place 38 = .ok (.bipush (-3), 2) := by decide +kernel
theorem dX11_place_40 : decode cX11_place 40 = .ok (.goto 4, 3) := by decide +kernel
theorem dX11_place_43 : decode cX11_place 43 = .ok (.iconst 0, 1) := by decide +kernel
theorem dX11_place_44 : decode cX11_place 44 = .ok (.ireturn, 1) := by decide +kernel
def fX11_place (o : Nat) (v1 : Int32) (v2 : Int32) (h : Hz) : Option (Int32 × Hz) := (b1 (tg 11 o h) fun _ => (b2 (fX11_isThere o v1 h) fun x2 s3 => (if x2 = 0 then some ((-1), s3) else (b1 (tg 11 o s3) fun _ => (b2 (fX11_hasPlaces o v1 s3) fun x6 s7 => (if x6 = 0 then some ((-2), s7) else (b1 (gA 11 3 o s7) fun a9 => (b1 (xI 12 a9 v1 s7) fun x10 => (b2 (fX11_isIn v2 x10 s7) fun x11 s12 => (if x11 = 0 then some ((-3), s12) else some (0, s12)))))))))))
set_option maxHeartbeats 4000000 in
set_option maxRecDepth 100000 in
theorem wX11_place_0 {r0 : Int32} {h0 : Hz} (X : zX A D cy p s m args c cX11_place RX11 3) (hlk : meth.locks = false) (hr : meth.sig.returnType = (some .int)) (o : Nat) (v1 : Int32) (v2 : Int32) (h : Hz) (H : Heap) (locs : List Loc) (ls : Array Slot) (hl : lv_has ls 3 [(0, .ref o), (1, .int v1), (2, .int v2)]) (hW : zW A cy D h H) (hS : va_S A s.heap H locs) (h : fX11_place o v1 v2 h = some (r0, h0)) : W p l e ({ frames := 2, cells := 0, slots := 0, locals := 42 } : Room) s m args below meth c H locs 0 0 (MQ below (va_Qi (fun r1 u => r1 = r0 ∧ u = h0) (zB A D cy) A) args s 0 0 A) (F0 m 0 ls []) := by
  obtain ⟨hx, hb, hts, hown, hK9, hml, hN9, hA9⟩ := id X
  unfold fX11_place at h
  refine lv_aload_n hx hb dX11_place_0 rfl (lv_at hl 0 rfl) ?_
  refine lv_iload_n hx hb dX11_place_1 rfl (lv_at hl 1 rfl) ?_
  replace h := b1_some h
  obtain ⟨q1, gq1, h⟩ := h
  replace h := b2_some h
  obtain ⟨x2, s3, gs3, h⟩ := h
  refine z_callVi (rest := []) X hW hS (cX11_isThere_met gs3) kb_X11_isThere kv_X11_isThere kl_X11_178 (it_v gq1).1 kX11 rfl rfl ⟨Nat.le_of_ble_eq_true rfl, Nat.le_of_ble_eq_true rfl⟩ rfl rfl (by decide) hl.1 dX11_place_2 ⟨(by decide), (by decide)⟩ (fun H locs hW hS => ?_)
  refine lv_if_ne (tgt := 12) hx hb dX11_place_5 (by decide) (fun c4 => ?_) (fun c4 => ?_)
  · replace h := it_f h c4
    refine lv_aload_n hx hb dX11_place_12 rfl (lv_at hl 0 rfl) ?_
    refine lv_iload_n hx hb dX11_place_13 rfl (lv_at hl 1 rfl) ?_
    replace h := b1_some h
    obtain ⟨q5, gq5, h⟩ := h
    replace h := b2_some h
    obtain ⟨x6, s7, gs7, h⟩ := h
    refine z_callVi (rest := []) X hW hS (cX11_hasPlaces_met gs7) kb_X11_hasPlaces kv_X11_hasPlaces kl_X11_181 (it_v gq5).1 kX11 rfl rfl ⟨Nat.le_of_ble_eq_true rfl, Nat.le_of_ble_eq_true rfl⟩ rfl rfl (by decide) hl.1 dX11_place_14 ⟨(by decide), (by decide)⟩ (fun H locs hW hS => ?_)
    refine lv_if_ne (tgt := 25) hx hb dX11_place_17 (by decide) (fun c8 => ?_) (fun c8 => ?_)
    · replace h := it_f h c8
      refine lv_iload_n hx hb dX11_place_25 rfl (lv_at hl 2 rfl) ?_
      refine lv_aload_n hx hb dX11_place_26 rfl (lv_at hl 0 rfl) ?_
      replace h := b1_some h
      obtain ⟨a9, ga9, h⟩ := h
      refine z_getA X hW ga9 kX11 (by decide) (by decide) kf_X11_19 dX11_place_27 ?_
      refine lv_iload_n hx hb dX11_place_30 rfl (lv_at hl 1 rfl) ?_
      replace h := b1_some h
      obtain ⟨x10, gx10, h⟩ := h
      refine z_aldI X hW gx10 dX11_place_31 ?_
      replace h := b2_some h
      obtain ⟨x11, s12, gs12, h⟩ := h
      refine z_callSi (rest := []) X hW hS (cX11_isIn_met gs12) kb_X11_isIn ks_X11_isIn kl_X11_149 rfl rfl ⟨Nat.le_of_ble_eq_true rfl, Nat.le_of_ble_eq_true rfl⟩ rfl rfl (by decide) hl.1 dX11_place_32 ⟨(by decide), (by decide)⟩ (fun H locs hW hS => ?_)
      refine lv_if_ne (tgt := 43) hx hb dX11_place_35 (by decide) (fun c13 => ?_) (fun c13 => ?_)
      · replace h := it_f h c13
        refine lv_iconst (v := 0) hx hb dX11_place_43 (by decide) ?_
        exact z_eti X hlk hr hW hS h (by decide) (by decide) dX11_place_44
      · replace h := it_t h c13
        refine lv_bipush (v := (-3)) hx hb dX11_place_38 (by decide) ?_
        refine lv_goto (tgt := 44) hx hb dX11_place_40 (by decide) ?_
        exact z_eti X hlk hr hW hS h (by decide) (by decide) dX11_place_44
    · replace h := it_t h c8
      refine lv_bipush (v := (-2)) hx hb dX11_place_20 (by decide) ?_
      refine lv_goto (tgt := 44) hx hb dX11_place_22 (by decide) ?_
      exact z_eti X hlk hr hW hS h (by decide) (by decide) dX11_place_44
  · replace h := it_t h c4
    refine lv_iconst (v := (-1)) hx hb dX11_place_8 (by decide) ?_
    refine lv_goto (tgt := 44) hx hb dX11_place_9 (by decide) ?_
    exact z_eti X hlk hr hW hS h (by decide) (by decide) dX11_place_44

set_option maxHeartbeats 4000000 in
set_option maxRecDepth 100000 in
theorem cX11_place_met {l : Launch} {A : Nat → Prop} {D : va_G} {cy : Nat → ClassId} {r0 : Int32} {h0 : Hz} {o : Nat} {v1 : Int32} {v2 : Int32} {h : Hz} (g : fX11_place o v1 v2 h = some (r0, h0)) : Met l yX11_place (Cond.code yX11_place cX11_place 3 (some .int) :: wT) ({ frames := 2, cells := 0, slots := 0, locals := 42 } : Room) (va_Pc [.ref o, .int v1, .int v2] (zS A D cy h)) (va_Qi (fun r1 u => r1 = r0 ∧ u = h0) (zB A D cy) A) 0 0 A := by
  refine Met.ofW (cc := cX11_place) (maxL := 3) (ret := (some .int)) (by decide) rfl ?_
  intro p e s m args below meth c s₁ B hml hv
  obtain ⟨rfl, hW, hK, hN, hA⟩ := hv
  have X : zX A D cy p s m _ c cX11_place RX11 3 := ⟨B.exec, B.bytes, fun w hw => atoms_spec (ws := Cond.code yX11_place cX11_place 3 (some .int) :: wT) B.pre w (List.mem_cons_of_mem _ hw), findClass_of_methodNamed B.named, hK, hml, hN, hA⟩
  have hl := lv_entry [.ref o, .int v1, .int v2] (n := 3) (Nat.le_of_ble_eq_true rfl)
  rw [lg_entry_eq]
  generalize (lg_sl [.ref o, .int v1, .int v2] ++ List.replicate (3 - (lg_sl [.ref o, .int v1, .int v2]).length) Slot.unset).toArray = ls at hl ⊢
  have hl : lv_has ls 3 [(0, .ref o), (1, .int v1), (2, .int v2)] := hl
  exact wX11_place_0 X B.notSynchronized B.returns o v1 v2 _ _ _ _ (lv_sub hl [0, 1, 2] rfl) hW va_S.rf g

theorem dX11_leaf_0 : decode cX11_leaf 0 = .ok (.aload_n 0, 1) := by decide +kernel
theorem dX11_leaf_1 : decode cX11_leaf 1 = .ok (.iload_n 1, 1) := by decide +kernel
theorem dX11_leaf_2 : decode cX11_leaf 2 = .ok (.iload_n 2, 1) := by decide +kernel
theorem dX11_leaf_3 : decode cX11_leaf 3 = .ok (.invokevirtual 184, 3) := by decide +kernel
theorem dX11_leaf_6 : decode cX11_leaf 6 = .ok (.istore 4, 2) := by decide +kernel
theorem dX11_leaf_8 : decode cX11_leaf 8 = .ok (.iload 4, 2) := by decide +kernel
theorem dX11_leaf_10 : decode cX11_leaf 10 = .ok (.ifCond .eq 10, 3) := by decide +kernel
theorem dX11_leaf_13 : decode cX11_leaf 13 = .ok (.aload_n 0, 1) := by decide +kernel
theorem dX11_leaf_14 : decode cX11_leaf 14 = .ok (.iload 4, 2) := by decide +kernel
theorem dX11_leaf_16 : decode cX11_leaf 16 = .ok (.invokevirtual 170, 3) := by decide +kernel
theorem dX11_leaf_19 : decode cX11_leaf 19 = .ok (.ireturn, 1) := by decide +kernel
theorem dX11_leaf_20 : decode cX11_leaf 20 = .ok (.aload_n 0, 1) := by decide +kernel
theorem dX11_leaf_21 : decode cX11_leaf 21 = .ok (.iload_n 1, 1) := by decide +kernel
theorem dX11_leaf_22 : decode cX11_leaf 22 = .ok (.invokevirtual 167, 3) := by decide +kernel
theorem dX11_leaf_25 : decode cX11_leaf 25 = .ok (.ifCond .ne 10, 3) := by decide +kernel
theorem dX11_leaf_28 : decode cX11_leaf 28 = .ok (.aload_n 0, 1) := by decide +kernel
theorem dX11_leaf_29 : decode cX11_leaf 29 = .ok (.bipush (-5), 2) := by decide +kernel
theorem dX11_leaf_31 : decode cX11_leaf 31 = .ok (.invokevirtual 170, 3) := by decide +kernel
theorem dX11_leaf_34 : decode cX11_leaf 34 = .ok (.ireturn, 1) := by decide +kernel
theorem dX11_leaf_35 : decode cX11_leaf 35 = .ok (.aload_n 0, 1) := by decide +kernel
theorem dX11_leaf_36 : decode cX11_leaf 36 = .ok (.getfield 145, 3) := by decide +kernel
theorem dX11_leaf_39 : decode cX11_leaf 39 = .ok (.sipush 300, 3) := by decide +kernel
theorem dX11_leaf_42 : decode cX11_leaf 42 = .ok (.if_icmp .ne 10, 3) := by decide +kernel
theorem dX11_leaf_45 : decode cX11_leaf 45 = .ok (.aload_n 0, 1) := by decide +kernel
theorem dX11_leaf_46 : decode cX11_leaf 46 = .ok (.bipush (-6), 2) := by decide +kernel
theorem dX11_leaf_48 : decode cX11_leaf 48 = .ok (.invokevirtual 170, 3) := by decide +kernel
theorem dX11_leaf_51 : decode cX11_leaf 51 = .ok (.ireturn, 1) := by decide +kernel
theorem dX11_leaf_52 : decode cX11_leaf 52 = .ok (.aload_n 0, 1) := by decide +kernel
theorem dX11_leaf_53 : decode cX11_leaf 53 = .ok (.iconst 0, 1) := by decide +kernel
theorem dX11_leaf_54 : decode cX11_leaf 54 = .ok (.aload_n 0, 1) := by decide +kernel
theorem dX11_leaf_55 : decode cX11_leaf 55 = .ok (.getfield 13, 3) := by decide +kernel
theorem dX11_leaf_58 : decode cX11_leaf 58 = .ok (.iload_n 1, 1) := by decide +kernel
theorem dX11_leaf_59 : decode cX11_leaf 59 = .ok (.iaload, 1) := by decide +kernel
theorem dX11_leaf_60 : decode cX11_leaf 60 = .ok (.iconst 0, 1) := by decide +kernel
theorem dX11_leaf_61 : decode cX11_leaf 61 = .ok (.invokevirtual 174, 3) := by decide +kernel
theorem dX11_leaf_64 : decode cX11_leaf 64 = .ok (.istore 5, 2) := by decide +kernel
theorem dX11_leaf_66 : decode cX11_leaf 66 = .ok (.aload_n 0, 1) := by decide +kernel
theorem dX11_leaf_67 : decode cX11_leaf 67 = .ok (.getfield 16, 3) := by decide +kernel
theorem dX11_leaf_70 : decode cX11_leaf 70 = .ok (.iload 5, 2) := by decide +kernel
theorem dX11_leaf_72 : decode cX11_leaf 72 = .ok (.iload_n 3, 1) := by decide +kernel
theorem dX11_leaf_73 : decode cX11_leaf 73 = .ok (.iastore, 1) := by decide +kernel
theorem dX11_leaf_74 : decode cX11_leaf 74 = .ok (.aload_n 0, 1) := by decide +kernel
theorem dX11_leaf_75 : decode cX11_leaf 75 = .ok (.iload_n 1, 1) := by decide +kernel
theorem dX11_leaf_76 : decode cX11_leaf 76 = .ok (.iload_n 2, 1) := by decide +kernel
theorem dX11_leaf_77 : decode cX11_leaf 77 = .ok (.iload 5, 2) := by decide +kernel
theorem dX11_leaf_79 : decode cX11_leaf 79 = .ok (.invokevirtual 188, 3) := by decide +kernel
theorem dX11_leaf_82 : decode cX11_leaf 82 = .ok (.aload_n 0, 1) := by decide +kernel
theorem dX11_leaf_83 : decode cX11_leaf 83 = .ok (.getfield 91, 3) := by decide +kernel
theorem dX11_leaf_86 : decode cX11_leaf 86 = .ok (.aload_n 0, 1) := by decide +kernel
theorem dX11_leaf_87 : decode cX11_leaf 87 = .ok (.getfield 13, 3) := by decide +kernel
theorem dX11_leaf_90 : decode cX11_leaf 90 = .ok (.iload_n 1, 1) := by decide +kernel
theorem dX11_leaf_91 : decode cX11_leaf 91 = .ok (.iaload, 1) := by decide +kernel
theorem dX11_leaf_92 : decode cX11_leaf 92 = .ok (.dup2, 1) := by decide +kernel
theorem dX11_leaf_93 : decode cX11_leaf 93 = .ok (.iaload, 1) := by decide +kernel
theorem dX11_leaf_94 : decode cX11_leaf 94 = .ok (.iconst 1, 1) := by decide +kernel
theorem dX11_leaf_95 : decode cX11_leaf 95 = .ok (.iadd, 1) := by decide +kernel
theorem dX11_leaf_96 : decode cX11_leaf 96 = .ok (.iastore, 1) := by decide +kernel
theorem dX11_leaf_97 : decode cX11_leaf 97 = .ok (.iload 5, 2) := by decide +kernel
theorem dX11_leaf_99 : decode cX11_leaf 99 = .ok (.ireturn, 1) := by decide +kernel
def fX11_leaf (o : Nat) (v1 : Int32) (v2 : Int32) (v3 : Int32) (h : Hz) : Option (Int32 × Hz) := (b1 (tg 11 o h) fun _ => (b2 (fX11_place o v1 v2 h) fun x2 s3 => (if x2 = 0 then (b1 (tg 11 o s3) fun _ => (b2 (fX11_isNear o v1 s3) fun x6 s7 => (if x6 = 0 then (b1 (tg 11 o s7) fun _ => (b2 (fX11_refuse o (-5) s7) fun x30 s31 => some (x30, s31))) else (b1 (gI 11 9 o s7) fun x9 => (if x9 = 300 then (b1 (tg 11 o s7) fun _ => (b2 (fX11_refuse o (-6) s7) fun x27 s28 => some (x27, s28))) else (b1 (gA 11 1 o s7) fun a11 => (b1 (xI 12 a11 v1 s7) fun x12 => (b1 (tg 11 o s7) fun _ => (b2 (fX11_make o 0 x12 0 s7) fun x14 s15 => (b1 (gA 11 2 o s15) fun a16 => (b1 (yI a16 x14 v3 s15) fun s17 => (b1 (tg 11 o s17) fun _ => (b2 (fX11_lay o v1 v2 x14 s17) fun _ s20 => (b1 (gA 11 30 o s20) fun a21 => (b1 (gA 11 1 o s20) fun a22 => (b1 (xI 12 a22 v1 s20) fun x23 => (b1 (xI 12 a21 x23 s20) fun x24 => (b1 (yI a21 x23 (x24 + 1) s20) fun s25 => some (x14, s25))))))))))))))))))) else (b1 (tg 11 o s3) fun _ => (b2 (fX11_refuse o x2 s3) fun x33 s34 => some (x33, s34))))))
set_option maxHeartbeats 4000000 in
set_option maxRecDepth 100000 in
theorem wX11_leaf_0 {r0 : Int32} {h0 : Hz} (X : zX A D cy p s m args c cX11_leaf RX11 6) (hlk : meth.locks = false) (hr : meth.sig.returnType = (some .int)) (o : Nat) (v1 : Int32) (v2 : Int32) (v3 : Int32) (h : Hz) (H : Heap) (locs : List Loc) (ls : Array Slot) (hl : lv_has ls 6 [(0, .ref o), (1, .int v1), (2, .int v2), (3, .int v3)]) (hW : zW A cy D h H) (hS : va_S A s.heap H locs) (h : fX11_leaf o v1 v2 v3 h = some (r0, h0)) : W p l e ({ frames := 3, cells := 0, slots := 0, locals := 64 } : Room) s m args below meth c H locs 0 0 (MQ below (va_Qi (fun r1 u => r1 = r0 ∧ u = h0) (zB A D cy) A) args s 0 0 A) (F0 m 0 ls []) := by
  obtain ⟨hx, hb, hts, hown, hK9, hml, hN9, hA9⟩ := id X
  unfold fX11_leaf at h
  refine lv_aload_n hx hb dX11_leaf_0 rfl (lv_at hl 0 rfl) ?_
  refine lv_iload_n hx hb dX11_leaf_1 rfl (lv_at hl 1 rfl) ?_
  refine lv_iload_n hx hb dX11_leaf_2 rfl (lv_at hl 2 rfl) ?_
  replace h := b1_some h
  obtain ⟨q1, gq1, h⟩ := h
  replace h := b2_some h
  obtain ⟨x2, s3, gs3, h⟩ := h
  refine z_callVi (rest := []) X hW hS (cX11_place_met gs3) kb_X11_place kv_X11_place kl_X11_184 (it_v gq1).1 kX11 rfl rfl ⟨Nat.le_of_ble_eq_true rfl, Nat.le_of_ble_eq_true rfl⟩ rfl rfl (by decide) hl.1 dX11_leaf_3 ⟨(by decide), (by decide)⟩ (fun H locs hW hS => ?_)
  refine lv_istore (lv' := [(4, .int x2), (0, .ref o), (1, .int v1), (2, .int v2), (3, .int v3)]) hx hb dX11_leaf_6 hl (by decide) rfl (fun ls hl => ?_)
  refine lv_iload hx hb dX11_leaf_8 (lv_at hl 0 rfl) ?_
  refine lv_if_eq (tgt := 20) hx hb dX11_leaf_10 (by decide) (fun c4 => ?_) (fun c4 => ?_)
  · replace h := it_t h c4
    refine lv_aload_n hx hb dX11_leaf_20 rfl (lv_at hl 1 rfl) ?_
    refine lv_iload_n hx hb dX11_leaf_21 rfl (lv_at hl 2 rfl) ?_
    replace h := b1_some h
    obtain ⟨q5, gq5, h⟩ := h
    replace h := b2_some h
    obtain ⟨x6, s7, gs7, h⟩ := h
    refine z_callVi (rest := []) X hW hS (cX11_isNear_met gs7) kb_X11_isNear kv_X11_isNear kl_X11_167 (it_v gq5).1 kX11 rfl rfl ⟨Nat.le_of_ble_eq_true rfl, Nat.le_of_ble_eq_true rfl⟩ rfl rfl (by decide) hl.1 dX11_leaf_22 ⟨(by decide), (by decide)⟩ (fun H locs hW hS => ?_)
    refine lv_if_ne (tgt := 35) hx hb dX11_leaf_25 (by decide) (fun c8 => ?_) (fun c8 => ?_)
    · replace h := it_f h c8
      refine lv_aload_n hx hb dX11_leaf_35 rfl (lv_at hl 1 rfl) ?_
      replace h := b1_some h
      obtain ⟨x9, gx9, h⟩ := h
      refine z_getI X hW gx9 kX11 (by decide) (by decide) kf_X11_145 dX11_leaf_36 ?_
      refine lv_sipush (v := 300) hx hb dX11_leaf_39 (by decide) ?_
      refine lv_icmp_ne (tgt := 52) hx hb dX11_leaf_42 (by decide) (fun c10 => ?_) (fun c10 => ?_)
      · replace h := it_f h c10
        refine lv_aload_n hx hb dX11_leaf_52 rfl (lv_at hl 1 rfl) ?_
        refine lv_iconst (v := 0) hx hb dX11_leaf_53 (by decide) ?_
        refine lv_aload_n hx hb dX11_leaf_54 rfl (lv_at hl 1 rfl) ?_
        replace h := b1_some h
        obtain ⟨a11, ga11, h⟩ := h
        refine z_getA X hW ga11 kX11 (by decide) (by decide) kf_X11_13 dX11_leaf_55 ?_
        refine lv_iload_n hx hb dX11_leaf_58 rfl (lv_at hl 2 rfl) ?_
        replace h := b1_some h
        obtain ⟨x12, gx12, h⟩ := h
        refine z_aldI X hW gx12 dX11_leaf_59 ?_
        refine lv_iconst (v := 0) hx hb dX11_leaf_60 (by decide) ?_
        replace h := b1_some h
        obtain ⟨q13, gq13, h⟩ := h
        replace h := b2_some h
        obtain ⟨x14, s15, gs15, h⟩ := h
        refine z_callVi (rest := []) X hW hS (cX11_make_met gs15) kb_X11_make kv_X11_make kl_X11_174 (it_v gq13).1 kX11 rfl rfl ⟨Nat.le_of_ble_eq_true rfl, Nat.le_of_ble_eq_true rfl⟩ rfl rfl (by decide) hl.1 dX11_leaf_61 ⟨(by decide), (by decide)⟩ (fun H locs hW hS => ?_)
        refine lv_istore (lv' := [(5, .int x14), (4, .int x2), (0, .ref o), (1, .int v1), (2, .int v2), (3, .int v3)]) hx hb dX11_leaf_64 hl (by decide) rfl (fun ls hl => ?_)
        refine lv_aload_n hx hb dX11_leaf_66 rfl (lv_at hl 2 rfl) ?_
        replace h := b1_some h
        obtain ⟨a16, ga16, h⟩ := h
        refine z_getA X hW ga16 kX11 (by decide) (by decide) kf_X11_16 dX11_leaf_67 ?_
        refine lv_iload hx hb dX11_leaf_70 (lv_at hl 0 rfl) ?_
        refine lv_iload_n hx hb dX11_leaf_72 rfl (lv_at hl 5 rfl) ?_
        replace h := b1_some h
        obtain ⟨s17, gs17, h⟩ := h
        refine z_astI X hW hS gs17 dX11_leaf_73 (fun H locs hW hS => ?_)
        refine lv_aload_n hx hb dX11_leaf_74 rfl (lv_at hl 2 rfl) ?_
        refine lv_iload_n hx hb dX11_leaf_75 rfl (lv_at hl 3 rfl) ?_
        refine lv_iload_n hx hb dX11_leaf_76 rfl (lv_at hl 4 rfl) ?_
        refine lv_iload hx hb dX11_leaf_77 (lv_at hl 0 rfl) ?_
        replace h := b1_some h
        obtain ⟨q18, gq18, h⟩ := h
        replace h := b2_some h
        obtain ⟨_ur19, s20, gs20, h⟩ := h
        refine z_callVv (rest := []) X hW hS (cX11_lay_met gs20) kb_X11_lay kv_X11_lay kl_X11_188 (it_v gq18).1 kX11 rfl rfl ⟨Nat.le_of_ble_eq_true rfl, Nat.le_of_ble_eq_true rfl⟩ rfl rfl (by decide) hl.1 dX11_leaf_79 ⟨(by decide), (by decide)⟩ (fun H locs hW hS => ?_)
        refine lv_aload_n hx hb dX11_leaf_82 rfl (lv_at hl 2 rfl) ?_
        replace h := b1_some h
        obtain ⟨a21, ga21, h⟩ := h
        refine z_getA X hW ga21 kX11 (by decide) (by decide) kf_X11_91 dX11_leaf_83 ?_
        refine lv_aload_n hx hb dX11_leaf_86 rfl (lv_at hl 2 rfl) ?_
        replace h := b1_some h
        obtain ⟨a22, ga22, h⟩ := h
        refine z_getA X hW ga22 kX11 (by decide) (by decide) kf_X11_13 dX11_leaf_87 ?_
        refine lv_iload_n hx hb dX11_leaf_90 rfl (lv_at hl 3 rfl) ?_
        replace h := b1_some h
        obtain ⟨x23, gx23, h⟩ := h
        refine z_aldI X hW gx23 dX11_leaf_91 ?_
        refine lv_dup2_11 hx hb dX11_leaf_92 rfl rfl ?_
        replace h := b1_some h
        obtain ⟨x24, gx24, h⟩ := h
        refine z_aldI X hW gx24 dX11_leaf_93 ?_
        refine lv_iconst (v := 1) hx hb dX11_leaf_94 (by decide) ?_
        refine lv_iadd hx hb dX11_leaf_95 ?_
        replace h := b1_some h
        obtain ⟨s25, gs25, h⟩ := h
        refine z_astI X hW hS gs25 dX11_leaf_96 (fun H locs hW hS => ?_)
        refine lv_iload hx hb dX11_leaf_97 (lv_at hl 0 rfl) ?_
        exact z_eti X hlk hr hW hS h (by decide) (by decide) dX11_leaf_99
      · replace h := it_t h c10
        refine lv_aload_n hx hb dX11_leaf_45 rfl (lv_at hl 1 rfl) ?_
        refine lv_bipush (v := (-6)) hx hb dX11_leaf_46 (by decide) ?_
        replace h := b1_some h
        obtain ⟨q26, gq26, h⟩ := h
        replace h := b2_some h
        obtain ⟨x27, s28, gs28, h⟩ := h
        refine z_callVi (rest := []) X hW hS (cX11_refuse_met gs28) kb_X11_refuse kv_X11_refuse kl_X11_170 (it_v gq26).1 kX11 rfl rfl ⟨Nat.le_of_ble_eq_true rfl, Nat.le_of_ble_eq_true rfl⟩ rfl rfl (by decide) hl.1 dX11_leaf_48 ⟨(by decide), (by decide)⟩ (fun H locs hW hS => ?_)
        exact z_eti X hlk hr hW hS h (by decide) (by decide) dX11_leaf_51
    · replace h := it_t h c8
      refine lv_aload_n hx hb dX11_leaf_28 rfl (lv_at hl 1 rfl) ?_
      refine lv_bipush (v := (-5)) hx hb dX11_leaf_29 (by decide) ?_
      replace h := b1_some h
      obtain ⟨q29, gq29, h⟩ := h
      replace h := b2_some h
      obtain ⟨x30, s31, gs31, h⟩ := h
      refine z_callVi (rest := []) X hW hS (cX11_refuse_met gs31) kb_X11_refuse kv_X11_refuse kl_X11_170 (it_v gq29).1 kX11 rfl rfl ⟨Nat.le_of_ble_eq_true rfl, Nat.le_of_ble_eq_true rfl⟩ rfl rfl (by decide) hl.1 dX11_leaf_31 ⟨(by decide), (by decide)⟩ (fun H locs hW hS => ?_)
      exact z_eti X hlk hr hW hS h (by decide) (by decide) dX11_leaf_34
  · replace h := it_f h c4
    refine lv_aload_n hx hb dX11_leaf_13 rfl (lv_at hl 1 rfl) ?_
    refine lv_iload hx hb dX11_leaf_14 (lv_at hl 0 rfl) ?_
    replace h := b1_some h
    obtain ⟨q32, gq32, h⟩ := h
    replace h := b2_some h
    obtain ⟨x33, s34, gs34, h⟩ := h
    refine z_callVi (rest := []) X hW hS (cX11_refuse_met gs34) kb_X11_refuse kv_X11_refuse kl_X11_170 (it_v gq32).1 kX11 rfl rfl ⟨Nat.le_of_ble_eq_true rfl, Nat.le_of_ble_eq_true rfl⟩ rfl rfl (by decide) hl.1 dX11_leaf_16 ⟨(by decide), (by decide)⟩ (fun H locs hW hS => ?_)
    exact z_eti X hlk hr hW hS h (by decide) (by decide) dX11_leaf_19

set_option maxHeartbeats 4000000 in
set_option maxRecDepth 100000 in
theorem cX11_leaf_met {l : Launch} {A : Nat → Prop} {D : va_G} {cy : Nat → ClassId} {r0 : Int32} {h0 : Hz} {o : Nat} {v1 : Int32} {v2 : Int32} {v3 : Int32} {h : Hz} (g : fX11_leaf o v1 v2 v3 h = some (r0, h0)) : Met l yX11_leaf (Cond.code yX11_leaf cX11_leaf 6 (some .int) :: wT) ({ frames := 3, cells := 0, slots := 0, locals := 64 } : Room) (va_Pc [.ref o, .int v1, .int v2, .int v3] (zS A D cy h)) (va_Qi (fun r1 u => r1 = r0 ∧ u = h0) (zB A D cy) A) 0 0 A := by
  refine Met.ofW (cc := cX11_leaf) (maxL := 6) (ret := (some .int)) (by decide) rfl ?_
  intro p e s m args below meth c s₁ B hml hv
  obtain ⟨rfl, hW, hK, hN, hA⟩ := hv
  have X : zX A D cy p s m _ c cX11_leaf RX11 6 := ⟨B.exec, B.bytes, fun w hw => atoms_spec (ws := Cond.code yX11_leaf cX11_leaf 6 (some .int) :: wT) B.pre w (List.mem_cons_of_mem _ hw), findClass_of_methodNamed B.named, hK, hml, hN, hA⟩
  have hl := lv_entry [.ref o, .int v1, .int v2, .int v3] (n := 6) (Nat.le_of_ble_eq_true rfl)
  rw [lg_entry_eq]
  generalize (lg_sl [.ref o, .int v1, .int v2, .int v3] ++ List.replicate (6 - (lg_sl [.ref o, .int v1, .int v2, .int v3]).length) Slot.unset).toArray = ls at hl ⊢
  have hl : lv_has ls 6 [(0, .ref o), (1, .int v1), (2, .int v2), (3, .int v3)] := hl
  exact wX11_leaf_0 X B.notSynchronized B.returns o v1 v2 v3 _ _ _ _ (lv_sub hl [0, 1, 2, 3] rfl) hW va_S.rf g

theorem dX11_box_0 : decode cX11_box 0 = .ok (.aload_n 0, 1) := by decide +kernel
theorem dX11_box_1 : decode cX11_box 1 = .ok (.iload_n 1, 1) := by decide +kernel
theorem dX11_box_2 : decode cX11_box 2 = .ok (.iload_n 2, 1) := by decide +kernel
theorem dX11_box_3 : decode cX11_box 3 = .ok (.invokevirtual 184, 3) := by decide +kernel
theorem dX11_box_6 : decode cX11_box 6 = .ok (.istore 4, 2) := by decide +kernel
theorem dX11_box_8 : decode cX11_box 8 = .ok (.iload 4, 2) := by decide +kernel
theorem dX11_box_10 : decode cX11_box 10 = .ok (.ifCond .eq 10, 3) := by decide +kernel
theorem dX11_box_13 : decode cX11_box 13 = .ok (.aload_n 0, 1) := by decide +kernel
theorem dX11_box_14 : decode cX11_box 14 = .ok (.iload 4, 2) := by decide +kernel
theorem dX11_box_16 : decode cX11_box 16 = .ok (.invokevirtual 170, 3) := by decide +kernel
theorem dX11_box_19 : decode cX11_box 19 = .ok (.ireturn, 1) := by decide +kernel
theorem dX11_box_20 : decode cX11_box 20 = .ok (.iload_n 3, 1) := by decide +kernel
theorem dX11_box_21 : decode cX11_box 21 = .ok (.iconst 1, 1) := by decide +kernel
theorem dX11_box_22 : decode cX11_box 22 = .ok (.if_icmp .ge 10, 3) := by decide +kernel
theorem dX11_box_25 : decode cX11_box 25 = .ok (.aload_n 0, 1) := by decide +kernel
theorem dX11_box_26 : decode cX11_box 26 = .ok (.bipush (-4), 2) := by decide +kernel
theorem dX11_box_28 : decode cX11_box 28 = .ok (.invokevirtual 170, 3) := by decide +kernel
theorem dX11_box_31 : decode cX11_box 31 = .ok (.ireturn, 1) := by decide +kernel
theorem dX11_box_32 : decode cX11_box 32 = .ok (.aload_n 0, 1) := by decide +kernel
theorem dX11_box_33 : decode cX11_box 33 = .ok (.iload_n 1, 1) := by decide +kernel
theorem dX11_box_34 : decode cX11_box 34 = .ok (.invokevirtual 167, 3) := by decide +kernel
theorem dX11_box_37 : decode cX11_box 37 = .ok (.ifCond .ne 10, 3) := by decide +kernel
theorem dX11_box_40 : decode cX11_box 40 = .ok (.aload_n 0, 1) := by decide +kernel
theorem dX11_box_41 : decode cX11_box 41 = .ok (.bipush (-5), 2) := by decide +kernel
theorem dX11_box_43 : decode cX11_box 43 = .ok (.invokevirtual 170, 3) := by decide +kernel
theorem dX11_box_46 : decode cX11_box 46 = .ok (.ireturn, 1) := by decide +kernel
theorem dX11_box_47 : decode cX11_box 47 = .ok (.iload_n 3, 1) := by decide +kernel
theorem dX11_box_48 : decode cX11_box 48 = .ok (.bipush 8, 2) := by decide +kernel
theorem dX11_box_50 : decode cX11_box 50 = .ok (.if_icmp .gt 13, 3) := by decide +kernel
theorem dX11_box_53 : decode cX11_box 53 = .ok (.aload_n 0, 1) := by decide +kernel
theorem dX11_box_54 : decode cX11_box 54 = .ok (.getfield 145, 3) := by decide +kernel
theorem dX11_box_57 : decode cX11_box 57 = .ok (.sipush 300, 3) := by decide +kernel
theorem dX11_box_60 : decode cX11_box 60 = .ok (.if_icmp .ne 10, 3) := by decide +kernel
theorem dX11_box_63 : decode cX11_box 63 = .ok (.aload_n 0, 1) := by decide +kernel
theorem dX11_box_64 : decode cX11_box 64 = .ok (.bipush (-6), 2) := by decide +kernel
theorem dX11_box_66 : decode cX11_box 66 = .ok (.invokevirtual 170, 3) := by decide +kernel
theorem dX11_box_69 : decode cX11_box 69 = .ok (.ireturn, 1) := by decide +kernel
theorem dX11_box_70 : decode cX11_box 70 = .ok (.aload_n 0, 1) := by decide +kernel
theorem dX11_box_71 : decode cX11_box 71 = .ok (.iconst 1, 1) := by decide +kernel
theorem dX11_box_72 : decode cX11_box 72 = .ok (.aload_n 0, 1) := by decide +kernel
theorem dX11_box_73 : decode cX11_box 73 = .ok (.getfield 13, 3) := by decide +kernel
theorem dX11_box_76 : decode cX11_box 76 = .ok (.iload_n 1, 1) := by decide +kernel
theorem dX11_box_77 : decode cX11_box 77 = .ok (.iaload, 1) := by decide +kernel
theorem dX11_box_78 : decode cX11_box 78 = .ok (.iload_n 3, 1) := by decide +kernel
theorem dX11_box_79 : decode cX11_box 79 = .ok (.invokevirtual 174, 3) := by decide +kernel
theorem dX11_box_82 : decode cX11_box 82 = .ok (.istore 5, 2) := by decide +kernel
theorem dX11_box_84 : decode cX11_box 84 = .ok (.aload_n 0, 1) := by decide +kernel
theorem dX11_box_85 : decode cX11_box 85 = .ok (.iload_n 1, 1) := by decide +kernel
theorem dX11_box_86 : decode cX11_box 86 = .ok (.iload_n 2, 1) := by decide +kernel
theorem dX11_box_87 : decode cX11_box 87 = .ok (.iload 5, 2) := by decide +kernel
theorem dX11_box_89 : decode cX11_box 89 = .ok (.invokevirtual 188, 3) := by decide +kernel
theorem dX11_box_92 : decode cX11_box 92 = .ok (.aload_n 0, 1) := by decide +kernel
theorem dX11_box_93 : decode cX11_box 93 = .ok (.getfield 91, 3) := by decide +kernel
theorem dX11_box_96 : decode cX11_box 96 = .ok (.aload_n 0, 1) := by decide +kernel
theorem dX11_box_97 : decode cX11_box 97 = .ok (.getfield 13, 3) := by decide +kernel
theorem dX11_box_100 : decode cX11_box 100 = .ok (.iload_n 1, 1) := by decide +kernel
theorem dX11_box_101 : decode cX11_box 101 = .ok (.iaload, 1) := by decide +kernel
theorem dX11_box_102 : decode cX11_box 102 = .ok (.dup2, 1) := by decide +kernel
theorem dX11_box_103 : decode cX11_box 103 = .ok (.iaload, 1) := by decide +kernel
theorem dX11_box_104 : decode cX11_box 104 = .ok (.iconst 1, 1) := by decide +kernel
theorem dX11_box_105 : decode cX11_box 105 = .ok (.iadd, 1) := by decide +kernel
theorem dX11_box_106 : decode cX11_box 106 = .ok (.iastore, 1) := by decide +kernel
theorem dX11_box_107 : decode cX11_box 107 = .ok (.iload 5, 2) := by decide +kernel
theorem dX11_box_109 : decode cX11_box 109 = .ok (.ireturn, 1) := by decide +kernel
def fX11_box_63 (o : Nat) (h : Hz) : Option (Int32 × Hz) := (b1 (tg 11 o h) fun _ => (b2 (fX11_refuse o (-6) h) fun x2 s3 => some (x2, s3)))
set_option maxHeartbeats 4000000 in
set_option maxRecDepth 100000 in
theorem wX11_box_63 {r0 : Int32} {h0 : Hz} (X : zX A D cy p s m args c cX11_box RX11 6) (hlk : meth.locks = false) (hr : meth.sig.returnType = (some .int)) (o : Nat) (h : Hz) (H : Heap) (locs : List Loc) (ls : Array Slot) (hl : lv_has ls 6 [(0, .ref o)]) (hW : zW A cy D h H) (hS : va_S A s.heap H locs) (h : fX11_box_63 o h = some (r0, h0)) : W p l e ({ frames := 3, cells := 0, slots := 0, locals := 64 } : Room) s m args below meth c H locs 0 0 (MQ below (va_Qi (fun r1 u => r1 = r0 ∧ u = h0) (zB A D cy) A) args s 0 0 A) (F0 m 63 ls []) := by
  obtain ⟨hx, hb, hts, hown, hK9, hml, hN9, hA9⟩ := id X
  unfold fX11_box_63 at h
  refine lv_aload_n hx hb dX11_box_63 rfl (lv_at hl 0 rfl) ?_
  refine lv_bipush (v := (-6)) hx hb dX11_box_64 (by decide) ?_
  replace h := b1_some h
  obtain ⟨q1, gq1, h⟩ := h
  replace h := b2_some h
  obtain ⟨x2, s3, gs3, h⟩ := h
  refine z_callVi (rest := []) X hW hS (cX11_refuse_met gs3) kb_X11_refuse kv_X11_refuse kl_X11_170 (it_v gq1).1 kX11 rfl rfl ⟨Nat.le_of_ble_eq_true rfl, Nat.le_of_ble_eq_true rfl⟩ rfl rfl (by decide) hl.1 dX11_box_66 ⟨(by decide), (by decide)⟩ (fun H locs hW hS => ?_)
  exact z_eti X hlk hr hW hS h (by decide) (by decide) dX11_box_69

def fX11_box (o : Nat) (v1 : Int32) (v2 : Int32) (v3 : Int32) (h : Hz) : Option (Int32 × Hz) := (b1 (tg 11 o h) fun _ => (b2 (fX11_place o v1 v2 h) fun x2 s3 => (if x2 = 0 then (if 1 ≤ v3 then (b1 (tg 11 o s3) fun _ => (b2 (fX11_isNear o v1 s3) fun x7 s8 => (if x7 = 0 then (b1 (tg 11 o s8) fun _ => (b2 (fX11_refuse o (-5) s8) fun x27 s28 => some (x27, s28))) else (if 8 < v3 then fX11_box_63 o s8 else (b1 (gI 11 9 o s8) fun x11 => (if x11 = 300 then fX11_box_63 o s8 else (b1 (gA 11 1 o s8) fun a13 => (b1 (xI 12 a13 v1 s8) fun x14 => (b1 (tg 11 o s8) fun _ => (b2 (fX11_make o 1 x14 v3 s8) fun x16 s17 => (b1 (tg 11 o s17) fun _ => (b2 (fX11_lay o v1 v2 x16 s17) fun _ s20 => (b1 (gA 11 30 o s20) fun a21 => (b1 (gA 11 1 o s20) fun a22 => (b1 (xI 12 a22 v1 s20) fun x23 => (b1 (xI 12 a21 x23 s20) fun x24 => (b1 (yI a21 x23 (x24 + 1) s20) fun s25 => some (x16, s25)))))))))))))))))) else (b1 (tg 11 o s3) fun _ => (b2 (fX11_refuse o (-4) s3) fun x30 s31 => some (x30, s31)))) else (b1 (tg 11 o s3) fun _ => (b2 (fX11_refuse o x2 s3) fun x33 s34 => some (x33, s34))))))
set_option maxHeartbeats 4000000 in
set_option maxRecDepth 100000 in
theorem wX11_box_0 {r0 : Int32} {h0 : Hz} (X : zX A D cy p s m args c cX11_box RX11 6) (hlk : meth.locks = false) (hr : meth.sig.returnType = (some .int)) (o : Nat) (v1 : Int32) (v2 : Int32) (v3 : Int32) (h : Hz) (H : Heap) (locs : List Loc) (ls : Array Slot) (hl : lv_has ls 6 [(0, .ref o), (1, .int v1), (2, .int v2), (3, .int v3)]) (hW : zW A cy D h H) (hS : va_S A s.heap H locs) (h : fX11_box o v1 v2 v3 h = some (r0, h0)) : W p l e ({ frames := 3, cells := 0, slots := 0, locals := 64 } : Room) s m args below meth c H locs 0 0 (MQ below (va_Qi (fun r1 u => r1 = r0 ∧ u = h0) (zB A D cy) A) args s 0 0 A) (F0 m 0 ls []) := by
  obtain ⟨hx, hb, hts, hown, hK9, hml, hN9, hA9⟩ := id X
  unfold fX11_box at h
  refine lv_aload_n hx hb dX11_box_0 rfl (lv_at hl 0 rfl) ?_
  refine lv_iload_n hx hb dX11_box_1 rfl (lv_at hl 1 rfl) ?_
  refine lv_iload_n hx hb dX11_box_2 rfl (lv_at hl 2 rfl) ?_
  replace h := b1_some h
  obtain ⟨q1, gq1, h⟩ := h
  replace h := b2_some h
  obtain ⟨x2, s3, gs3, h⟩ := h
  refine z_callVi (rest := []) X hW hS (cX11_place_met gs3) kb_X11_place kv_X11_place kl_X11_184 (it_v gq1).1 kX11 rfl rfl ⟨Nat.le_of_ble_eq_true rfl, Nat.le_of_ble_eq_true rfl⟩ rfl rfl (by decide) hl.1 dX11_box_3 ⟨(by decide), (by decide)⟩ (fun H locs hW hS => ?_)
  refine lv_istore (lv' := [(4, .int x2), (0, .ref o), (1, .int v1), (2, .int v2), (3, .int v3)]) hx hb dX11_box_6 hl (by decide) rfl (fun ls hl => ?_)
  refine lv_iload hx hb dX11_box_8 (lv_at hl 0 rfl) ?_
  refine lv_if_eq (tgt := 20) hx hb dX11_box_10 (by decide) (fun c4 => ?_) (fun c4 => ?_)
  · replace h := it_t h c4
    refine lv_iload_n hx hb dX11_box_20 rfl (lv_at hl 4 rfl) ?_
    refine lv_iconst (v := 1) hx hb dX11_box_21 (by decide) ?_
    refine lv_icmp_ge (tgt := 32) hx hb dX11_box_22 (by decide) (fun c5 => ?_) (fun c5 => ?_)
    · replace h := it_t h c5
      refine lv_aload_n hx hb dX11_box_32 rfl (lv_at hl 1 rfl) ?_
      refine lv_iload_n hx hb dX11_box_33 rfl (lv_at hl 2 rfl) ?_
      replace h := b1_some h
      obtain ⟨q6, gq6, h⟩ := h
      replace h := b2_some h
      obtain ⟨x7, s8, gs8, h⟩ := h
      refine z_callVi (rest := []) X hW hS (cX11_isNear_met gs8) kb_X11_isNear kv_X11_isNear kl_X11_167 (it_v gq6).1 kX11 rfl rfl ⟨Nat.le_of_ble_eq_true rfl, Nat.le_of_ble_eq_true rfl⟩ rfl rfl (by decide) hl.1 dX11_box_34 ⟨(by decide), (by decide)⟩ (fun H locs hW hS => ?_)
      refine lv_if_ne (tgt := 47) hx hb dX11_box_37 (by decide) (fun c9 => ?_) (fun c9 => ?_)
      · replace h := it_f h c9
        refine lv_iload_n hx hb dX11_box_47 rfl (lv_at hl 4 rfl) ?_
        refine lv_bipush (v := 8) hx hb dX11_box_48 (by decide) ?_
        refine lv_icmp_gt (tgt := 63) hx hb dX11_box_50 (by decide) (fun c10 => ?_) (fun c10 => ?_)
        · replace h := it_t h c10
          exact wX11_box_63 X hlk hr o _ _ _ _ (lv_sub hl [1] rfl) hW hS h
        · replace h := it_f h c10
          refine lv_aload_n hx hb dX11_box_53 rfl (lv_at hl 1 rfl) ?_
          replace h := b1_some h
          obtain ⟨x11, gx11, h⟩ := h
          refine z_getI X hW gx11 kX11 (by decide) (by decide) kf_X11_145 dX11_box_54 ?_
          refine lv_sipush (v := 300) hx hb dX11_box_57 (by decide) ?_
          refine lv_icmp_ne (tgt := 70) hx hb dX11_box_60 (by decide) (fun c12 => ?_) (fun c12 => ?_)
          · replace h := it_f h c12
            refine lv_aload_n hx hb dX11_box_70 rfl (lv_at hl 1 rfl) ?_
            refine lv_iconst (v := 1) hx hb dX11_box_71 (by decide) ?_
            refine lv_aload_n hx hb dX11_box_72 rfl (lv_at hl 1 rfl) ?_
            replace h := b1_some h
            obtain ⟨a13, ga13, h⟩ := h
            refine z_getA X hW ga13 kX11 (by decide) (by decide) kf_X11_13 dX11_box_73 ?_
            refine lv_iload_n hx hb dX11_box_76 rfl (lv_at hl 2 rfl) ?_
            replace h := b1_some h
            obtain ⟨x14, gx14, h⟩ := h
            refine z_aldI X hW gx14 dX11_box_77 ?_
            refine lv_iload_n hx hb dX11_box_78 rfl (lv_at hl 4 rfl) ?_
            replace h := b1_some h
            obtain ⟨q15, gq15, h⟩ := h
            replace h := b2_some h
            obtain ⟨x16, s17, gs17, h⟩ := h
            refine z_callVi (rest := []) X hW hS (cX11_make_met gs17) kb_X11_make kv_X11_make kl_X11_174 (it_v gq15).1 kX11 rfl rfl ⟨Nat.le_of_ble_eq_true rfl, Nat.le_of_ble_eq_true rfl⟩ rfl rfl (by decide) hl.1 dX11_box_79 ⟨(by decide), (by decide)⟩ (fun H locs hW hS => ?_)
            refine lv_istore (lv' := [(5, .int x16), (4, .int x2), (0, .ref o), (1, .int v1), (2, .int v2), (3, .int v3)]) hx hb dX11_box_82 hl (by decide) rfl (fun ls hl => ?_)
            refine lv_aload_n hx hb dX11_box_84 rfl (lv_at hl 2 rfl) ?_
            refine lv_iload_n hx hb dX11_box_85 rfl (lv_at hl 3 rfl) ?_
            refine lv_iload_n hx hb dX11_box_86 rfl (lv_at hl 4 rfl) ?_
            refine lv_iload hx hb dX11_box_87 (lv_at hl 0 rfl) ?_
            replace h := b1_some h
            obtain ⟨q18, gq18, h⟩ := h
            replace h := b2_some h
            obtain ⟨_ur19, s20, gs20, h⟩ := h
            refine z_callVv (rest := []) X hW hS (cX11_lay_met gs20) kb_X11_lay kv_X11_lay kl_X11_188 (it_v gq18).1 kX11 rfl rfl ⟨Nat.le_of_ble_eq_true rfl, Nat.le_of_ble_eq_true rfl⟩ rfl rfl (by decide) hl.1 dX11_box_89 ⟨(by decide), (by decide)⟩ (fun H locs hW hS => ?_)
            refine lv_aload_n hx hb dX11_box_92 rfl (lv_at hl 2 rfl) ?_
            replace h := b1_some h
            obtain ⟨a21, ga21, h⟩ := h
            refine z_getA X hW ga21 kX11 (by decide) (by decide) kf_X11_91 dX11_box_93 ?_
            refine lv_aload_n hx hb dX11_box_96 rfl (lv_at hl 2 rfl) ?_
            replace h := b1_some h
            obtain ⟨a22, ga22, h⟩ := h
            refine z_getA X hW ga22 kX11 (by decide) (by decide) kf_X11_13 dX11_box_97 ?_
            refine lv_iload_n hx hb dX11_box_100 rfl (lv_at hl 3 rfl) ?_
            replace h := b1_some h
            obtain ⟨x23, gx23, h⟩ := h
            refine z_aldI X hW gx23 dX11_box_101 ?_
            refine lv_dup2_11 hx hb dX11_box_102 rfl rfl ?_
            replace h := b1_some h
            obtain ⟨x24, gx24, h⟩ := h
            refine z_aldI X hW gx24 dX11_box_103 ?_
            refine lv_iconst (v := 1) hx hb dX11_box_104 (by decide) ?_
            refine lv_iadd hx hb dX11_box_105 ?_
            replace h := b1_some h
            obtain ⟨s25, gs25, h⟩ := h
            refine z_astI X hW hS gs25 dX11_box_106 (fun H locs hW hS => ?_)
            refine lv_iload hx hb dX11_box_107 (lv_at hl 0 rfl) ?_
            exact z_eti X hlk hr hW hS h (by decide) (by decide) dX11_box_109
          · replace h := it_t h c12
            exact wX11_box_63 X hlk hr o _ _ _ _ (lv_sub hl [1] rfl) hW hS h
      · replace h := it_t h c9
        refine lv_aload_n hx hb dX11_box_40 rfl (lv_at hl 1 rfl) ?_
        refine lv_bipush (v := (-5)) hx hb dX11_box_41 (by decide) ?_
        replace h := b1_some h
        obtain ⟨q26, gq26, h⟩ := h
        replace h := b2_some h
        obtain ⟨x27, s28, gs28, h⟩ := h
        refine z_callVi (rest := []) X hW hS (cX11_refuse_met gs28) kb_X11_refuse kv_X11_refuse kl_X11_170 (it_v gq26).1 kX11 rfl rfl ⟨Nat.le_of_ble_eq_true rfl, Nat.le_of_ble_eq_true rfl⟩ rfl rfl (by decide) hl.1 dX11_box_43 ⟨(by decide), (by decide)⟩ (fun H locs hW hS => ?_)
        exact z_eti X hlk hr hW hS h (by decide) (by decide) dX11_box_46
    · replace h := it_f h c5
      refine lv_aload_n hx hb dX11_box_25 rfl (lv_at hl 1 rfl) ?_
      refine lv_bipush (v := (-4)) hx hb dX11_box_26 (by decide) ?_
      replace h := b1_some h
      obtain ⟨q29, gq29, h⟩ := h
      replace h := b2_some h
      obtain ⟨x30, s31, gs31, h⟩ := h
      refine z_callVi (rest := []) X hW hS (cX11_refuse_met gs31) kb_X11_refuse kv_X11_refuse kl_X11_170 (it_v gq29).1 kX11 rfl rfl ⟨Nat.le_of_ble_eq_true rfl, Nat.le_of_ble_eq_true rfl⟩ rfl rfl (by decide) hl.1 dX11_box_28 ⟨(by decide), (by decide)⟩ (fun H locs hW hS => ?_)
      exact z_eti X hlk hr hW hS h (by decide) (by decide) dX11_box_31
  · replace h := it_f h c4
    refine lv_aload_n hx hb dX11_box_13 rfl (lv_at hl 1 rfl) ?_
    refine lv_iload hx hb dX11_box_14 (lv_at hl 0 rfl) ?_
    replace h := b1_some h
    obtain ⟨q32, gq32, h⟩ := h
    replace h := b2_some h
    obtain ⟨x33, s34, gs34, h⟩ := h
    refine z_callVi (rest := []) X hW hS (cX11_refuse_met gs34) kb_X11_refuse kv_X11_refuse kl_X11_170 (it_v gq32).1 kX11 rfl rfl ⟨Nat.le_of_ble_eq_true rfl, Nat.le_of_ble_eq_true rfl⟩ rfl rfl (by decide) hl.1 dX11_box_16 ⟨(by decide), (by decide)⟩ (fun H locs hW hS => ?_)
    exact z_eti X hlk hr hW hS h (by decide) (by decide) dX11_box_19

set_option maxHeartbeats 4000000 in
set_option maxRecDepth 100000 in
theorem cX11_box_met {l : Launch} {A : Nat → Prop} {D : va_G} {cy : Nat → ClassId} {r0 : Int32} {h0 : Hz} {o : Nat} {v1 : Int32} {v2 : Int32} {v3 : Int32} {h : Hz} (g : fX11_box o v1 v2 v3 h = some (r0, h0)) : Met l yX11_box (Cond.code yX11_box cX11_box 6 (some .int) :: wT) ({ frames := 3, cells := 0, slots := 0, locals := 64 } : Room) (va_Pc [.ref o, .int v1, .int v2, .int v3] (zS A D cy h)) (va_Qi (fun r1 u => r1 = r0 ∧ u = h0) (zB A D cy) A) 0 0 A := by
  refine Met.ofW (cc := cX11_box) (maxL := 6) (ret := (some .int)) (by decide) rfl ?_
  intro p e s m args below meth c s₁ B hml hv
  obtain ⟨rfl, hW, hK, hN, hA⟩ := hv
  have X : zX A D cy p s m _ c cX11_box RX11 6 := ⟨B.exec, B.bytes, fun w hw => atoms_spec (ws := Cond.code yX11_box cX11_box 6 (some .int) :: wT) B.pre w (List.mem_cons_of_mem _ hw), findClass_of_methodNamed B.named, hK, hml, hN, hA⟩
  have hl := lv_entry [.ref o, .int v1, .int v2, .int v3] (n := 6) (Nat.le_of_ble_eq_true rfl)
  rw [lg_entry_eq]
  generalize (lg_sl [.ref o, .int v1, .int v2, .int v3] ++ List.replicate (6 - (lg_sl [.ref o, .int v1, .int v2, .int v3]).length) Slot.unset).toArray = ls at hl ⊢
  have hl : lv_has ls 6 [(0, .ref o), (1, .int v1), (2, .int v2), (3, .int v3)] := hl
  exact wX11_box_0 X B.notSynchronized B.returns o v1 v2 v3 _ _ _ _ (lv_sub hl [0, 1, 2, 3] rfl) hW va_S.rf g

theorem dX11_put_0 : decode cX11_put 0 = .ok (.aload_n 0, 1) := by decide +kernel
theorem dX11_put_1 : decode cX11_put 1 = .ok (.iload_n 1, 1) := by decide +kernel
theorem dX11_put_2 : decode cX11_put 2 = .ok (.invokevirtual 178, 3) := by decide +kernel
theorem dX11_put_5 : decode cX11_put 5 = .ok (.ifCond .eq 11, 3) := by decide +kernel
theorem dX11_put_8 : decode cX11_put 8 = .ok (.aload_n 0, 1) := by decide +kernel
theorem dX11_put_9 : decode cX11_put 9 = .ok (.iload_n 3, 1) := by decide +kernel
theorem dX11_put_10 : decode cX11_put 10 = .ok (.invokevirtual 178, 3) := by decide +kernel
theorem dX11_put_13 : decode cX11_put 13 = .ok (.ifCond .ne 9, 3) := by decide +kernel
theorem dX11_put_16 : decode cX11_put 16 = .ok (.aload_n 0, 1) := by decide +kernel
theorem dX11_put_17 : decode cX11_put 17 = .ok (.iconst (-1), 1) := by decide +kernel
theorem dX11_put_18 : decode cX11_put 18 = .ok (.invokevirtual 170, 3) := by decide +kernel
theorem dX11_put_21 : decode cX11_put 21 = .ok (.ireturn, 1) := by decide +kernel
theorem dX11_put_22 : decode cX11_put 22 = .ok (.aload_n 0, 1) := by decide +kernel
theorem dX11_put_23 : decode cX11_put 23 = .ok (.iload_n 1, 1) := by decide +kernel
theorem dX11_put_24 : decode cX11_put 24 = .ok (.iload_n 2, 1) := by decide +kernel
theorem dX11_put_25 : decode cX11_put 25 = .ok (.invokevirtual 184, 3) := by decide +kernel
theorem dX11_put_28 : decode cX11_put 28 = .ok (.istore 4, 2) := by decide +kernel
theorem dX11_put_30 : decode cX11_put 30 = .ok (.iload 4, 2) := by decide +kernel
theorem dX11_put_32 : decode cX11_put 32 = .ok (.ifCond .eq 10, 3) := by decide +kernel
theorem dX11_put_35 : decode cX11_put 35 = .ok (.aload_n 0, 1) := by decide +kernel
theorem dX11_put_36 : decode cX11_put 36 = .ok (.iload 4, 2) := by decide +kernel
theorem dX11_put_38 : decode cX11_put 38 = .ok (.invokevirtual 170, 3) := by decide +kernel
theorem dX11_put_41 : decode cX11_put 41 = .ok (.ireturn, 1) := by decide +kernel
theorem dX11_put_42 : decode cX11_put 42 = .ok (.aload_n 0, 1) := by decide +kernel
theorem dX11_put_43 : decode cX11_put 43 = .ok (.getfield 13, 3) := by decide +kernel
theorem dX11_put_46 : decode cX11_put 46 = .ok (.iload_n 1, 1) := by decide +kernel
theorem dX11_put_47 : decode cX11_put 47 = .ok (.iaload, 1) := by decide +kernel
theorem dX11_put_48 : decode cX11_put 48 = .ok (.aload_n 0, 1) := by decide +kernel
theorem dX11_put_49 : decode cX11_put 49 = .ok (.getfield 13, 3) := by decide +kernel
theorem dX11_put_52 : decode cX11_put 52 = .ok (.iload_n 3, 1) := by decide +kernel
theorem dX11_put_53 : decode cX11_put 53 = .ok (.iaload, 1) := by decide +kernel
theorem dX11_put_54 : decode cX11_put 54 = .ok (.if_icmp .ne 19, 3) := by decide +kernel
theorem dX11_put_57 : decode cX11_put 57 = .ok (.aload_n 0, 1) := by decide +kernel
theorem dX11_put_58 : decode cX11_put 58 = .ok (.iload_n 1, 1) := by decide +kernel
theorem dX11_put_59 : decode cX11_put 59 = .ok (.invokevirtual 167, 3) := by decide +kernel
theorem dX11_put_62 : decode cX11_put 62 = .ok (.ifCond .eq 11, 3) := by decide +kernel
theorem dX11_put_65 : decode cX11_put 65 = .ok (.aload_n 0, 1) := by decide +kernel
theorem dX11_put_66 : decode cX11_put 66 = .ok (.iload_n 3, 1) := by decide +kernel
theorem dX11_put_67 : decode cX11_put 67 = .ok (.invokevirtual 167, 3) := by decide +kernel
theorem dX11_put_70 : decode cX11_put 70 = .ok (.ifCond .ne 10, 3) := by decide +kernel
theorem dX11_put_73 : decode cX11_put 73 = .ok (.aload_n 0, 1) := by decide +kernel
theorem dX11_put_74 : decode cX11_put 74 = .ok (.bipush (-5), 2) := by decide +kernel
theorem dX11_put_76 : decode cX11_put 76 = .ok (.invokevirtual 170, 3) := by decide +kernel
theorem dX11_put_79 : decode cX11_put 79 = .ok (.ireturn, 1) := by decide +kernel
theorem dX11_put_80 : decode cX11_put 80 = .ok (.aload_n 0, 1) := by decide +kernel
theorem dX11_put_81 : decode cX11_put 81 = .ok (.iload_n 1, 1) := by decide +kernel
theorem dX11_put_82 : decode cX11_put 82 = .ok (.iload_n 2, 1) := by decide +kernel
theorem dX11_put_83 : decode cX11_put 83 = .ok (.iload_n 3, 1) := by decide +kernel
theorem dX11_put_84 : decode cX11_put 84 = .ok (.invokevirtual 188, 3) := by decide +kernel
theorem dX11_put_87 : decode cX11_put 87 = .ok (.aload_n 0, 1) := by decide +kernel
theorem dX11_put_88 : decode cX11_put 88 = .ok (.getfield 91, 3) := by decide +kernel
theorem dX11_put_91 : decode cX11_put 91 = .ok (.aload_n 0, 1) := by decide +kernel
theorem dX11_put_92 : decode cX11_put 92 = .ok (.getfield 13, 3) := by decide +kernel
theorem dX11_put_95 : decode cX11_put 95 = .ok (.iload_n 1, 1) := by decide +kernel
theorem dX11_put_96 : decode cX11_put 96 = .ok (.iaload, 1) := by decide +kernel
theorem dX11_put_97 : decode cX11_put 97 = .ok (.dup2, 1) := by decide +kernel
theorem dX11_put_98 : decode cX11_put 98 = .ok (.iaload, 1) := by decide +kernel
theorem dX11_put_99 : decode cX11_put 99 = .ok (.iconst 1, 1) := by decide +kernel
theorem dX11_put_100 : decode cX11_put 100 = .ok (.iadd, 1) := by decide +kernel
theorem dX11_put_101 : decode cX11_put 101 = .ok (.iastore, 1) := by decide +kernel
theorem dX11_put_102 : decode cX11_put 102 = .ok (.iconst 1, 1) := by decide +kernel
theorem dX11_put_103 : decode cX11_put 103 = .ok (.ireturn, 1) := by decide +kernel
def fX11_put_16 (o : Nat) (h : Hz) : Option (Int32 × Hz) := (b1 (tg 11 o h) fun _ => (b2 (fX11_refuse o (-1) h) fun x2 s3 => some (x2, s3)))
set_option maxHeartbeats 4000000 in
set_option maxRecDepth 100000 in
theorem wX11_put_16 {r0 : Int32} {h0 : Hz} (X : zX A D cy p s m args c cX11_put RX11 5) (hlk : meth.locks = false) (hr : meth.sig.returnType = (some .int)) (o : Nat) (h : Hz) (H : Heap) (locs : List Loc) (ls : Array Slot) (hl : lv_has ls 5 [(0, .ref o)]) (hW : zW A cy D h H) (hS : va_S A s.heap H locs) (h : fX11_put_16 o h = some (r0, h0)) : W p l e ({ frames := 3, cells := 0, slots := 0, locals := 64 } : Room) s m args below meth c H locs 0 0 (MQ below (va_Qi (fun r1 u => r1 = r0 ∧ u = h0) (zB A D cy) A) args s 0 0 A) (F0 m 16 ls []) := by
  obtain ⟨hx, hb, hts, hown, hK9, hml, hN9, hA9⟩ := id X
  unfold fX11_put_16 at h
  refine lv_aload_n hx hb dX11_put_16 rfl (lv_at hl 0 rfl) ?_
  refine lv_iconst (v := (-1)) hx hb dX11_put_17 (by decide) ?_
  replace h := b1_some h
  obtain ⟨q1, gq1, h⟩ := h
  replace h := b2_some h
  obtain ⟨x2, s3, gs3, h⟩ := h
  refine z_callVi (rest := []) X hW hS (cX11_refuse_met gs3) kb_X11_refuse kv_X11_refuse kl_X11_170 (it_v gq1).1 kX11 rfl rfl ⟨Nat.le_of_ble_eq_true rfl, Nat.le_of_ble_eq_true rfl⟩ rfl rfl (by decide) hl.1 dX11_put_18 ⟨(by decide), (by decide)⟩ (fun H locs hW hS => ?_)
  exact z_eti X hlk hr hW hS h (by decide) (by decide) dX11_put_21

def fX11_put_73 (o : Nat) (h : Hz) : Option (Int32 × Hz) := (b1 (tg 11 o h) fun _ => (b2 (fX11_refuse o (-5) h) fun x2 s3 => some (x2, s3)))
set_option maxHeartbeats 4000000 in
set_option maxRecDepth 100000 in
theorem wX11_put_73 {r0 : Int32} {h0 : Hz} (X : zX A D cy p s m args c cX11_put RX11 5) (hlk : meth.locks = false) (hr : meth.sig.returnType = (some .int)) (o : Nat) (h : Hz) (H : Heap) (locs : List Loc) (ls : Array Slot) (hl : lv_has ls 5 [(0, .ref o)]) (hW : zW A cy D h H) (hS : va_S A s.heap H locs) (h : fX11_put_73 o h = some (r0, h0)) : W p l e ({ frames := 3, cells := 0, slots := 0, locals := 64 } : Room) s m args below meth c H locs 0 0 (MQ below (va_Qi (fun r1 u => r1 = r0 ∧ u = h0) (zB A D cy) A) args s 0 0 A) (F0 m 73 ls []) := by
  obtain ⟨hx, hb, hts, hown, hK9, hml, hN9, hA9⟩ := id X
  unfold fX11_put_73 at h
  refine lv_aload_n hx hb dX11_put_73 rfl (lv_at hl 0 rfl) ?_
  refine lv_bipush (v := (-5)) hx hb dX11_put_74 (by decide) ?_
  replace h := b1_some h
  obtain ⟨q1, gq1, h⟩ := h
  replace h := b2_some h
  obtain ⟨x2, s3, gs3, h⟩ := h
  refine z_callVi (rest := []) X hW hS (cX11_refuse_met gs3) kb_X11_refuse kv_X11_refuse kl_X11_170 (it_v gq1).1 kX11 rfl rfl ⟨Nat.le_of_ble_eq_true rfl, Nat.le_of_ble_eq_true rfl⟩ rfl rfl (by decide) hl.1 dX11_put_76 ⟨(by decide), (by decide)⟩ (fun H locs hW hS => ?_)
  exact z_eti X hlk hr hW hS h (by decide) (by decide) dX11_put_79

def fX11_put (o : Nat) (v1 : Int32) (v2 : Int32) (v3 : Int32) (h : Hz) : Option (Int32 × Hz) := (b1 (tg 11 o h) fun _ => (b2 (fX11_isThere o v1 h) fun x2 s3 => (if x2 = 0 then fX11_put_16 o s3 else (b1 (tg 11 o s3) fun _ => (b2 (fX11_isThere o v3 s3) fun x6 s7 => (if x6 = 0 then fX11_put_16 o s7 else (b1 (tg 11 o s7) fun _ => (b2 (fX11_place o v1 v2 s7) fun x10 s11 => (if x10 = 0 then (b1 (gA 11 1 o s11) fun a13 => (b1 (xI 12 a13 v1 s11) fun x14 => (b1 (gA 11 1 o s11) fun a15 => (b1 (xI 12 a15 v3 s11) fun x16 => (if x14 = x16 then (b1 (tg 11 o s11) fun _ => (b2 (fX11_isNear o v1 s11) fun x19 s20 => (if x19 = 0 then fX11_put_73 o s20 else (b1 (tg 11 o s20) fun _ => (b2 (fX11_isNear o v3 s20) fun x23 s24 => (if x23 = 0 then fX11_put_73 o s24 else (b1 (tg 11 o s24) fun _ => (b2 (fX11_lay o v1 v2 v3 s24) fun _ s28 => (b1 (gA 11 30 o s28) fun a29 => (b1 (gA 11 1 o s28) fun a30 => (b1 (xI 12 a30 v1 s28) fun x31 => (b1 (xI 12 a29 x31 s28) fun x32 => (b1 (yI a29 x31 (x32 + 1) s28) fun s33 => some (1, s33)))))))))))))) else fX11_put_73 o s11))))) else (b1 (tg 11 o s11) fun _ => (b2 (fX11_refuse o x10 s11) fun x35 s36 => some (x35, s36))))))))))))
set_option maxHeartbeats 4000000 in
set_option maxRecDepth 100000 in
theorem wX11_put_0 {r0 : Int32} {h0 : Hz} (X : zX A D cy p s m args c cX11_put RX11 5) (hlk : meth.locks = false) (hr : meth.sig.returnType = (some .int)) (o : Nat) (v1 : Int32) (v2 : Int32) (v3 : Int32) (h : Hz) (H : Heap) (locs : List Loc) (ls : Array Slot) (hl : lv_has ls 5 [(0, .ref o), (1, .int v1), (2, .int v2), (3, .int v3)]) (hW : zW A cy D h H) (hS : va_S A s.heap H locs) (h : fX11_put o v1 v2 v3 h = some (r0, h0)) : W p l e ({ frames := 3, cells := 0, slots := 0, locals := 64 } : Room) s m args below meth c H locs 0 0 (MQ below (va_Qi (fun r1 u => r1 = r0 ∧ u = h0) (zB A D cy) A) args s 0 0 A) (F0 m 0 ls []) := by
  obtain ⟨hx, hb, hts, hown, hK9, hml, hN9, hA9⟩ := id X
  unfold fX11_put at h
  refine lv_aload_n hx hb dX11_put_0 rfl (lv_at hl 0 rfl) ?_
  refine lv_iload_n hx hb dX11_put_1 rfl (lv_at hl 1 rfl) ?_
  replace h := b1_some h
  obtain ⟨q1, gq1, h⟩ := h
  replace h := b2_some h
  obtain ⟨x2, s3, gs3, h⟩ := h
  refine z_callVi (rest := []) X hW hS (cX11_isThere_met gs3) kb_X11_isThere kv_X11_isThere kl_X11_178 (it_v gq1).1 kX11 rfl rfl ⟨Nat.le_of_ble_eq_true rfl, Nat.le_of_ble_eq_true rfl⟩ rfl rfl (by decide) hl.1 dX11_put_2 ⟨(by decide), (by decide)⟩ (fun H locs hW hS => ?_)
  refine lv_if_eq (tgt := 16) hx hb dX11_put_5 (by decide) (fun c4 => ?_) (fun c4 => ?_)
  · replace h := it_t h c4
    exact wX11_put_16 X hlk hr o _ _ _ _ (lv_sub hl [0] rfl) hW hS h
  · replace h := it_f h c4
    refine lv_aload_n hx hb dX11_put_8 rfl (lv_at hl 0 rfl) ?_
    refine lv_iload_n hx hb dX11_put_9 rfl (lv_at hl 3 rfl) ?_
    replace h := b1_some h
    obtain ⟨q5, gq5, h⟩ := h
    replace h := b2_some h
    obtain ⟨x6, s7, gs7, h⟩ := h
    refine z_callVi (rest := []) X hW hS (cX11_isThere_met gs7) kb_X11_isThere kv_X11_isThere kl_X11_178 (it_v gq5).1 kX11 rfl rfl ⟨Nat.le_of_ble_eq_true rfl, Nat.le_of_ble_eq_true rfl⟩ rfl rfl (by decide) hl.1 dX11_put_10 ⟨(by decide), (by decide)⟩ (fun H locs hW hS => ?_)
    refine lv_if_ne (tgt := 22) hx hb dX11_put_13 (by decide) (fun c8 => ?_) (fun c8 => ?_)
    · replace h := it_f h c8
      refine lv_aload_n hx hb dX11_put_22 rfl (lv_at hl 0 rfl) ?_
      refine lv_iload_n hx hb dX11_put_23 rfl (lv_at hl 1 rfl) ?_
      refine lv_iload_n hx hb dX11_put_24 rfl (lv_at hl 2 rfl) ?_
      replace h := b1_some h
      obtain ⟨q9, gq9, h⟩ := h
      replace h := b2_some h
      obtain ⟨x10, s11, gs11, h⟩ := h
      refine z_callVi (rest := []) X hW hS (cX11_place_met gs11) kb_X11_place kv_X11_place kl_X11_184 (it_v gq9).1 kX11 rfl rfl ⟨Nat.le_of_ble_eq_true rfl, Nat.le_of_ble_eq_true rfl⟩ rfl rfl (by decide) hl.1 dX11_put_25 ⟨(by decide), (by decide)⟩ (fun H locs hW hS => ?_)
      refine lv_istore (lv' := [(4, .int x10), (0, .ref o), (1, .int v1), (2, .int v2), (3, .int v3)]) hx hb dX11_put_28 hl (by decide) rfl (fun ls hl => ?_)
      refine lv_iload hx hb dX11_put_30 (lv_at hl 0 rfl) ?_
      refine lv_if_eq (tgt := 42) hx hb dX11_put_32 (by decide) (fun c12 => ?_) (fun c12 => ?_)
      · replace h := it_t h c12
        refine lv_aload_n hx hb dX11_put_42 rfl (lv_at hl 1 rfl) ?_
        replace h := b1_some h
        obtain ⟨a13, ga13, h⟩ := h
        refine z_getA X hW ga13 kX11 (by decide) (by decide) kf_X11_13 dX11_put_43 ?_
        refine lv_iload_n hx hb dX11_put_46 rfl (lv_at hl 2 rfl) ?_
        replace h := b1_some h
        obtain ⟨x14, gx14, h⟩ := h
        refine z_aldI X hW gx14 dX11_put_47 ?_
        refine lv_aload_n hx hb dX11_put_48 rfl (lv_at hl 1 rfl) ?_
        replace h := b1_some h
        obtain ⟨a15, ga15, h⟩ := h
        refine z_getA X hW ga15 kX11 (by decide) (by decide) kf_X11_13 dX11_put_49 ?_
        refine lv_iload_n hx hb dX11_put_52 rfl (lv_at hl 4 rfl) ?_
        replace h := b1_some h
        obtain ⟨x16, gx16, h⟩ := h
        refine z_aldI X hW gx16 dX11_put_53 ?_
        refine lv_icmp_ne (tgt := 73) hx hb dX11_put_54 (by decide) (fun c17 => ?_) (fun c17 => ?_)
        · replace h := it_f h c17
          exact wX11_put_73 X hlk hr o _ _ _ _ (lv_sub hl [1] rfl) hW hS h
        · replace h := it_t h c17
          refine lv_aload_n hx hb dX11_put_57 rfl (lv_at hl 1 rfl) ?_
          refine lv_iload_n hx hb dX11_put_58 rfl (lv_at hl 2 rfl) ?_
          replace h := b1_some h
          obtain ⟨q18, gq18, h⟩ := h
          replace h := b2_some h
          obtain ⟨x19, s20, gs20, h⟩ := h
          refine z_callVi (rest := []) X hW hS (cX11_isNear_met gs20) kb_X11_isNear kv_X11_isNear kl_X11_167 (it_v gq18).1 kX11 rfl rfl ⟨Nat.le_of_ble_eq_true rfl, Nat.le_of_ble_eq_true rfl⟩ rfl rfl (by decide) hl.1 dX11_put_59 ⟨(by decide), (by decide)⟩ (fun H locs hW hS => ?_)
          refine lv_if_eq (tgt := 73) hx hb dX11_put_62 (by decide) (fun c21 => ?_) (fun c21 => ?_)
          · replace h := it_t h c21
            exact wX11_put_73 X hlk hr o _ _ _ _ (lv_sub hl [1] rfl) hW hS h
          · replace h := it_f h c21
            refine lv_aload_n hx hb dX11_put_65 rfl (lv_at hl 1 rfl) ?_
            refine lv_iload_n hx hb dX11_put_66 rfl (lv_at hl 4 rfl) ?_
            replace h := b1_some h
            obtain ⟨q22, gq22, h⟩ := h
            replace h := b2_some h
            obtain ⟨x23, s24, gs24, h⟩ := h
            refine z_callVi (rest := []) X hW hS (cX11_isNear_met gs24) kb_X11_isNear kv_X11_isNear kl_X11_167 (it_v gq22).1 kX11 rfl rfl ⟨Nat.le_of_ble_eq_true rfl, Nat.le_of_ble_eq_true rfl⟩ rfl rfl (by decide) hl.1 dX11_put_67 ⟨(by decide), (by decide)⟩ (fun H locs hW hS => ?_)
            refine lv_if_ne (tgt := 80) hx hb dX11_put_70 (by decide) (fun c25 => ?_) (fun c25 => ?_)
            · replace h := it_f h c25
              refine lv_aload_n hx hb dX11_put_80 rfl (lv_at hl 1 rfl) ?_
              refine lv_iload_n hx hb dX11_put_81 rfl (lv_at hl 2 rfl) ?_
              refine lv_iload_n hx hb dX11_put_82 rfl (lv_at hl 3 rfl) ?_
              refine lv_iload_n hx hb dX11_put_83 rfl (lv_at hl 4 rfl) ?_
              replace h := b1_some h
              obtain ⟨q26, gq26, h⟩ := h
              replace h := b2_some h
              obtain ⟨_ur27, s28, gs28, h⟩ := h
              refine z_callVv (rest := []) X hW hS (cX11_lay_met gs28) kb_X11_lay kv_X11_lay kl_X11_188 (it_v gq26).1 kX11 rfl rfl ⟨Nat.le_of_ble_eq_true rfl, Nat.le_of_ble_eq_true rfl⟩ rfl rfl (by decide) hl.1 dX11_put_84 ⟨(by decide), (by decide)⟩ (fun H locs hW hS => ?_)
              refine lv_aload_n hx hb dX11_put_87 rfl (lv_at hl 1 rfl) ?_
              replace h := b1_some h
              obtain ⟨a29, ga29, h⟩ := h
              refine z_getA X hW ga29 kX11 (by decide) (by decide) kf_X11_91 dX11_put_88 ?_
              refine lv_aload_n hx hb dX11_put_91 rfl (lv_at hl 1 rfl) ?_
              replace h := b1_some h
              obtain ⟨a30, ga30, h⟩ := h
              refine z_getA X hW ga30 kX11 (by decide) (by decide) kf_X11_13 dX11_put_92 ?_
              refine lv_iload_n hx hb dX11_put_95 rfl (lv_at hl 2 rfl) ?_
              replace h := b1_some h
              obtain ⟨x31, gx31, h⟩ := h
              refine z_aldI X hW gx31 dX11_put_96 ?_
              refine lv_dup2_11 hx hb dX11_put_97 rfl rfl ?_
              replace h := b1_some h
              obtain ⟨x32, gx32, h⟩ := h
              refine z_aldI X hW gx32 dX11_put_98 ?_
              refine lv_iconst (v := 1) hx hb dX11_put_99 (by decide) ?_
              refine lv_iadd hx hb dX11_put_100 ?_
              replace h := b1_some h
              obtain ⟨s33, gs33, h⟩ := h
              refine z_astI X hW hS gs33 dX11_put_101 (fun H locs hW hS => ?_)
              refine lv_iconst (v := 1) hx hb dX11_put_102 (by decide) ?_
              exact z_eti X hlk hr hW hS h (by decide) (by decide) dX11_put_103
            · replace h := it_t h c25
              exact wX11_put_73 X hlk hr o _ _ _ _ (lv_sub hl [1] rfl) hW hS h
      · replace h := it_f h c12
        refine lv_aload_n hx hb dX11_put_35 rfl (lv_at hl 1 rfl) ?_
        refine lv_iload hx hb dX11_put_36 (lv_at hl 0 rfl) ?_
        replace h := b1_some h
        obtain ⟨q34, gq34, h⟩ := h
        replace h := b2_some h
        obtain ⟨x35, s36, gs36, h⟩ := h
        refine z_callVi (rest := []) X hW hS (cX11_refuse_met gs36) kb_X11_refuse kv_X11_refuse kl_X11_170 (it_v gq34).1 kX11 rfl rfl ⟨Nat.le_of_ble_eq_true rfl, Nat.le_of_ble_eq_true rfl⟩ rfl rfl (by decide) hl.1 dX11_put_38 ⟨(by decide), (by decide)⟩ (fun H locs hW hS => ?_)
        exact z_eti X hlk hr hW hS h (by decide) (by decide) dX11_put_41
    · replace h := it_t h c8
      exact wX11_put_16 X hlk hr o _ _ _ _ (lv_sub hl [0] rfl) hW hS h

set_option maxHeartbeats 4000000 in
set_option maxRecDepth 100000 in
theorem cX11_put_met {l : Launch} {A : Nat → Prop} {D : va_G} {cy : Nat → ClassId} {r0 : Int32} {h0 : Hz} {o : Nat} {v1 : Int32} {v2 : Int32} {v3 : Int32} {h : Hz} (g : fX11_put o v1 v2 v3 h = some (r0, h0)) : Met l yX11_put (Cond.code yX11_put cX11_put 5 (some .int) :: wT) ({ frames := 3, cells := 0, slots := 0, locals := 64 } : Room) (va_Pc [.ref o, .int v1, .int v2, .int v3] (zS A D cy h)) (va_Qi (fun r1 u => r1 = r0 ∧ u = h0) (zB A D cy) A) 0 0 A := by
  refine Met.ofW (cc := cX11_put) (maxL := 5) (ret := (some .int)) (by decide) rfl ?_
  intro p e s m args below meth c s₁ B hml hv
  obtain ⟨rfl, hW, hK, hN, hA⟩ := hv
  have X : zX A D cy p s m _ c cX11_put RX11 5 := ⟨B.exec, B.bytes, fun w hw => atoms_spec (ws := Cond.code yX11_put cX11_put 5 (some .int) :: wT) B.pre w (List.mem_cons_of_mem _ hw), findClass_of_methodNamed B.named, hK, hml, hN, hA⟩
  have hl := lv_entry [.ref o, .int v1, .int v2, .int v3] (n := 5) (Nat.le_of_ble_eq_true rfl)
  rw [lg_entry_eq]
  generalize (lg_sl [.ref o, .int v1, .int v2, .int v3] ++ List.replicate (5 - (lg_sl [.ref o, .int v1, .int v2, .int v3]).length) Slot.unset).toArray = ls at hl ⊢
  have hl : lv_has ls 5 [(0, .ref o), (1, .int v1), (2, .int v2), (3, .int v3)] := hl
  exact wX11_put_0 X B.notSynchronized B.returns o v1 v2 v3 _ _ _ _ (lv_sub hl [0, 1, 2, 3] rfl) hW va_S.rf g

theorem dX11_clear_0 : decode cX11_clear 0 = .ok (.aload_n 0, 1) := by decide +kernel
theorem dX11_clear_1 : decode cX11_clear 1 = .ok (.iload_n 1, 1) := by decide +kernel
theorem dX11_clear_2 : decode cX11_clear 2 = .ok (.iload_n 2, 1) := by decide +kernel
theorem dX11_clear_3 : decode cX11_clear 3 = .ok (.invokevirtual 184, 3) := by decide +kernel
theorem dX11_clear_6 : decode cX11_clear 6 = .ok (.istore_n 3, 1) := by decide +kernel
theorem dX11_clear_7 : decode cX11_clear 7 = .ok (.iload_n 3, 1) := by decide +kernel
theorem dX11_clear_8 : decode cX11_clear 8 = .ok (.ifCond .eq 9, 3) := by decide +kernel
theorem dX11_clear_11 : decode cX11_clear 11 = .ok (.aload_n 0, 1) := by decide +kernel
theorem dX11_clear_12 : decode cX11_clear 12 = .ok (.iload_n 3, 1) := by decide +kernel
theorem dX11_clear_13 : decode cX11_clear 13 = .ok (.invokevirtual 170, 3) := by decide +kernel
theorem dX11_clear_16 : decode cX11_clear 16 = .ok (.ireturn, 1) := by decide +kernel
theorem dX11_clear_17 : decode cX11_clear 17 = .ok (.aload_n 0, 1) := by decide +kernel
theorem dX11_clear_18 : decode cX11_clear 18 = .ok (.iload_n 1, 1) := by decide +kernel
theorem dX11_clear_19 : decode cX11_clear 19 = .ok (.invokevirtual 167, 3) := by decide +kernel
theorem dX11_clear_22 : decode cX11_clear 22 = .ok (.ifCond .ne 10, 3) := by decide +kernel
theorem dX11_clear_25 : decode cX11_clear 25 = .ok (.aload_n 0, 1) := by decide +kernel
theorem dX11_clear_26 : decode cX11_clear 26 = .ok (.bipush (-5), 2) := by decide +kernel
theorem dX11_clear_28 : decode cX11_clear 28 = .ok (.invokevirtual 170, 3) := by decide +kernel
theorem dX11_clear_31 : decode cX11_clear 31 = .ok (.ireturn, 1) := by decide +kernel
theorem dX11_clear_32 : decode cX11_clear 32 = .ok (.aload_n 0, 1) := by decide +kernel
theorem dX11_clear_33 : decode cX11_clear 33 = .ok (.getfield 38, 3) := by decide +kernel
theorem dX11_clear_36 : decode cX11_clear 36 = .ok (.bipush 8, 2) := by decide +kernel
theorem dX11_clear_38 : decode cX11_clear 38 = .ok (.iload_n 1, 1) := by decide +kernel
theorem dX11_clear_39 : decode cX11_clear 39 = .ok (.imul, 1) := by decide +kernel
theorem dX11_clear_40 : decode cX11_clear 40 = .ok (.iload_n 2, 1) := by decide +kernel
theorem dX11_clear_41 : decode cX11_clear 41 = .ok (.iadd, 1) := by decide +kernel
theorem dX11_clear_42 : decode cX11_clear 42 = .ok (.iaload, 1) := by decide +kernel
theorem dX11_clear_43 : decode cX11_clear 43 = .ok (.ifCond .ne 10, 3) := by decide +kernel
theorem dX11_clear_46 : decode cX11_clear 46 = .ok (.aload_n 0, 1) := by decide +kernel
theorem dX11_clear_47 : decode cX11_clear 47 = .ok (.bipush (-7), 2) := by decide +kernel
theorem dX11_clear_49 : decode cX11_clear 49 = .ok (.invokevirtual 170, 3) := by decide +kernel
theorem dX11_clear_52 : decode cX11_clear 52 = .ok (.ireturn, 1) := by decide +kernel
theorem dX11_clear_53 : decode cX11_clear 53 = .ok (.aload_n 0, 1) := by decide +kernel
theorem dX11_clear_54 : decode cX11_clear 54 = .ok (.getfield 38, 3) := by decide +kernel
theorem dX11_clear_57 : decode cX11_clear 57 = .ok (.bipush 8, 2) := by decide +kernel
theorem dX11_clear_59 : decode cX11_clear 59 = .ok (.iload_n 1, 1) := by decide +kernel
theorem dX11_clear_60 : decode cX11_clear 60 = .ok (.imul, 1) := by decide +kernel
theorem dX11_clear_61 : decode cX11_clear 61 = .ok (.iload_n 2, 1) := by decide +kernel
theorem dX11_clear_62 : decode cX11_clear 62 = .ok (.iadd, 1) := by decide +kernel
theorem dX11_clear_63 : decode cX11_clear 63 = .ok (.iconst 0, 1) := by decide +kernel
theorem dX11_clear_64 : decode cX11_clear 64 = .ok (.iastore, 1) := by decide +kernel
theorem dX11_clear_65 : decode cX11_clear 65 = .ok (.aload_n 0, 1) := by decide +kernel
theorem dX11_clear_66 : decode cX11_clear 66 = .ok (.getfield 91, 3) := by decide +kernel
theorem dX11_clear_69 : decode cX11_clear 69 = .ok (.aload_n 0, 1) := by decide +kernel
theorem dX11_clear_70 : decode cX11_clear 70 = .ok (.getfield 13, 3) := by decide +kernel
theorem dX11_clear_73 : decode cX11_clear 73 = .ok (.iload_n 1, 1) := by decide +kernel
theorem dX11_clear_74 : decode cX11_clear 74 = .ok (.iaload, 1) := by decide +kernel
theorem dX11_clear_75 : decode cX11_clear 75 = .ok (.dup2, 1) := by decide +kernel
theorem dX11_clear_76 : decode cX11_clear 76 = .ok (.iaload, 1) := by decide +kernel
theorem dX11_clear_77 : decode cX11_clear 77 = .ok (.iconst 1, 1) := by decide +kernel
theorem dX11_clear_78 : decode cX11_clear 78 = .ok (.iadd, 1) := by decide +kernel
theorem dX11_clear_79 : decode cX11_clear 79 = .ok (.iastore, 1) := by decide +kernel
theorem dX11_clear_80 : decode cX11_clear 80 = .ok (.iconst 1, 1) := by decide +kernel
theorem dX11_clear_81 : decode cX11_clear 81 = .ok (.ireturn, 1) := by decide +kernel
def fX11_clear (o : Nat) (v1 : Int32) (v2 : Int32) (h : Hz) : Option (Int32 × Hz) := (b1 (tg 11 o h) fun _ => (b2 (fX11_place o v1 v2 h) fun x2 s3 => (if x2 = 0 then (b1 (tg 11 o s3) fun _ => (b2 (fX11_isNear o v1 s3) fun x6 s7 => (if x6 = 0 then (b1 (tg 11 o s7) fun _ => (b2 (fX11_refuse o (-5) s7) fun x23 s24 => some (x23, s24))) else (b1 (gA 11 10 o s7) fun a9 => (b1 (xI 12 a9 ((8 * v1) + v2) s7) fun x10 => (if x10 = 0 then (b1 (tg 11 o s7) fun _ => (b2 (fX11_refuse o (-7) s7) fun x20 s21 => some (x20, s21))) else (b1 (gA 11 10 o s7) fun a12 => (b1 (yI a12 ((8 * v1) + v2) 0 s7) fun s13 => (b1 (gA 11 30 o s13) fun a14 => (b1 (gA 11 1 o s13) fun a15 => (b1 (xI 12 a15 v1 s13) fun x16 => (b1 (xI 12 a14 x16 s13) fun x17 => (b1 (yI a14 x16 (x17 + 1) s13) fun s18 => some (1, s18)))))))))))))) else (b1 (tg 11 o s3) fun _ => (b2 (fX11_refuse o x2 s3) fun x26 s27 => some (x26, s27))))))
set_option maxHeartbeats 4000000 in
set_option maxRecDepth 100000 in
theorem wX11_clear_0 {r0 : Int32} {h0 : Hz} (X : zX A D cy p s m args c cX11_clear RX11 4) (hlk : meth.locks = false) (hr : meth.sig.returnType = (some .int)) (o : Nat) (v1 : Int32) (v2 : Int32) (h : Hz) (H : Heap) (locs : List Loc) (ls : Array Slot) (hl : lv_has ls 4 [(0, .ref o), (1, .int v1), (2, .int v2)]) (hW : zW A cy D h H) (hS : va_S A s.heap H locs) (h : fX11_clear o v1 v2 h = some (r0, h0)) : W p l e ({ frames := 3, cells := 0, slots := 0, locals := 64 } : Room) s m args below meth c H locs 0 0 (MQ below (va_Qi (fun r1 u => r1 = r0 ∧ u = h0) (zB A D cy) A) args s 0 0 A) (F0 m 0 ls []) := by
  obtain ⟨hx, hb, hts, hown, hK9, hml, hN9, hA9⟩ := id X
  unfold fX11_clear at h
  refine lv_aload_n hx hb dX11_clear_0 rfl (lv_at hl 0 rfl) ?_
  refine lv_iload_n hx hb dX11_clear_1 rfl (lv_at hl 1 rfl) ?_
  refine lv_iload_n hx hb dX11_clear_2 rfl (lv_at hl 2 rfl) ?_
  replace h := b1_some h
  obtain ⟨q1, gq1, h⟩ := h
  replace h := b2_some h
  obtain ⟨x2, s3, gs3, h⟩ := h
  refine z_callVi (rest := []) X hW hS (cX11_place_met gs3) kb_X11_place kv_X11_place kl_X11_184 (it_v gq1).1 kX11 rfl rfl ⟨Nat.le_of_ble_eq_true rfl, Nat.le_of_ble_eq_true rfl⟩ rfl rfl (by decide) hl.1 dX11_clear_3 ⟨(by decide), (by decide)⟩ (fun H locs hW hS => ?_)
  refine lv_istore_n (lv' := [(3, .int x2), (0, .ref o), (1, .int v1), (2, .int v2)]) hx hb dX11_clear_6 rfl hl (by decide) rfl (fun ls hl => ?_)
  refine lv_iload_n hx hb dX11_clear_7 rfl (lv_at hl 0 rfl) ?_
  refine lv_if_eq (tgt := 17) hx hb dX11_clear_8 (by decide) (fun c4 => ?_) (fun c4 => ?_)
  · replace h := it_t h c4
    refine lv_aload_n hx hb dX11_clear_17 rfl (lv_at hl 1 rfl) ?_
    refine lv_iload_n hx hb dX11_clear_18 rfl (lv_at hl 2 rfl) ?_
    replace h := b1_some h
    obtain ⟨q5, gq5, h⟩ := h
    replace h := b2_some h
    obtain ⟨x6, s7, gs7, h⟩ := h
    refine z_callVi (rest := []) X hW hS (cX11_isNear_met gs7) kb_X11_isNear kv_X11_isNear kl_X11_167 (it_v gq5).1 kX11 rfl rfl ⟨Nat.le_of_ble_eq_true rfl, Nat.le_of_ble_eq_true rfl⟩ rfl rfl (by decide) hl.1 dX11_clear_19 ⟨(by decide), (by decide)⟩ (fun H locs hW hS => ?_)
    refine lv_if_ne (tgt := 32) hx hb dX11_clear_22 (by decide) (fun c8 => ?_) (fun c8 => ?_)
    · replace h := it_f h c8
      refine lv_aload_n hx hb dX11_clear_32 rfl (lv_at hl 1 rfl) ?_
      replace h := b1_some h
      obtain ⟨a9, ga9, h⟩ := h
      refine z_getA X hW ga9 kX11 (by decide) (by decide) kf_X11_38 dX11_clear_33 ?_
      refine lv_bipush (v := 8) hx hb dX11_clear_36 (by decide) ?_
      refine lv_iload_n hx hb dX11_clear_38 rfl (lv_at hl 2 rfl) ?_
      refine lv_imul hx hb dX11_clear_39 ?_
      refine lv_iload_n hx hb dX11_clear_40 rfl (lv_at hl 3 rfl) ?_
      refine lv_iadd hx hb dX11_clear_41 ?_
      replace h := b1_some h
      obtain ⟨x10, gx10, h⟩ := h
      refine z_aldI X hW gx10 dX11_clear_42 ?_
      refine lv_if_ne (tgt := 53) hx hb dX11_clear_43 (by decide) (fun c11 => ?_) (fun c11 => ?_)
      · replace h := it_f h c11
        refine lv_aload_n hx hb dX11_clear_53 rfl (lv_at hl 1 rfl) ?_
        replace h := b1_some h
        obtain ⟨a12, ga12, h⟩ := h
        refine z_getA X hW ga12 kX11 (by decide) (by decide) kf_X11_38 dX11_clear_54 ?_
        refine lv_bipush (v := 8) hx hb dX11_clear_57 (by decide) ?_
        refine lv_iload_n hx hb dX11_clear_59 rfl (lv_at hl 2 rfl) ?_
        refine lv_imul hx hb dX11_clear_60 ?_
        refine lv_iload_n hx hb dX11_clear_61 rfl (lv_at hl 3 rfl) ?_
        refine lv_iadd hx hb dX11_clear_62 ?_
        refine lv_iconst (v := 0) hx hb dX11_clear_63 (by decide) ?_
        replace h := b1_some h
        obtain ⟨s13, gs13, h⟩ := h
        refine z_astI X hW hS gs13 dX11_clear_64 (fun H locs hW hS => ?_)
        refine lv_aload_n hx hb dX11_clear_65 rfl (lv_at hl 1 rfl) ?_
        replace h := b1_some h
        obtain ⟨a14, ga14, h⟩ := h
        refine z_getA X hW ga14 kX11 (by decide) (by decide) kf_X11_91 dX11_clear_66 ?_
        refine lv_aload_n hx hb dX11_clear_69 rfl (lv_at hl 1 rfl) ?_
        replace h := b1_some h
        obtain ⟨a15, ga15, h⟩ := h
        refine z_getA X hW ga15 kX11 (by decide) (by decide) kf_X11_13 dX11_clear_70 ?_
        refine lv_iload_n hx hb dX11_clear_73 rfl (lv_at hl 2 rfl) ?_
        replace h := b1_some h
        obtain ⟨x16, gx16, h⟩ := h
        refine z_aldI X hW gx16 dX11_clear_74 ?_
        refine lv_dup2_11 hx hb dX11_clear_75 rfl rfl ?_
        replace h := b1_some h
        obtain ⟨x17, gx17, h⟩ := h
        refine z_aldI X hW gx17 dX11_clear_76 ?_
        refine lv_iconst (v := 1) hx hb dX11_clear_77 (by decide) ?_
        refine lv_iadd hx hb dX11_clear_78 ?_
        replace h := b1_some h
        obtain ⟨s18, gs18, h⟩ := h
        refine z_astI X hW hS gs18 dX11_clear_79 (fun H locs hW hS => ?_)
        refine lv_iconst (v := 1) hx hb dX11_clear_80 (by decide) ?_
        exact z_eti X hlk hr hW hS h (by decide) (by decide) dX11_clear_81
      · replace h := it_t h c11
        refine lv_aload_n hx hb dX11_clear_46 rfl (lv_at hl 1 rfl) ?_
        refine lv_bipush (v := (-7)) hx hb dX11_clear_47 (by decide) ?_
        replace h := b1_some h
        obtain ⟨q19, gq19, h⟩ := h
        replace h := b2_some h
        obtain ⟨x20, s21, gs21, h⟩ := h
        refine z_callVi (rest := []) X hW hS (cX11_refuse_met gs21) kb_X11_refuse kv_X11_refuse kl_X11_170 (it_v gq19).1 kX11 rfl rfl ⟨Nat.le_of_ble_eq_true rfl, Nat.le_of_ble_eq_true rfl⟩ rfl rfl (by decide) hl.1 dX11_clear_49 ⟨(by decide), (by decide)⟩ (fun H locs hW hS => ?_)
        exact z_eti X hlk hr hW hS h (by decide) (by decide) dX11_clear_52
    · replace h := it_t h c8
      refine lv_aload_n hx hb dX11_clear_25 rfl (lv_at hl 1 rfl) ?_
      refine lv_bipush (v := (-5)) hx hb dX11_clear_26 (by decide) ?_
      replace h := b1_some h
      obtain ⟨q22, gq22, h⟩ := h
      replace h := b2_some h
      obtain ⟨x23, s24, gs24, h⟩ := h
      refine z_callVi (rest := []) X hW hS (cX11_refuse_met gs24) kb_X11_refuse kv_X11_refuse kl_X11_170 (it_v gq22).1 kX11 rfl rfl ⟨Nat.le_of_ble_eq_true rfl, Nat.le_of_ble_eq_true rfl⟩ rfl rfl (by decide) hl.1 dX11_clear_28 ⟨(by decide), (by decide)⟩ (fun H locs hW hS => ?_)
      exact z_eti X hlk hr hW hS h (by decide) (by decide) dX11_clear_31
  · replace h := it_f h c4
    refine lv_aload_n hx hb dX11_clear_11 rfl (lv_at hl 1 rfl) ?_
    refine lv_iload_n hx hb dX11_clear_12 rfl (lv_at hl 0 rfl) ?_
    replace h := b1_some h
    obtain ⟨q25, gq25, h⟩ := h
    replace h := b2_some h
    obtain ⟨x26, s27, gs27, h⟩ := h
    refine z_callVi (rest := []) X hW hS (cX11_refuse_met gs27) kb_X11_refuse kv_X11_refuse kl_X11_170 (it_v gq25).1 kX11 rfl rfl ⟨Nat.le_of_ble_eq_true rfl, Nat.le_of_ble_eq_true rfl⟩ rfl rfl (by decide) hl.1 dX11_clear_13 ⟨(by decide), (by decide)⟩ (fun H locs hW hS => ?_)
    exact z_eti X hlk hr hW hS h (by decide) (by decide) dX11_clear_16

set_option maxHeartbeats 4000000 in
set_option maxRecDepth 100000 in
theorem cX11_clear_met {l : Launch} {A : Nat → Prop} {D : va_G} {cy : Nat → ClassId} {r0 : Int32} {h0 : Hz} {o : Nat} {v1 : Int32} {v2 : Int32} {h : Hz} (g : fX11_clear o v1 v2 h = some (r0, h0)) : Met l yX11_clear (Cond.code yX11_clear cX11_clear 4 (some .int) :: wT) ({ frames := 3, cells := 0, slots := 0, locals := 64 } : Room) (va_Pc [.ref o, .int v1, .int v2] (zS A D cy h)) (va_Qi (fun r1 u => r1 = r0 ∧ u = h0) (zB A D cy) A) 0 0 A := by
  refine Met.ofW (cc := cX11_clear) (maxL := 4) (ret := (some .int)) (by decide) rfl ?_
  intro p e s m args below meth c s₁ B hml hv
  obtain ⟨rfl, hW, hK, hN, hA⟩ := hv
  have X : zX A D cy p s m _ c cX11_clear RX11 4 := ⟨B.exec, B.bytes, fun w hw => atoms_spec (ws := Cond.code yX11_clear cX11_clear 4 (some .int) :: wT) B.pre w (List.mem_cons_of_mem _ hw), findClass_of_methodNamed B.named, hK, hml, hN, hA⟩
  have hl := lv_entry [.ref o, .int v1, .int v2] (n := 4) (Nat.le_of_ble_eq_true rfl)
  rw [lg_entry_eq]
  generalize (lg_sl [.ref o, .int v1, .int v2] ++ List.replicate (4 - (lg_sl [.ref o, .int v1, .int v2]).length) Slot.unset).toArray = ls at hl ⊢
  have hl : lv_has ls 4 [(0, .ref o), (1, .int v1), (2, .int v2)] := hl
  exact wX11_clear_0 X B.notSynchronized B.returns o v1 v2 _ _ _ _ (lv_sub hl [0, 1, 2] rfl) hW va_S.rf g

end Z12_modela
