/-- the heap's end, elsewhere -/
def zz (k : Nat) (h : Hz) : Hz := (h.1, h.2.1, h.2.2.1, h.2.2.2.1, h.2.2.2.2.1, k)
abbrev zJ : Type := Nat → Hz → Hz → Prop
def st1 (J : zJ) (o q : Nat) (f g : Nat → Int32 → Hz → Option (Int32 × Hz)) : Prop := ∀ (n : Nat) (x y : Hz) (v1 : Int32), n < 512 → J n x y → ∃ (r : Int32) (x' y' : Hz), f o v1 x = some (r, x') ∧ g q v1 y = some (r, y') ∧ zs y' = zs y ∧ J (n + 1) x' y'
def st2 (J : zJ) (o q : Nat) (f g : Nat → Int32 → Int32 → Hz → Option (Int32 × Hz)) : Prop := ∀ (n : Nat) (x y : Hz) (v1 v2 : Int32), n < 512 → J n x y → ∃ (r : Int32) (x' y' : Hz), f o v1 v2 x = some (r, x') ∧ g q v1 v2 y = some (r, y') ∧ zs y' = zs y ∧ J (n + 1) x' y'
def st3 (J : zJ) (o q : Nat) (f g : Nat → Int32 → Int32 → Int32 → Hz → Option (Int32 × Hz)) : Prop := ∀ (n : Nat) (x y : Hz) (v1 v2 v3 : Int32), n < 512 → J n x y → ∃ (r : Int32) (x' y' : Hz), f o v1 v2 v3 x = some (r, x') ∧ g q v1 v2 v3 y = some (r, y') ∧ zs y' = zs y ∧ J (n + 1) x' y'
def st4 (J : zJ) (o q : Nat) (f g : Nat → Int32 → Int32 → Int32 → Int32 → Hz → Option (Int32 × Hz)) : Prop := ∀ (n : Nat) (x y : Hz) (v1 v2 v3 v4 : Int32), n < 512 → J n x y → ∃ (r : Int32) (x' y' : Hz), f o v1 v2 v3 v4 x = some (r, x') ∧ g q v1 v2 v3 v4 y = some (r, y') ∧ zs y' = zs y ∧ J (n + 1) x' y'
def st5 (J : zJ) (o q : Nat) (f g : Nat → Int32 → Int32 → Int32 → Int32 → Int32 → Hz → Option (Int32 × Hz)) : Prop := ∀ (n : Nat) (x y : Hz) (v1 v2 v3 v4 v5 : Int32), n < 512 → J n x y → ∃ (r : Int32) (x' y' : Hz), f o v1 v2 v3 v4 v5 x = some (r, x') ∧ g q v1 v2 v3 v4 v5 y = some (r, y') ∧ zs y' = zs y ∧ J (n + 1) x' y'
def st6 (J : zJ) (o q : Nat) (f g : Nat → Int32 → Int32 → Int32 → Int64 → Hz → Option (Int32 × Hz)) : Prop := ∀ (n : Nat) (x y : Hz) (v1 v2 v3 : Int32) (v4 : Int64), n < 512 → J n x y → ∃ (r : Int32) (x' y' : Hz), f o v1 v2 v3 v4 x = some (r, x') ∧ g q v1 v2 v3 v4 y = some (r, y') ∧ zs y' = zs y ∧ J (n + 1) x' y'
def st7 (J : zJ) (o q : Nat) (f g : Nat → Int32 → Int32 → Int32 → Hz → Option (Int64 × Hz)) : Prop := ∀ (n : Nat) (x y : Hz) (v1 v2 v3 : Int32), n < 512 → J n x y → ∃ (r : Int64) (x' y' : Hz), f o v1 v2 v3 x = some (r, x') ∧ g q v1 v2 v3 y = some (r, y') ∧ zs y' = zs y ∧ J (n + 1) x' y'

/-- every call of the document: class and reference answer alike, and stay together -/
def zAll (J : zJ) (o q : Nat) : Prop := st2 J o q fX10_root fX11_root ∧ st3 J o q fX10_leaf fX11_leaf ∧ st3 J o q fX10_box fX11_box ∧ st3 J o q fX10_put fX11_put ∧ st2 J o q fX10_clear fX11_clear ∧ st4 J o q fX10_row fX11_row ∧ st6 J o q fX10_set fX11_set ∧ st5 J o q fX10_copy fX11_copy ∧ st7 J o q fX10_element fX11_element ∧ st2 J o q fX10_holds fX11_holds ∧ st2 J o q fX10_thing fX11_thing ∧ st2 J o q fX10_gate fX11_gate ∧ st3 J o q fX10_send fX11_send ∧ st1 J o q fX10_deliver fX11_deliver ∧ st2 J o q fX10_letter fX11_letter_ ∧ st1 J o q fX10_clean fX11_clean ∧ st1 J o q fX10_freed fX11_freed ∧ st1 J o q fX10_doubt fX11_doubt ∧ st2 J o q fX10_walk fX11_walk ∧ st1 J o q fX10_meant fX11_meant ∧ st2 J o q fX10_why fX11_why ∧ st1 J o q fX10_dead fX11_dead ∧ st2 J o q fX10_audit fX11_audit ∧ st1 J o q fX10_status fX11_status

section ZL
variable {p : Program} {l : Launch} {e : Env} {s : State} {m : MethodId} {below : List Frame} {meth : Method} {c : Code} {b L : Nat} {xs : Nat → Int32}
variable {H : Heap} {locs : List Loc} {cells slots : Nat} {Q : State → Prop} {pc : Nat} {ls : Array Slot} {rest st0 : List Value} {D : va_G} {cy : Nat → ClassId} {h h' : Hz}
variable {y : MethodName} {bytes : ByteArray} {maxL mc ms n index : Nat} {ret : Option FieldType} {rm : Room} {As : List Value}
/-- what the law's walk stands on -/
def zLx (D : va_G) (cy : Nat → ClassId) (p : Program) (s : State) (m : MethodId) (meth : Method) (c : Code) (b L : Nat) (xs : Nat → Int32) : Prop := lw_At p s m meth c b L xs ∧ (∀ w ∈ wT, w.before #[Value.ref b] s = true) ∧ zK D cy s ∧ zNest s
theorem y_pre {A1 : Nat → Prop} (C : zLx D cy p s m meth c b L xs) (hW : zW A1 cy D h H) (hA1 : ∀ q : Nat, H.size ≤ q → A1 q) (av : List Value) (U : State) (hU : U.heap = H) (hw : s.WarmedH U.vm) : va_Pc av (zS A1 D cy h) av.toArray U :=
  ⟨rfl, by rw [hU]; exact hW, va_K.moved hw.alike C.2.2.1, C.2.2.2.warm hw, fun q hq => hA1 q (by rw [← hU]; exact hq)⟩

theorem y_calli {r : Int32} {v ci N : Nat} {T : u_T} {ty : Nat → FieldType} {A1 : Nat → Prop} (C : zLx D cy p s m meth c b L xs) (hW : zW A1 cy D h H) (hS : va_S (fun q => s.heap.size ≤ q) s.heap H locs) (hA1 : ∀ q : Nat, H.size ≤ q → A1 q) (hA0 : ∀ q : Nat, A1 q → s.heap.size ≤ q)
    (hM : Met l y (Cond.code y bytes maxL ret :: wT) rm (va_Pc (.ref v :: As) (zS A1 D cy h)) (va_Qi (fun r1 u => r1 = r ∧ u = h') (zB A1 D cy) A1) mc ms A1) (hY : zYb y bytes maxL ret n) (hV : zYv y) (hl : Cond.methodLink RL index y ∈ wT) (hT : zT h v = ci) (hC : zC ci y.cls T N ty) (hrc : rm.cells = mc) (hrs : rm.slots = ms) (hR : rm.frames + 1 ≤ room_1.frames ∧ 8 + (maxL + 11) + rm.locals ≤ room_1.locals) (hn : As.length = n) (hst : st0 = As.reverse ++ .ref v :: rest) (hro : (rest.map fun v => v.category).sum ≤ 8) (hsz : ls.size = 4) (hdg : decode code pc = .ok (.invokevirtual index, 3)) (hf : cells + mc ≤ room_1.cells ∧ slots + ms ≤ room_1.slots)
    (kk : ∀ (H1 : Heap) (locs1 : List Loc), zW A1 cy D h' H1 → va_S (fun q => s.heap.size ≤ q) s.heap H1 locs1 → H.size ≤ H1.size → (∀ q : Nat, q < H.size → ¬ A1 q → H1[q]? = H[q]?) → W p l e room_1 s m #[Value.ref b] below meth c H1 locs1 (cells + mc) (slots + ms) Q (F0 m (pc + 3) ls (.int r :: rest))) : W p l e room_1 s m #[Value.ref b] below meth c H locs cells slots Q (F0 m pc ls st0) := by
  obtain ⟨⟨hx, hb, hr, hml, hown, hts0, hX, hbl, hlocks, hgv⟩, hts, hK, hN⟩ := id C
  obtain ⟨-, -, g3⟩ := z_obj hW hT hC
  refine va_calli (va_runV (As := As) (rest := rest) (n := n) (C := y.cls) ⟨hx, hb, hml, hown, hts⟩ hM ⟨zCallB hts hY hl hrc hrs hR, hts _ hV.1, hts _ hV.2⟩ ⟨zS_blind _ _ _ _ _, va_recv hK (zP_one g3) hC.1 (q0 := 0) rfl, fun U hU hw => y_pre C hW hA1 _ U hU hw⟩ rfl hn hsz hst (lv_room hro) hdg hf) hS (fun q _ hq => hA0 q hq) (fun q hq => hA0 q hq) (fun r1 u t H1 locs1 ht hvm hp hB hz hk hS1 => ?_)
  obtain ⟨rfl, rfl⟩ := hp
  exact kk H1 locs1 (by rw [← ht]; exact hB) hS1 hz hk

theorem y_calll {r : Int64} {v ci N : Nat} {T : u_T} {ty : Nat → FieldType} {A1 : Nat → Prop} (C : zLx D cy p s m meth c b L xs) (hW : zW A1 cy D h H) (hS : va_S (fun q => s.heap.size ≤ q) s.heap H locs) (hA1 : ∀ q : Nat, H.size ≤ q → A1 q) (hA0 : ∀ q : Nat, A1 q → s.heap.size ≤ q)
    (hM : Met l y (Cond.code y bytes maxL ret :: wT) rm (va_Pc (.ref v :: As) (zS A1 D cy h)) (va_Ql (fun r1 u => r1 = r ∧ u = h') (zB A1 D cy) A1) mc ms A1) (hY : zYb y bytes maxL ret n) (hV : zYv y) (hl : Cond.methodLink RL index y ∈ wT) (hT : zT h v = ci) (hC : zC ci y.cls T N ty) (hrc : rm.cells = mc) (hrs : rm.slots = ms) (hR : rm.frames + 1 ≤ room_1.frames ∧ 8 + (maxL + 11) + rm.locals ≤ room_1.locals) (hn : As.length = n) (hst : st0 = As.reverse ++ .ref v :: rest) (hro : (rest.map fun v => v.category).sum ≤ 8) (hsz : ls.size = 4) (hdg : decode code pc = .ok (.invokevirtual index, 3)) (hf : cells + mc ≤ room_1.cells ∧ slots + ms ≤ room_1.slots)
    (kk : ∀ (H1 : Heap) (locs1 : List Loc), zW A1 cy D h' H1 → va_S (fun q => s.heap.size ≤ q) s.heap H1 locs1 → H.size ≤ H1.size → (∀ q : Nat, q < H.size → ¬ A1 q → H1[q]? = H[q]?) → W p l e room_1 s m #[Value.ref b] below meth c H1 locs1 (cells + mc) (slots + ms) Q (F0 m (pc + 3) ls (.long r :: rest))) : W p l e room_1 s m #[Value.ref b] below meth c H locs cells slots Q (F0 m pc ls st0) := by
  obtain ⟨⟨hx, hb, hr, hml, hown, hts0, hX, hbl, hlocks, hgv⟩, hts, hK, hN⟩ := id C
  obtain ⟨-, -, g3⟩ := z_obj hW hT hC
  refine va_calll (va_runV (As := As) (rest := rest) (n := n) (C := y.cls) ⟨hx, hb, hml, hown, hts⟩ hM ⟨zCallB hts hY hl hrc hrs hR, hts _ hV.1, hts _ hV.2⟩ ⟨zS_blind _ _ _ _ _, va_recv hK (zP_one g3) hC.1 (q0 := 0) rfl, fun U hU hw => y_pre C hW hA1 _ U hU hw⟩ rfl hn hsz hst (lv_room hro) hdg hf) hS (fun q _ hq => hA0 q hq) (fun q hq => hA0 q hq) (fun r1 u t H1 locs1 ht hvm hp hB hz hk hS1 => ?_)
  obtain ⟨rfl, rfl⟩ := hp
  exact kk H1 locs1 (by rw [← ht]; exact hB) hS1 hz hk

/-- where the class's cells are, and the reference's -/
def zAF (s0 q e q1 : Nat) : Prop := s0 ≤ q1 ∧ ¬ (q ≤ q1 ∧ q1 < e)
def zAM (q e q1 : Nat) : Prop := q ≤ q1 ∧ q1 < e
theorem zW_keep {A : Nat → Prop} {H1 : Heap} (hW : zW A cy D h H) (hk : ∀ q : Nat, q < H.size → A q → H1[q]? = H[q]?) : zW A cy D (zz H1.size h) H1 := by
  refine ⟨rfl, fun a ha => ?_⟩
  obtain ⟨g1, g2, g3⟩ := hW.2 a ha
  have hlt : a < H.size := by rw [hW.1]; exact g2
  have hk1 := hk a hlt g1
  refine ⟨g1, ?_, g3.kept hk1⟩
  have h2 := g3.lt
  have h3 : H1[a]? = H[a]? := hk1
  have h4 : a < H1.size := by
    have e1 : (H[a]?).isSome = true := by simp [h2]
    rw [← h3] at e1
    simpa using e1
  exact h4
theorem zW_mono {A B : Nat → Prop} (hW : zW A cy D h H) (hAB : ∀ q : Nat, A q → q < H.size → B q) : zW B cy D h H := by
  refine ⟨hW.1, fun a ha => ?_⟩
  obtain ⟨g1, g2, g3⟩ := hW.2 a ha
  exact ⟨hAB a g1 (by rw [hW.1]; exact g2), g2, g3⟩
/-- the loop's state: the class's heap and the reference's, apart in one -/
def zTwo (J : zJ) (D : va_G) (cy : Nat → ClassId) (s0 o q e n : Nat) (x y : Hz) (H : Heap) : Prop := zW (zAF s0 q e) cy D x H ∧ zW (zAM q e) cy D y H ∧ J n x y ∧ zT x o = 10 ∧ zT y q = 11 ∧ e ≤ H.size ∧ s0 ≤ q

set_option maxHeartbeats 4000000 in
set_option maxRecDepth 100000 in
theorem yc_0 {J : zJ} {s0 o q e9 n : Nat} {x y : Hz} {i3 : Int32} (hs0 : s0 = s.heap.size) (hJ : zAll J o q) (hz : ∀ n x y k, J n x y → J n x (zz k y)) (hT : ∀ n x y, J (n + 1) x y → zT x o = 10 ∧ zT y q = 11) (C : zLx D cy p s m meth c b L xs) (hn : n < 512) (hin : ∀ k : Int32, k ∈ ([0, 1, 2, 3, 4, 5] : List Int32) → vp_in (i3 + k) L) (h2 : zTwo J D cy s0 o q e9 n x y H) (hS : va_S (fun q => s.heap.size ≤ q) s.heap H locs) (hl : lv_has ls 4 [(0, .ref b), (1, .ref o), (2, .ref q), (3, .int i3)]) (hc : cells ≤ 69 + 701 * n) (hs : slots ≤ 147138 + 7010 * n)
    (kk : ∀ (H1 : Heap) (locs1 : List Loc) (x1 y1 : Hz), zTwo J D cy s0 o q e9 (n + 1) x1 y1 H1 → va_S (fun q => s.heap.size ≤ q) s.heap H1 locs1 → W p l e room_1 s m #[Value.ref b] below meth c H1 locs1 (69 + 701 * (n + 1)) (147138 + 7010 * (n + 1)) Q (F0 m 1017 ls [])) : W p l e room_1 s m #[Value.ref b] below meth c H locs cells slots Q (F0 m 144 ls []) := by
  obtain ⟨⟨hx, hb, hr, hml, hown, hts0, hX, hbl, hlocks, hgv⟩, hts, hK, hN⟩ := id C
  have hbA : ¬ (fun q : Nat => s.heap.size ≤ q) b := Nat.not_le.mpr hbl
  obtain ⟨hWF, hWM, hJn, hTo, hTq, he, hq0⟩ := h2
  obtain ⟨r, x', y', e1, -, -, -⟩ := hJ.1 n x y (xs (i3 + 1).toNatClampNeg) (xs (i3 + 2).toNatClampNeg) hn hJn
  refine lv_aload_n hx hb dL_law_144 rfl (lv_at hl 1 rfl) ?_
  refine lv_aload_n hx hb dL_law_145 rfl (lv_at hl 0 rfl) ?_
  refine lv_iload_n hx hb dL_law_146 rfl (lv_at hl 3 rfl) ?_
  refine lv_iconst (v := 1) hx hb dL_law_147 (by decide) ?_
  refine lv_iadd hx hb dL_law_148 ?_
  refine va_sld hx hb hX hbl hbA hS (hin 1 (by decide)) dL_law_149 ?_
  refine lv_aload_n hx hb dL_law_150 rfl (lv_at hl 0 rfl) ?_
  refine lv_iload_n hx hb dL_law_151 rfl (lv_at hl 3 rfl) ?_
  refine lv_iconst (v := 2) hx hb dL_law_152 (by decide) ?_
  refine lv_iadd hx hb dL_law_153 ?_
  refine va_sld hx hb hX hbl hbA hS (hin 2 (by decide)) dL_law_154 ?_
  refine y_calli (rest := []) (A1 := zAF s0 q e9) C hWF hS (fun q1 h9 => ⟨by have := hS.1; omega, fun h8 => by omega⟩) (fun q1 h9 => by rw [← hs0]; exact h9.1) (cX10_root_met e1) kb_X10_root kv_X10_root kl_L_13 hTo kX10 rfl rfl ⟨Nat.le_of_ble_eq_true rfl, Nat.le_of_ble_eq_true rfl⟩ rfl rfl (by decide) hl.1 dL_law_155 ⟨by show _ ≤ 600000; omega, by show _ ≤ 7302250; omega⟩ (fun H1 locs1 hWF1 hS1 hz1 hk1 => ?_)
  have hS := hS1
  have hWM1 : zW (zAM q e9) cy D (zz H1.size y) H1 := zW_keep hWM (fun q1 g1 g2 => hk1 q1 g1 (fun g3 => g3.2 g2))
  have hJ1 := hz n x y H1.size hJn
  obtain ⟨r2, x2, y2, f1, f2, f3, f4⟩ := hJ.1 n x (zz H1.size y) (xs (i3 + 1).toNatClampNeg) (xs (i3 + 2).toNatClampNeg) hn hJ1
  have ee := f1.symm.trans e1
  simp only [Option.some.injEq, Prod.mk.injEq] at ee
  obtain ⟨rfl, rfl⟩ := ee
  have hWM2 : zW (fun q1 => zAM q e9 q1 ∨ H1.size ≤ q1) cy D (zz H1.size y) H1 := zW_mono hWM1 (fun q1 g1 _ => Or.inl g1)
  refine lv_aload_n hx hb dL_law_158 rfl (lv_at hl 2 rfl) ?_
  refine lv_aload_n hx hb dL_law_159 rfl (lv_at hl 0 rfl) ?_
  refine lv_iload_n hx hb dL_law_160 rfl (lv_at hl 3 rfl) ?_
  refine lv_iconst (v := 1) hx hb dL_law_161 (by decide) ?_
  refine lv_iadd hx hb dL_law_162 ?_
  refine va_sld hx hb hX hbl hbA hS (hin 1 (by decide)) dL_law_163 ?_
  refine lv_aload_n hx hb dL_law_164 rfl (lv_at hl 0 rfl) ?_
  refine lv_iload_n hx hb dL_law_165 rfl (lv_at hl 3 rfl) ?_
  refine lv_iconst (v := 2) hx hb dL_law_166 (by decide) ?_
  refine lv_iadd hx hb dL_law_167 ?_
  refine va_sld hx hb hX hbl hbA hS (hin 2 (by decide)) dL_law_168 ?_
  refine y_calli (rest := [.int r2]) (A1 := fun q1 => zAM q e9 q1 ∨ H1.size ≤ q1) C hWM2 hS (fun q1 h9 => Or.inr h9) (fun q1 h9 => h9.elim (fun g => by have := g.1; omega) (fun g => Nat.le_trans hS.1 g)) (cX11_root_met f2) kb_X11_root kv_X11_root kl_L_17 hTq kX11 rfl rfl ⟨Nat.le_of_ble_eq_true rfl, Nat.le_of_ble_eq_true rfl⟩ rfl rfl (Nat.le_of_ble_eq_true rfl) hl.1 dL_law_169 ⟨by show _ ≤ 600000; omega, by show _ ≤ 7302250; omega⟩ (fun H2 locs2 hWM3 hS2 hz2 hk2 => ?_)
  have hsz : H2.size = H1.size := by
    rw [hWM3.1, f3]
    rfl
  have hWF2 : zW (zAF s0 q e9) cy D x2 H2 := by
    have h7 := zW_keep (H1 := H2) hWF1 (fun q1 g1 g2 => hk2 q1 g1 (fun g3 => g3.elim (fun g4 => g2.2 g4) (fun g4 => by omega)))
    have h8 : zz H2.size x2 = x2 := by
      rw [hsz, hWF1.1]
      rfl
    rw [h8] at h7
    exact h7
  have hWM4 : zW (zAM q e9) cy D y2 H2 := zW_mono hWM3 (fun q1 g1 g2 => g1.elim (fun g4 => g4) (fun g4 => by omega))
  have hTo2 : zT x2 o = 10 := (hT n x2 y2 f4).1
  have hTq2 : zT y2 q = 11 := (hT n x2 y2 f4).2
  refine lv_icmp_eq (tgt := 1017) hx hb dL_law_172 (by decide) (fun _ => ?_) (fun c1 => absurd rfl c1)
  refine W.widen (k := 69 + 701 * (n + 1)) (n := 147138 + 7010 * (n + 1)) (by omega) (by omega) ?_
  exact kk H2 locs2 x2 y2 ⟨hWF2, hWM4, f4, hTo2, hTq2, by omega, hq0⟩ hS2

set_option maxHeartbeats 4000000 in
set_option maxRecDepth 100000 in
theorem yc_1 {J : zJ} {s0 o q e9 n : Nat} {x y : Hz} {i3 : Int32} (hs0 : s0 = s.heap.size) (hJ : zAll J o q) (hz : ∀ n x y k, J n x y → J n x (zz k y)) (hT : ∀ n x y, J (n + 1) x y → zT x o = 10 ∧ zT y q = 11) (C : zLx D cy p s m meth c b L xs) (hn : n < 512) (hin : ∀ k : Int32, k ∈ ([0, 1, 2, 3, 4, 5] : List Int32) → vp_in (i3 + k) L) (h2 : zTwo J D cy s0 o q e9 n x y H) (hS : va_S (fun q => s.heap.size ≤ q) s.heap H locs) (hl : lv_has ls 4 [(0, .ref b), (1, .ref o), (2, .ref q), (3, .int i3)]) (hc : cells ≤ 69 + 701 * n) (hs : slots ≤ 147138 + 7010 * n)
    (kk : ∀ (H1 : Heap) (locs1 : List Loc) (x1 y1 : Hz), zTwo J D cy s0 o q e9 (n + 1) x1 y1 H1 → va_S (fun q => s.heap.size ≤ q) s.heap H1 locs1 → W p l e room_1 s m #[Value.ref b] below meth c H1 locs1 (69 + 701 * (n + 1)) (147138 + 7010 * (n + 1)) Q (F0 m 1017 ls [])) : W p l e room_1 s m #[Value.ref b] below meth c H locs cells slots Q (F0 m 177 ls []) := by
  obtain ⟨⟨hx, hb, hr, hml, hown, hts0, hX, hbl, hlocks, hgv⟩, hts, hK, hN⟩ := id C
  have hbA : ¬ (fun q : Nat => s.heap.size ≤ q) b := Nat.not_le.mpr hbl
  obtain ⟨hWF, hWM, hJn, hTo, hTq, he, hq0⟩ := h2
  obtain ⟨r, x', y', e1, -, -, -⟩ := hJ.2.1 n x y (xs (i3 + 1).toNatClampNeg) (xs (i3 + 2).toNatClampNeg) (xs (i3 + 3).toNatClampNeg) hn hJn
  refine lv_aload_n hx hb dL_law_177 rfl (lv_at hl 1 rfl) ?_
  refine lv_aload_n hx hb dL_law_178 rfl (lv_at hl 0 rfl) ?_
  refine lv_iload_n hx hb dL_law_179 rfl (lv_at hl 3 rfl) ?_
  refine lv_iconst (v := 1) hx hb dL_law_180 (by decide) ?_
  refine lv_iadd hx hb dL_law_181 ?_
  refine va_sld hx hb hX hbl hbA hS (hin 1 (by decide)) dL_law_182 ?_
  refine lv_aload_n hx hb dL_law_183 rfl (lv_at hl 0 rfl) ?_
  refine lv_iload_n hx hb dL_law_184 rfl (lv_at hl 3 rfl) ?_
  refine lv_iconst (v := 2) hx hb dL_law_185 (by decide) ?_
  refine lv_iadd hx hb dL_law_186 ?_
  refine va_sld hx hb hX hbl hbA hS (hin 2 (by decide)) dL_law_187 ?_
  refine lv_aload_n hx hb dL_law_188 rfl (lv_at hl 0 rfl) ?_
  refine lv_iload_n hx hb dL_law_189 rfl (lv_at hl 3 rfl) ?_
  refine lv_iconst (v := 3) hx hb dL_law_190 (by decide) ?_
  refine lv_iadd hx hb dL_law_191 ?_
  refine va_sld hx hb hX hbl hbA hS (hin 3 (by decide)) dL_law_192 ?_
  refine y_calli (rest := []) (A1 := zAF s0 q e9) C hWF hS (fun q1 h9 => ⟨by have := hS.1; omega, fun h8 => by omega⟩) (fun q1 h9 => by rw [← hs0]; exact h9.1) (cX10_leaf_met e1) kb_X10_leaf kv_X10_leaf kl_L_18 hTo kX10 rfl rfl ⟨Nat.le_of_ble_eq_true rfl, Nat.le_of_ble_eq_true rfl⟩ rfl rfl (by decide) hl.1 dL_law_193 ⟨by show _ ≤ 600000; omega, by show _ ≤ 7302250; omega⟩ (fun H1 locs1 hWF1 hS1 hz1 hk1 => ?_)
  have hS := hS1
  have hWM1 : zW (zAM q e9) cy D (zz H1.size y) H1 := zW_keep hWM (fun q1 g1 g2 => hk1 q1 g1 (fun g3 => g3.2 g2))
  have hJ1 := hz n x y H1.size hJn
  obtain ⟨r2, x2, y2, f1, f2, f3, f4⟩ := hJ.2.1 n x (zz H1.size y) (xs (i3 + 1).toNatClampNeg) (xs (i3 + 2).toNatClampNeg) (xs (i3 + 3).toNatClampNeg) hn hJ1
  have ee := f1.symm.trans e1
  simp only [Option.some.injEq, Prod.mk.injEq] at ee
  obtain ⟨rfl, rfl⟩ := ee
  have hWM2 : zW (fun q1 => zAM q e9 q1 ∨ H1.size ≤ q1) cy D (zz H1.size y) H1 := zW_mono hWM1 (fun q1 g1 _ => Or.inl g1)
  refine lv_aload_n hx hb dL_law_196 rfl (lv_at hl 2 rfl) ?_
  refine lv_aload_n hx hb dL_law_197 rfl (lv_at hl 0 rfl) ?_
  refine lv_iload_n hx hb dL_law_198 rfl (lv_at hl 3 rfl) ?_
  refine lv_iconst (v := 1) hx hb dL_law_199 (by decide) ?_
  refine lv_iadd hx hb dL_law_200 ?_
  refine va_sld hx hb hX hbl hbA hS (hin 1 (by decide)) dL_law_201 ?_
  refine lv_aload_n hx hb dL_law_202 rfl (lv_at hl 0 rfl) ?_
  refine lv_iload_n hx hb dL_law_203 rfl (lv_at hl 3 rfl) ?_
  refine lv_iconst (v := 2) hx hb dL_law_204 (by decide) ?_
  refine lv_iadd hx hb dL_law_205 ?_
  refine va_sld hx hb hX hbl hbA hS (hin 2 (by decide)) dL_law_206 ?_
  refine lv_aload_n hx hb dL_law_207 rfl (lv_at hl 0 rfl) ?_
  refine lv_iload_n hx hb dL_law_208 rfl (lv_at hl 3 rfl) ?_
  refine lv_iconst (v := 3) hx hb dL_law_209 (by decide) ?_
  refine lv_iadd hx hb dL_law_210 ?_
  refine va_sld hx hb hX hbl hbA hS (hin 3 (by decide)) dL_law_211 ?_
  refine y_calli (rest := [.int r2]) (A1 := fun q1 => zAM q e9 q1 ∨ H1.size ≤ q1) C hWM2 hS (fun q1 h9 => Or.inr h9) (fun q1 h9 => h9.elim (fun g => by have := g.1; omega) (fun g => Nat.le_trans hS.1 g)) (cX11_leaf_met f2) kb_X11_leaf kv_X11_leaf kl_L_22 hTq kX11 rfl rfl ⟨Nat.le_of_ble_eq_true rfl, Nat.le_of_ble_eq_true rfl⟩ rfl rfl (Nat.le_of_ble_eq_true rfl) hl.1 dL_law_212 ⟨by show _ ≤ 600000; omega, by show _ ≤ 7302250; omega⟩ (fun H2 locs2 hWM3 hS2 hz2 hk2 => ?_)
  have hsz : H2.size = H1.size := by
    rw [hWM3.1, f3]
    rfl
  have hWF2 : zW (zAF s0 q e9) cy D x2 H2 := by
    have h7 := zW_keep (H1 := H2) hWF1 (fun q1 g1 g2 => hk2 q1 g1 (fun g3 => g3.elim (fun g4 => g2.2 g4) (fun g4 => by omega)))
    have h8 : zz H2.size x2 = x2 := by
      rw [hsz, hWF1.1]
      rfl
    rw [h8] at h7
    exact h7
  have hWM4 : zW (zAM q e9) cy D y2 H2 := zW_mono hWM3 (fun q1 g1 g2 => g1.elim (fun g4 => g4) (fun g4 => by omega))
  have hTo2 : zT x2 o = 10 := (hT n x2 y2 f4).1
  have hTq2 : zT y2 q = 11 := (hT n x2 y2 f4).2
  refine lv_icmp_eq (tgt := 1017) hx hb dL_law_215 (by decide) (fun _ => ?_) (fun c1 => absurd rfl c1)
  refine W.widen (k := 69 + 701 * (n + 1)) (n := 147138 + 7010 * (n + 1)) (by omega) (by omega) ?_
  exact kk H2 locs2 x2 y2 ⟨hWF2, hWM4, f4, hTo2, hTq2, by omega, hq0⟩ hS2

set_option maxHeartbeats 4000000 in
set_option maxRecDepth 100000 in
theorem yc_2 {J : zJ} {s0 o q e9 n : Nat} {x y : Hz} {i3 : Int32} (hs0 : s0 = s.heap.size) (hJ : zAll J o q) (hz : ∀ n x y k, J n x y → J n x (zz k y)) (hT : ∀ n x y, J (n + 1) x y → zT x o = 10 ∧ zT y q = 11) (C : zLx D cy p s m meth c b L xs) (hn : n < 512) (hin : ∀ k : Int32, k ∈ ([0, 1, 2, 3, 4, 5] : List Int32) → vp_in (i3 + k) L) (h2 : zTwo J D cy s0 o q e9 n x y H) (hS : va_S (fun q => s.heap.size ≤ q) s.heap H locs) (hl : lv_has ls 4 [(0, .ref b), (1, .ref o), (2, .ref q), (3, .int i3)]) (hc : cells ≤ 69 + 701 * n) (hs : slots ≤ 147138 + 7010 * n)
    (kk : ∀ (H1 : Heap) (locs1 : List Loc) (x1 y1 : Hz), zTwo J D cy s0 o q e9 (n + 1) x1 y1 H1 → va_S (fun q => s.heap.size ≤ q) s.heap H1 locs1 → W p l e room_1 s m #[Value.ref b] below meth c H1 locs1 (69 + 701 * (n + 1)) (147138 + 7010 * (n + 1)) Q (F0 m 1017 ls [])) : W p l e room_1 s m #[Value.ref b] below meth c H locs cells slots Q (F0 m 220 ls []) := by
  obtain ⟨⟨hx, hb, hr, hml, hown, hts0, hX, hbl, hlocks, hgv⟩, hts, hK, hN⟩ := id C
  have hbA : ¬ (fun q : Nat => s.heap.size ≤ q) b := Nat.not_le.mpr hbl
  obtain ⟨hWF, hWM, hJn, hTo, hTq, he, hq0⟩ := h2
  obtain ⟨r, x', y', e1, -, -, -⟩ := hJ.2.2.1 n x y (xs (i3 + 1).toNatClampNeg) (xs (i3 + 2).toNatClampNeg) (xs (i3 + 3).toNatClampNeg) hn hJn
  refine lv_aload_n hx hb dL_law_220 rfl (lv_at hl 1 rfl) ?_
  refine lv_aload_n hx hb dL_law_221 rfl (lv_at hl 0 rfl) ?_
  refine lv_iload_n hx hb dL_law_222 rfl (lv_at hl 3 rfl) ?_
  refine lv_iconst (v := 1) hx hb dL_law_223 (by decide) ?_
  refine lv_iadd hx hb dL_law_224 ?_
  refine va_sld hx hb hX hbl hbA hS (hin 1 (by decide)) dL_law_225 ?_
  refine lv_aload_n hx hb dL_law_226 rfl (lv_at hl 0 rfl) ?_
  refine lv_iload_n hx hb dL_law_227 rfl (lv_at hl 3 rfl) ?_
  refine lv_iconst (v := 2) hx hb dL_law_228 (by decide) ?_
  refine lv_iadd hx hb dL_law_229 ?_
  refine va_sld hx hb hX hbl hbA hS (hin 2 (by decide)) dL_law_230 ?_
  refine lv_aload_n hx hb dL_law_231 rfl (lv_at hl 0 rfl) ?_
  refine lv_iload_n hx hb dL_law_232 rfl (lv_at hl 3 rfl) ?_
  refine lv_iconst (v := 3) hx hb dL_law_233 (by decide) ?_
  refine lv_iadd hx hb dL_law_234 ?_
  refine va_sld hx hb hX hbl hbA hS (hin 3 (by decide)) dL_law_235 ?_
  refine y_calli (rest := []) (A1 := zAF s0 q e9) C hWF hS (fun q1 h9 => ⟨by have := hS.1; omega, fun h8 => by omega⟩) (fun q1 h9 => by rw [← hs0]; exact h9.1) (cX10_box_met e1) kb_X10_box kv_X10_box kl_L_23 hTo kX10 rfl rfl ⟨Nat.le_of_ble_eq_true rfl, Nat.le_of_ble_eq_true rfl⟩ rfl rfl (by decide) hl.1 dL_law_236 ⟨by show _ ≤ 600000; omega, by show _ ≤ 7302250; omega⟩ (fun H1 locs1 hWF1 hS1 hz1 hk1 => ?_)
  have hS := hS1
  have hWM1 : zW (zAM q e9) cy D (zz H1.size y) H1 := zW_keep hWM (fun q1 g1 g2 => hk1 q1 g1 (fun g3 => g3.2 g2))
  have hJ1 := hz n x y H1.size hJn
  obtain ⟨r2, x2, y2, f1, f2, f3, f4⟩ := hJ.2.2.1 n x (zz H1.size y) (xs (i3 + 1).toNatClampNeg) (xs (i3 + 2).toNatClampNeg) (xs (i3 + 3).toNatClampNeg) hn hJ1
  have ee := f1.symm.trans e1
  simp only [Option.some.injEq, Prod.mk.injEq] at ee
  obtain ⟨rfl, rfl⟩ := ee
  have hWM2 : zW (fun q1 => zAM q e9 q1 ∨ H1.size ≤ q1) cy D (zz H1.size y) H1 := zW_mono hWM1 (fun q1 g1 _ => Or.inl g1)
  refine lv_aload_n hx hb dL_law_239 rfl (lv_at hl 2 rfl) ?_
  refine lv_aload_n hx hb dL_law_240 rfl (lv_at hl 0 rfl) ?_
  refine lv_iload_n hx hb dL_law_241 rfl (lv_at hl 3 rfl) ?_
  refine lv_iconst (v := 1) hx hb dL_law_242 (by decide) ?_
  refine lv_iadd hx hb dL_law_243 ?_
  refine va_sld hx hb hX hbl hbA hS (hin 1 (by decide)) dL_law_244 ?_
  refine lv_aload_n hx hb dL_law_245 rfl (lv_at hl 0 rfl) ?_
  refine lv_iload_n hx hb dL_law_246 rfl (lv_at hl 3 rfl) ?_
  refine lv_iconst (v := 2) hx hb dL_law_247 (by decide) ?_
  refine lv_iadd hx hb dL_law_248 ?_
  refine va_sld hx hb hX hbl hbA hS (hin 2 (by decide)) dL_law_249 ?_
  refine lv_aload_n hx hb dL_law_250 rfl (lv_at hl 0 rfl) ?_
  refine lv_iload_n hx hb dL_law_251 rfl (lv_at hl 3 rfl) ?_
  refine lv_iconst (v := 3) hx hb dL_law_252 (by decide) ?_
  refine lv_iadd hx hb dL_law_253 ?_
  refine va_sld hx hb hX hbl hbA hS (hin 3 (by decide)) dL_law_254 ?_
  refine y_calli (rest := [.int r2]) (A1 := fun q1 => zAM q e9 q1 ∨ H1.size ≤ q1) C hWM2 hS (fun q1 h9 => Or.inr h9) (fun q1 h9 => h9.elim (fun g => by have := g.1; omega) (fun g => Nat.le_trans hS.1 g)) (cX11_box_met f2) kb_X11_box kv_X11_box kl_L_26 hTq kX11 rfl rfl ⟨Nat.le_of_ble_eq_true rfl, Nat.le_of_ble_eq_true rfl⟩ rfl rfl (Nat.le_of_ble_eq_true rfl) hl.1 dL_law_255 ⟨by show _ ≤ 600000; omega, by show _ ≤ 7302250; omega⟩ (fun H2 locs2 hWM3 hS2 hz2 hk2 => ?_)
  have hsz : H2.size = H1.size := by
    rw [hWM3.1, f3]
    rfl
  have hWF2 : zW (zAF s0 q e9) cy D x2 H2 := by
    have h7 := zW_keep (H1 := H2) hWF1 (fun q1 g1 g2 => hk2 q1 g1 (fun g3 => g3.elim (fun g4 => g2.2 g4) (fun g4 => by omega)))
    have h8 : zz H2.size x2 = x2 := by
      rw [hsz, hWF1.1]
      rfl
    rw [h8] at h7
    exact h7
  have hWM4 : zW (zAM q e9) cy D y2 H2 := zW_mono hWM3 (fun q1 g1 g2 => g1.elim (fun g4 => g4) (fun g4 => by omega))
  have hTo2 : zT x2 o = 10 := (hT n x2 y2 f4).1
  have hTq2 : zT y2 q = 11 := (hT n x2 y2 f4).2
  refine lv_icmp_eq (tgt := 1017) hx hb dL_law_258 (by decide) (fun _ => ?_) (fun c1 => absurd rfl c1)
  refine W.widen (k := 69 + 701 * (n + 1)) (n := 147138 + 7010 * (n + 1)) (by omega) (by omega) ?_
  exact kk H2 locs2 x2 y2 ⟨hWF2, hWM4, f4, hTo2, hTq2, by omega, hq0⟩ hS2

set_option maxHeartbeats 4000000 in
set_option maxRecDepth 100000 in
theorem yc_3 {J : zJ} {s0 o q e9 n : Nat} {x y : Hz} {i3 : Int32} (hs0 : s0 = s.heap.size) (hJ : zAll J o q) (hz : ∀ n x y k, J n x y → J n x (zz k y)) (hT : ∀ n x y, J (n + 1) x y → zT x o = 10 ∧ zT y q = 11) (C : zLx D cy p s m meth c b L xs) (hn : n < 512) (hin : ∀ k : Int32, k ∈ ([0, 1, 2, 3, 4, 5] : List Int32) → vp_in (i3 + k) L) (h2 : zTwo J D cy s0 o q e9 n x y H) (hS : va_S (fun q => s.heap.size ≤ q) s.heap H locs) (hl : lv_has ls 4 [(0, .ref b), (1, .ref o), (2, .ref q), (3, .int i3)]) (hc : cells ≤ 69 + 701 * n) (hs : slots ≤ 147138 + 7010 * n)
    (kk : ∀ (H1 : Heap) (locs1 : List Loc) (x1 y1 : Hz), zTwo J D cy s0 o q e9 (n + 1) x1 y1 H1 → va_S (fun q => s.heap.size ≤ q) s.heap H1 locs1 → W p l e room_1 s m #[Value.ref b] below meth c H1 locs1 (69 + 701 * (n + 1)) (147138 + 7010 * (n + 1)) Q (F0 m 1017 ls [])) : W p l e room_1 s m #[Value.ref b] below meth c H locs cells slots Q (F0 m 263 ls []) := by
  obtain ⟨⟨hx, hb, hr, hml, hown, hts0, hX, hbl, hlocks, hgv⟩, hts, hK, hN⟩ := id C
  have hbA : ¬ (fun q : Nat => s.heap.size ≤ q) b := Nat.not_le.mpr hbl
  obtain ⟨hWF, hWM, hJn, hTo, hTq, he, hq0⟩ := h2
  obtain ⟨r, x', y', e1, -, -, -⟩ := hJ.2.2.2.1 n x y (xs (i3 + 1).toNatClampNeg) (xs (i3 + 2).toNatClampNeg) (xs (i3 + 3).toNatClampNeg) hn hJn
  refine lv_aload_n hx hb dL_law_263 rfl (lv_at hl 1 rfl) ?_
  refine lv_aload_n hx hb dL_law_264 rfl (lv_at hl 0 rfl) ?_
  refine lv_iload_n hx hb dL_law_265 rfl (lv_at hl 3 rfl) ?_
  refine lv_iconst (v := 1) hx hb dL_law_266 (by decide) ?_
  refine lv_iadd hx hb dL_law_267 ?_
  refine va_sld hx hb hX hbl hbA hS (hin 1 (by decide)) dL_law_268 ?_
  refine lv_aload_n hx hb dL_law_269 rfl (lv_at hl 0 rfl) ?_
  refine lv_iload_n hx hb dL_law_270 rfl (lv_at hl 3 rfl) ?_
  refine lv_iconst (v := 2) hx hb dL_law_271 (by decide) ?_
  refine lv_iadd hx hb dL_law_272 ?_
  refine va_sld hx hb hX hbl hbA hS (hin 2 (by decide)) dL_law_273 ?_
  refine lv_aload_n hx hb dL_law_274 rfl (lv_at hl 0 rfl) ?_
  refine lv_iload_n hx hb dL_law_275 rfl (lv_at hl 3 rfl) ?_
  refine lv_iconst (v := 3) hx hb dL_law_276 (by decide) ?_
  refine lv_iadd hx hb dL_law_277 ?_
  refine va_sld hx hb hX hbl hbA hS (hin 3 (by decide)) dL_law_278 ?_
  refine y_calli (rest := []) (A1 := zAF s0 q e9) C hWF hS (fun q1 h9 => ⟨by have := hS.1; omega, fun h8 => by omega⟩) (fun q1 h9 => by rw [← hs0]; exact h9.1) (cX10_put_met e1) kb_X10_put kv_X10_put kl_L_27 hTo kX10 rfl rfl ⟨Nat.le_of_ble_eq_true rfl, Nat.le_of_ble_eq_true rfl⟩ rfl rfl (by decide) hl.1 dL_law_279 ⟨by show _ ≤ 600000; omega, by show _ ≤ 7302250; omega⟩ (fun H1 locs1 hWF1 hS1 hz1 hk1 => ?_)
  have hS := hS1
  have hWM1 : zW (zAM q e9) cy D (zz H1.size y) H1 := zW_keep hWM (fun q1 g1 g2 => hk1 q1 g1 (fun g3 => g3.2 g2))
  have hJ1 := hz n x y H1.size hJn
  obtain ⟨r2, x2, y2, f1, f2, f3, f4⟩ := hJ.2.2.2.1 n x (zz H1.size y) (xs (i3 + 1).toNatClampNeg) (xs (i3 + 2).toNatClampNeg) (xs (i3 + 3).toNatClampNeg) hn hJ1
  have ee := f1.symm.trans e1
  simp only [Option.some.injEq, Prod.mk.injEq] at ee
  obtain ⟨rfl, rfl⟩ := ee
  have hWM2 : zW (fun q1 => zAM q e9 q1 ∨ H1.size ≤ q1) cy D (zz H1.size y) H1 := zW_mono hWM1 (fun q1 g1 _ => Or.inl g1)
  refine lv_aload_n hx hb dL_law_282 rfl (lv_at hl 2 rfl) ?_
  refine lv_aload_n hx hb dL_law_283 rfl (lv_at hl 0 rfl) ?_
  refine lv_iload_n hx hb dL_law_284 rfl (lv_at hl 3 rfl) ?_
  refine lv_iconst (v := 1) hx hb dL_law_285 (by decide) ?_
  refine lv_iadd hx hb dL_law_286 ?_
  refine va_sld hx hb hX hbl hbA hS (hin 1 (by decide)) dL_law_287 ?_
  refine lv_aload_n hx hb dL_law_288 rfl (lv_at hl 0 rfl) ?_
  refine lv_iload_n hx hb dL_law_289 rfl (lv_at hl 3 rfl) ?_
  refine lv_iconst (v := 2) hx hb dL_law_290 (by decide) ?_
  refine lv_iadd hx hb dL_law_291 ?_
  refine va_sld hx hb hX hbl hbA hS (hin 2 (by decide)) dL_law_292 ?_
  refine lv_aload_n hx hb dL_law_293 rfl (lv_at hl 0 rfl) ?_
  refine lv_iload_n hx hb dL_law_294 rfl (lv_at hl 3 rfl) ?_
  refine lv_iconst (v := 3) hx hb dL_law_295 (by decide) ?_
  refine lv_iadd hx hb dL_law_296 ?_
  refine va_sld hx hb hX hbl hbA hS (hin 3 (by decide)) dL_law_297 ?_
  refine y_calli (rest := [.int r2]) (A1 := fun q1 => zAM q e9 q1 ∨ H1.size ≤ q1) C hWM2 hS (fun q1 h9 => Or.inr h9) (fun q1 h9 => h9.elim (fun g => by have := g.1; omega) (fun g => Nat.le_trans hS.1 g)) (cX11_put_met f2) kb_X11_put kv_X11_put kl_L_30 hTq kX11 rfl rfl ⟨Nat.le_of_ble_eq_true rfl, Nat.le_of_ble_eq_true rfl⟩ rfl rfl (Nat.le_of_ble_eq_true rfl) hl.1 dL_law_298 ⟨by show _ ≤ 600000; omega, by show _ ≤ 7302250; omega⟩ (fun H2 locs2 hWM3 hS2 hz2 hk2 => ?_)
  have hsz : H2.size = H1.size := by
    rw [hWM3.1, f3]
    rfl
  have hWF2 : zW (zAF s0 q e9) cy D x2 H2 := by
    have h7 := zW_keep (H1 := H2) hWF1 (fun q1 g1 g2 => hk2 q1 g1 (fun g3 => g3.elim (fun g4 => g2.2 g4) (fun g4 => by omega)))
    have h8 : zz H2.size x2 = x2 := by
      rw [hsz, hWF1.1]
      rfl
    rw [h8] at h7
    exact h7
  have hWM4 : zW (zAM q e9) cy D y2 H2 := zW_mono hWM3 (fun q1 g1 g2 => g1.elim (fun g4 => g4) (fun g4 => by omega))
  have hTo2 : zT x2 o = 10 := (hT n x2 y2 f4).1
  have hTq2 : zT y2 q = 11 := (hT n x2 y2 f4).2
  refine lv_icmp_eq (tgt := 1017) hx hb dL_law_301 (by decide) (fun _ => ?_) (fun c1 => absurd rfl c1)
  refine W.widen (k := 69 + 701 * (n + 1)) (n := 147138 + 7010 * (n + 1)) (by omega) (by omega) ?_
  exact kk H2 locs2 x2 y2 ⟨hWF2, hWM4, f4, hTo2, hTq2, by omega, hq0⟩ hS2

set_option maxHeartbeats 4000000 in
set_option maxRecDepth 100000 in
theorem yc_4 {J : zJ} {s0 o q e9 n : Nat} {x y : Hz} {i3 : Int32} (hs0 : s0 = s.heap.size) (hJ : zAll J o q) (hz : ∀ n x y k, J n x y → J n x (zz k y)) (hT : ∀ n x y, J (n + 1) x y → zT x o = 10 ∧ zT y q = 11) (C : zLx D cy p s m meth c b L xs) (hn : n < 512) (hin : ∀ k : Int32, k ∈ ([0, 1, 2, 3, 4, 5] : List Int32) → vp_in (i3 + k) L) (h2 : zTwo J D cy s0 o q e9 n x y H) (hS : va_S (fun q => s.heap.size ≤ q) s.heap H locs) (hl : lv_has ls 4 [(0, .ref b), (1, .ref o), (2, .ref q), (3, .int i3)]) (hc : cells ≤ 69 + 701 * n) (hs : slots ≤ 147138 + 7010 * n)
    (kk : ∀ (H1 : Heap) (locs1 : List Loc) (x1 y1 : Hz), zTwo J D cy s0 o q e9 (n + 1) x1 y1 H1 → va_S (fun q => s.heap.size ≤ q) s.heap H1 locs1 → W p l e room_1 s m #[Value.ref b] below meth c H1 locs1 (69 + 701 * (n + 1)) (147138 + 7010 * (n + 1)) Q (F0 m 1017 ls [])) : W p l e room_1 s m #[Value.ref b] below meth c H locs cells slots Q (F0 m 306 ls []) := by
  obtain ⟨⟨hx, hb, hr, hml, hown, hts0, hX, hbl, hlocks, hgv⟩, hts, hK, hN⟩ := id C
  have hbA : ¬ (fun q : Nat => s.heap.size ≤ q) b := Nat.not_le.mpr hbl
  obtain ⟨hWF, hWM, hJn, hTo, hTq, he, hq0⟩ := h2
  obtain ⟨r, x', y', e1, -, -, -⟩ := hJ.2.2.2.2.1 n x y (xs (i3 + 1).toNatClampNeg) (xs (i3 + 2).toNatClampNeg) hn hJn
  refine lv_aload_n hx hb dL_law_306 rfl (lv_at hl 1 rfl) ?_
  refine lv_aload_n hx hb dL_law_307 rfl (lv_at hl 0 rfl) ?_
  refine lv_iload_n hx hb dL_law_308 rfl (lv_at hl 3 rfl) ?_
  refine lv_iconst (v := 1) hx hb dL_law_309 (by decide) ?_
  refine lv_iadd hx hb dL_law_310 ?_
  refine va_sld hx hb hX hbl hbA hS (hin 1 (by decide)) dL_law_311 ?_
  refine lv_aload_n hx hb dL_law_312 rfl (lv_at hl 0 rfl) ?_
  refine lv_iload_n hx hb dL_law_313 rfl (lv_at hl 3 rfl) ?_
  refine lv_iconst (v := 2) hx hb dL_law_314 (by decide) ?_
  refine lv_iadd hx hb dL_law_315 ?_
  refine va_sld hx hb hX hbl hbA hS (hin 2 (by decide)) dL_law_316 ?_
  refine y_calli (rest := []) (A1 := zAF s0 q e9) C hWF hS (fun q1 h9 => ⟨by have := hS.1; omega, fun h8 => by omega⟩) (fun q1 h9 => by rw [← hs0]; exact h9.1) (cX10_clear_met e1) kb_X10_clear kv_X10_clear kl_L_31 hTo kX10 rfl rfl ⟨Nat.le_of_ble_eq_true rfl, Nat.le_of_ble_eq_true rfl⟩ rfl rfl (by decide) hl.1 dL_law_317 ⟨by show _ ≤ 600000; omega, by show _ ≤ 7302250; omega⟩ (fun H1 locs1 hWF1 hS1 hz1 hk1 => ?_)
  have hS := hS1
  have hWM1 : zW (zAM q e9) cy D (zz H1.size y) H1 := zW_keep hWM (fun q1 g1 g2 => hk1 q1 g1 (fun g3 => g3.2 g2))
  have hJ1 := hz n x y H1.size hJn
  obtain ⟨r2, x2, y2, f1, f2, f3, f4⟩ := hJ.2.2.2.2.1 n x (zz H1.size y) (xs (i3 + 1).toNatClampNeg) (xs (i3 + 2).toNatClampNeg) hn hJ1
  have ee := f1.symm.trans e1
  simp only [Option.some.injEq, Prod.mk.injEq] at ee
  obtain ⟨rfl, rfl⟩ := ee
  have hWM2 : zW (fun q1 => zAM q e9 q1 ∨ H1.size ≤ q1) cy D (zz H1.size y) H1 := zW_mono hWM1 (fun q1 g1 _ => Or.inl g1)
  refine lv_aload_n hx hb dL_law_320 rfl (lv_at hl 2 rfl) ?_
  refine lv_aload_n hx hb dL_law_321 rfl (lv_at hl 0 rfl) ?_
  refine lv_iload_n hx hb dL_law_322 rfl (lv_at hl 3 rfl) ?_
  refine lv_iconst (v := 1) hx hb dL_law_323 (by decide) ?_
  refine lv_iadd hx hb dL_law_324 ?_
  refine va_sld hx hb hX hbl hbA hS (hin 1 (by decide)) dL_law_325 ?_
  refine lv_aload_n hx hb dL_law_326 rfl (lv_at hl 0 rfl) ?_
  refine lv_iload_n hx hb dL_law_327 rfl (lv_at hl 3 rfl) ?_
  refine lv_iconst (v := 2) hx hb dL_law_328 (by decide) ?_
  refine lv_iadd hx hb dL_law_329 ?_
  refine va_sld hx hb hX hbl hbA hS (hin 2 (by decide)) dL_law_330 ?_
  refine y_calli (rest := [.int r2]) (A1 := fun q1 => zAM q e9 q1 ∨ H1.size ≤ q1) C hWM2 hS (fun q1 h9 => Or.inr h9) (fun q1 h9 => h9.elim (fun g => by have := g.1; omega) (fun g => Nat.le_trans hS.1 g)) (cX11_clear_met f2) kb_X11_clear kv_X11_clear kl_L_34 hTq kX11 rfl rfl ⟨Nat.le_of_ble_eq_true rfl, Nat.le_of_ble_eq_true rfl⟩ rfl rfl (Nat.le_of_ble_eq_true rfl) hl.1 dL_law_331 ⟨by show _ ≤ 600000; omega, by show _ ≤ 7302250; omega⟩ (fun H2 locs2 hWM3 hS2 hz2 hk2 => ?_)
  have hsz : H2.size = H1.size := by
    rw [hWM3.1, f3]
    rfl
  have hWF2 : zW (zAF s0 q e9) cy D x2 H2 := by
    have h7 := zW_keep (H1 := H2) hWF1 (fun q1 g1 g2 => hk2 q1 g1 (fun g3 => g3.elim (fun g4 => g2.2 g4) (fun g4 => by omega)))
    have h8 : zz H2.size x2 = x2 := by
      rw [hsz, hWF1.1]
      rfl
    rw [h8] at h7
    exact h7
  have hWM4 : zW (zAM q e9) cy D y2 H2 := zW_mono hWM3 (fun q1 g1 g2 => g1.elim (fun g4 => g4) (fun g4 => by omega))
  have hTo2 : zT x2 o = 10 := (hT n x2 y2 f4).1
  have hTq2 : zT y2 q = 11 := (hT n x2 y2 f4).2
  refine lv_icmp_eq (tgt := 1017) hx hb dL_law_334 (by decide) (fun _ => ?_) (fun c1 => absurd rfl c1)
  refine W.widen (k := 69 + 701 * (n + 1)) (n := 147138 + 7010 * (n + 1)) (by omega) (by omega) ?_
  exact kk H2 locs2 x2 y2 ⟨hWF2, hWM4, f4, hTo2, hTq2, by omega, hq0⟩ hS2

set_option maxHeartbeats 4000000 in
set_option maxRecDepth 100000 in
theorem yc_5 {J : zJ} {s0 o q e9 n : Nat} {x y : Hz} {i3 : Int32} (hs0 : s0 = s.heap.size) (hJ : zAll J o q) (hz : ∀ n x y k, J n x y → J n x (zz k y)) (hT : ∀ n x y, J (n + 1) x y → zT x o = 10 ∧ zT y q = 11) (C : zLx D cy p s m meth c b L xs) (hn : n < 512) (hin : ∀ k : Int32, k ∈ ([0, 1, 2, 3, 4, 5] : List Int32) → vp_in (i3 + k) L) (h2 : zTwo J D cy s0 o q e9 n x y H) (hS : va_S (fun q => s.heap.size ≤ q) s.heap H locs) (hl : lv_has ls 4 [(0, .ref b), (1, .ref o), (2, .ref q), (3, .int i3)]) (hc : cells ≤ 69 + 701 * n) (hs : slots ≤ 147138 + 7010 * n)
    (kk : ∀ (H1 : Heap) (locs1 : List Loc) (x1 y1 : Hz), zTwo J D cy s0 o q e9 (n + 1) x1 y1 H1 → va_S (fun q => s.heap.size ≤ q) s.heap H1 locs1 → W p l e room_1 s m #[Value.ref b] below meth c H1 locs1 (69 + 701 * (n + 1)) (147138 + 7010 * (n + 1)) Q (F0 m 1017 ls [])) : W p l e room_1 s m #[Value.ref b] below meth c H locs cells slots Q (F0 m 339 ls []) := by
  obtain ⟨⟨hx, hb, hr, hml, hown, hts0, hX, hbl, hlocks, hgv⟩, hts, hK, hN⟩ := id C
  have hbA : ¬ (fun q : Nat => s.heap.size ≤ q) b := Nat.not_le.mpr hbl
  obtain ⟨hWF, hWM, hJn, hTo, hTq, he, hq0⟩ := h2
  obtain ⟨r, x', y', e1, -, -, -⟩ := hJ.2.2.2.2.2.1 n x y (xs (i3 + 1).toNatClampNeg) (xs (i3 + 2).toNatClampNeg) (xs (i3 + 3).toNatClampNeg) (xs (i3 + 4).toNatClampNeg) hn hJn
  refine lv_aload_n hx hb dL_law_339 rfl (lv_at hl 1 rfl) ?_
  refine lv_aload_n hx hb dL_law_340 rfl (lv_at hl 0 rfl) ?_
  refine lv_iload_n hx hb dL_law_341 rfl (lv_at hl 3 rfl) ?_
  refine lv_iconst (v := 1) hx hb dL_law_342 (by decide) ?_
  refine lv_iadd hx hb dL_law_343 ?_
  refine va_sld hx hb hX hbl hbA hS (hin 1 (by decide)) dL_law_344 ?_
  refine lv_aload_n hx hb dL_law_345 rfl (lv_at hl 0 rfl) ?_
  refine lv_iload_n hx hb dL_law_346 rfl (lv_at hl 3 rfl) ?_
  refine lv_iconst (v := 2) hx hb dL_law_347 (by decide) ?_
  refine lv_iadd hx hb dL_law_348 ?_
  refine va_sld hx hb hX hbl hbA hS (hin 2 (by decide)) dL_law_349 ?_
  refine lv_aload_n hx hb dL_law_350 rfl (lv_at hl 0 rfl) ?_
  refine lv_iload_n hx hb dL_law_351 rfl (lv_at hl 3 rfl) ?_
  refine lv_iconst (v := 3) hx hb dL_law_352 (by decide) ?_
  refine lv_iadd hx hb dL_law_353 ?_
  refine va_sld hx hb hX hbl hbA hS (hin 3 (by decide)) dL_law_354 ?_
  refine lv_aload_n hx hb dL_law_355 rfl (lv_at hl 0 rfl) ?_
  refine lv_iload_n hx hb dL_law_356 rfl (lv_at hl 3 rfl) ?_
  refine lv_iconst (v := 4) hx hb dL_law_357 (by decide) ?_
  refine lv_iadd hx hb dL_law_358 ?_
  refine va_sld hx hb hX hbl hbA hS (hin 4 (by decide)) dL_law_359 ?_
  refine y_calli (rest := []) (A1 := zAF s0 q e9) C hWF hS (fun q1 h9 => ⟨by have := hS.1; omega, fun h8 => by omega⟩) (fun q1 h9 => by rw [← hs0]; exact h9.1) (cX10_row_met e1) kb_X10_row kv_X10_row kl_L_35 hTo kX10 rfl rfl ⟨Nat.le_of_ble_eq_true rfl, Nat.le_of_ble_eq_true rfl⟩ rfl rfl (by decide) hl.1 dL_law_360 ⟨by show _ ≤ 600000; omega, by show _ ≤ 7302250; omega⟩ (fun H1 locs1 hWF1 hS1 hz1 hk1 => ?_)
  have hS := hS1
  have hWM1 : zW (zAM q e9) cy D (zz H1.size y) H1 := zW_keep hWM (fun q1 g1 g2 => hk1 q1 g1 (fun g3 => g3.2 g2))
  have hJ1 := hz n x y H1.size hJn
  obtain ⟨r2, x2, y2, f1, f2, f3, f4⟩ := hJ.2.2.2.2.2.1 n x (zz H1.size y) (xs (i3 + 1).toNatClampNeg) (xs (i3 + 2).toNatClampNeg) (xs (i3 + 3).toNatClampNeg) (xs (i3 + 4).toNatClampNeg) hn hJ1
  have ee := f1.symm.trans e1
  simp only [Option.some.injEq, Prod.mk.injEq] at ee
  obtain ⟨rfl, rfl⟩ := ee
  have hWM2 : zW (fun q1 => zAM q e9 q1 ∨ H1.size ≤ q1) cy D (zz H1.size y) H1 := zW_mono hWM1 (fun q1 g1 _ => Or.inl g1)
  refine lv_aload_n hx hb dL_law_363 rfl (lv_at hl 2 rfl) ?_
  refine lv_aload_n hx hb dL_law_364 rfl (lv_at hl 0 rfl) ?_
  refine lv_iload_n hx hb dL_law_365 rfl (lv_at hl 3 rfl) ?_
  refine lv_iconst (v := 1) hx hb dL_law_366 (by decide) ?_
  refine lv_iadd hx hb dL_law_367 ?_
  refine va_sld hx hb hX hbl hbA hS (hin 1 (by decide)) dL_law_368 ?_
  refine lv_aload_n hx hb dL_law_369 rfl (lv_at hl 0 rfl) ?_
  refine lv_iload_n hx hb dL_law_370 rfl (lv_at hl 3 rfl) ?_
  refine lv_iconst (v := 2) hx hb dL_law_371 (by decide) ?_
  refine lv_iadd hx hb dL_law_372 ?_
  refine va_sld hx hb hX hbl hbA hS (hin 2 (by decide)) dL_law_373 ?_
  refine lv_aload_n hx hb dL_law_374 rfl (lv_at hl 0 rfl) ?_
  refine lv_iload_n hx hb dL_law_375 rfl (lv_at hl 3 rfl) ?_
  refine lv_iconst (v := 3) hx hb dL_law_376 (by decide) ?_
  refine lv_iadd hx hb dL_law_377 ?_
  refine va_sld hx hb hX hbl hbA hS (hin 3 (by decide)) dL_law_378 ?_
  refine lv_aload_n hx hb dL_law_379 rfl (lv_at hl 0 rfl) ?_
  refine lv_iload_n hx hb dL_law_380 rfl (lv_at hl 3 rfl) ?_
  refine lv_iconst (v := 4) hx hb dL_law_381 (by decide) ?_
  refine lv_iadd hx hb dL_law_382 ?_
  refine va_sld hx hb hX hbl hbA hS (hin 4 (by decide)) dL_law_383 ?_
  refine y_calli (rest := [.int r2]) (A1 := fun q1 => zAM q e9 q1 ∨ H1.size ≤ q1) C hWM2 hS (fun q1 h9 => Or.inr h9) (fun q1 h9 => h9.elim (fun g => by have := g.1; omega) (fun g => Nat.le_trans hS.1 g)) (cX11_row_met f2) kb_X11_row kv_X11_row kl_L_39 hTq kX11 rfl rfl ⟨Nat.le_of_ble_eq_true rfl, Nat.le_of_ble_eq_true rfl⟩ rfl rfl (Nat.le_of_ble_eq_true rfl) hl.1 dL_law_384 ⟨by show _ ≤ 600000; omega, by show _ ≤ 7302250; omega⟩ (fun H2 locs2 hWM3 hS2 hz2 hk2 => ?_)
  have hsz : H2.size = H1.size := by
    rw [hWM3.1, f3]
    rfl
  have hWF2 : zW (zAF s0 q e9) cy D x2 H2 := by
    have h7 := zW_keep (H1 := H2) hWF1 (fun q1 g1 g2 => hk2 q1 g1 (fun g3 => g3.elim (fun g4 => g2.2 g4) (fun g4 => by omega)))
    have h8 : zz H2.size x2 = x2 := by
      rw [hsz, hWF1.1]
      rfl
    rw [h8] at h7
    exact h7
  have hWM4 : zW (zAM q e9) cy D y2 H2 := zW_mono hWM3 (fun q1 g1 g2 => g1.elim (fun g4 => g4) (fun g4 => by omega))
  have hTo2 : zT x2 o = 10 := (hT n x2 y2 f4).1
  have hTq2 : zT y2 q = 11 := (hT n x2 y2 f4).2
  refine lv_icmp_eq (tgt := 1017) hx hb dL_law_387 (by decide) (fun _ => ?_) (fun c1 => absurd rfl c1)
  refine W.widen (k := 69 + 701 * (n + 1)) (n := 147138 + 7010 * (n + 1)) (by omega) (by omega) ?_
  exact kk H2 locs2 x2 y2 ⟨hWF2, hWM4, f4, hTo2, hTq2, by omega, hq0⟩ hS2

set_option maxHeartbeats 4000000 in
set_option maxRecDepth 100000 in
theorem yc_6 {J : zJ} {s0 o q e9 n : Nat} {x y : Hz} {i3 : Int32} (hs0 : s0 = s.heap.size) (hJ : zAll J o q) (hz : ∀ n x y k, J n x y → J n x (zz k y)) (hT : ∀ n x y, J (n + 1) x y → zT x o = 10 ∧ zT y q = 11) (C : zLx D cy p s m meth c b L xs) (hn : n < 512) (hin : ∀ k : Int32, k ∈ ([0, 1, 2, 3, 4, 5] : List Int32) → vp_in (i3 + k) L) (h2 : zTwo J D cy s0 o q e9 n x y H) (hS : va_S (fun q => s.heap.size ≤ q) s.heap H locs) (hl : lv_has ls 4 [(0, .ref b), (1, .ref o), (2, .ref q), (3, .int i3)]) (hc : cells ≤ 69 + 701 * n) (hs : slots ≤ 147138 + 7010 * n)
    (kk : ∀ (H1 : Heap) (locs1 : List Loc) (x1 y1 : Hz), zTwo J D cy s0 o q e9 (n + 1) x1 y1 H1 → va_S (fun q => s.heap.size ≤ q) s.heap H1 locs1 → W p l e room_1 s m #[Value.ref b] below meth c H1 locs1 (69 + 701 * (n + 1)) (147138 + 7010 * (n + 1)) Q (F0 m 1017 ls [])) : W p l e room_1 s m #[Value.ref b] below meth c H locs cells slots Q (F0 m 392 ls []) := by
  obtain ⟨⟨hx, hb, hr, hml, hown, hts0, hX, hbl, hlocks, hgv⟩, hts, hK, hN⟩ := id C
  have hbA : ¬ (fun q : Nat => s.heap.size ≤ q) b := Nat.not_le.mpr hbl
  obtain ⟨hWF, hWM, hJn, hTo, hTq, he, hq0⟩ := h2
  obtain ⟨r, x', y', e1, -, -, -⟩ := hJ.2.2.2.2.2.2.1 n x y (xs (i3 + 1).toNatClampNeg) (xs (i3 + 2).toNatClampNeg) (xs (i3 + 3).toNatClampNeg) ((((xs (i3 + 4).toNatClampNeg).toInt64 <<< ((32 : Int32).toInt64 &&& 63)) : Int64) ||| ((xs (i3 + 5).toNatClampNeg).toInt64 &&& 4294967295)) hn hJn
  refine lv_aload_n hx hb dL_law_392 rfl (lv_at hl 1 rfl) ?_
  refine lv_aload_n hx hb dL_law_393 rfl (lv_at hl 0 rfl) ?_
  refine lv_iload_n hx hb dL_law_394 rfl (lv_at hl 3 rfl) ?_
  refine lv_iconst (v := 1) hx hb dL_law_395 (by decide) ?_
  refine lv_iadd hx hb dL_law_396 ?_
  refine va_sld hx hb hX hbl hbA hS (hin 1 (by decide)) dL_law_397 ?_
  refine lv_aload_n hx hb dL_law_398 rfl (lv_at hl 0 rfl) ?_
  refine lv_iload_n hx hb dL_law_399 rfl (lv_at hl 3 rfl) ?_
  refine lv_iconst (v := 2) hx hb dL_law_400 (by decide) ?_
  refine lv_iadd hx hb dL_law_401 ?_
  refine va_sld hx hb hX hbl hbA hS (hin 2 (by decide)) dL_law_402 ?_
  refine lv_aload_n hx hb dL_law_403 rfl (lv_at hl 0 rfl) ?_
  refine lv_iload_n hx hb dL_law_404 rfl (lv_at hl 3 rfl) ?_
  refine lv_iconst (v := 3) hx hb dL_law_405 (by decide) ?_
  refine lv_iadd hx hb dL_law_406 ?_
  refine va_sld hx hb hX hbl hbA hS (hin 3 (by decide)) dL_law_407 ?_
  refine lv_aload_n hx hb dL_law_408 rfl (lv_at hl 0 rfl) ?_
  refine lv_iload_n hx hb dL_law_409 rfl (lv_at hl 3 rfl) ?_
  refine lv_iconst (v := 4) hx hb dL_law_410 (by decide) ?_
  refine lv_iadd hx hb dL_law_411 ?_
  refine va_sld hx hb hX hbl hbA hS (hin 4 (by decide)) dL_law_412 ?_
  refine lv_i2l (v := (xs (i3 + 4).toNatClampNeg).toInt64) hx hb dL_law_413 rfl ?_
  refine lv_bipush (v := 32) hx hb dL_law_414 (by decide) ?_
  refine lv_lshl (v := (((xs (i3 + 4).toNatClampNeg).toInt64 <<< ((32 : Int32).toInt64 &&& 63)) : Int64)) hx hb dL_law_416 rfl ?_
  refine lv_aload_n hx hb dL_law_417 rfl (lv_at hl 0 rfl) ?_
  refine lv_iload_n hx hb dL_law_418 rfl (lv_at hl 3 rfl) ?_
  refine lv_iconst (v := 5) hx hb dL_law_419 (by decide) ?_
  refine lv_iadd hx hb dL_law_420 ?_
  refine va_sld hx hb hX hbl hbA hS (hin 5 (by decide)) dL_law_421 ?_
  refine lv_i2l (v := (xs (i3 + 5).toNatClampNeg).toInt64) hx hb dL_law_422 rfl ?_
  refine lv_ldc2 (v := 4294967295) hx hb hown (hts _ kk_L_40) dL_law_423 ?_
  refine lv_land hx hb dL_law_426 ?_
  refine lv_lor hx hb dL_law_427 ?_
  refine y_calli (rest := []) (A1 := zAF s0 q e9) C hWF hS (fun q1 h9 => ⟨by have := hS.1; omega, fun h8 => by omega⟩) (fun q1 h9 => by rw [← hs0]; exact h9.1) (cX10_set_met e1) kb_X10_set kv_X10_set kl_L_42 hTo kX10 rfl rfl ⟨Nat.le_of_ble_eq_true rfl, Nat.le_of_ble_eq_true rfl⟩ rfl rfl (by decide) hl.1 dL_law_428 ⟨by show _ ≤ 600000; omega, by show _ ≤ 7302250; omega⟩ (fun H1 locs1 hWF1 hS1 hz1 hk1 => ?_)
  have hS := hS1
  have hWM1 : zW (zAM q e9) cy D (zz H1.size y) H1 := zW_keep hWM (fun q1 g1 g2 => hk1 q1 g1 (fun g3 => g3.2 g2))
  have hJ1 := hz n x y H1.size hJn
  obtain ⟨r2, x2, y2, f1, f2, f3, f4⟩ := hJ.2.2.2.2.2.2.1 n x (zz H1.size y) (xs (i3 + 1).toNatClampNeg) (xs (i3 + 2).toNatClampNeg) (xs (i3 + 3).toNatClampNeg) ((((xs (i3 + 4).toNatClampNeg).toInt64 <<< ((32 : Int32).toInt64 &&& 63)) : Int64) ||| ((xs (i3 + 5).toNatClampNeg).toInt64 &&& 4294967295)) hn hJ1
  have ee := f1.symm.trans e1
  simp only [Option.some.injEq, Prod.mk.injEq] at ee
  obtain ⟨rfl, rfl⟩ := ee
  have hWM2 : zW (fun q1 => zAM q e9 q1 ∨ H1.size ≤ q1) cy D (zz H1.size y) H1 := zW_mono hWM1 (fun q1 g1 _ => Or.inl g1)
  refine lv_aload_n hx hb dL_law_431 rfl (lv_at hl 2 rfl) ?_
  refine lv_aload_n hx hb dL_law_432 rfl (lv_at hl 0 rfl) ?_
  refine lv_iload_n hx hb dL_law_433 rfl (lv_at hl 3 rfl) ?_
  refine lv_iconst (v := 1) hx hb dL_law_434 (by decide) ?_
  refine lv_iadd hx hb dL_law_435 ?_
  refine va_sld hx hb hX hbl hbA hS (hin 1 (by decide)) dL_law_436 ?_
  refine lv_aload_n hx hb dL_law_437 rfl (lv_at hl 0 rfl) ?_
  refine lv_iload_n hx hb dL_law_438 rfl (lv_at hl 3 rfl) ?_
  refine lv_iconst (v := 2) hx hb dL_law_439 (by decide) ?_
  refine lv_iadd hx hb dL_law_440 ?_
  refine va_sld hx hb hX hbl hbA hS (hin 2 (by decide)) dL_law_441 ?_
  refine lv_aload_n hx hb dL_law_442 rfl (lv_at hl 0 rfl) ?_
  refine lv_iload_n hx hb dL_law_443 rfl (lv_at hl 3 rfl) ?_
  refine lv_iconst (v := 3) hx hb dL_law_444 (by decide) ?_
  refine lv_iadd hx hb dL_law_445 ?_
  refine va_sld hx hb hX hbl hbA hS (hin 3 (by decide)) dL_law_446 ?_
  refine lv_aload_n hx hb dL_law_447 rfl (lv_at hl 0 rfl) ?_
  refine lv_iload_n hx hb dL_law_448 rfl (lv_at hl 3 rfl) ?_
  refine lv_iconst (v := 4) hx hb dL_law_449 (by decide) ?_
  refine lv_iadd hx hb dL_law_450 ?_
  refine va_sld hx hb hX hbl hbA hS (hin 4 (by decide)) dL_law_451 ?_
  refine lv_i2l (v := (xs (i3 + 4).toNatClampNeg).toInt64) hx hb dL_law_452 rfl ?_
  refine lv_bipush (v := 32) hx hb dL_law_453 (by decide) ?_
  refine lv_lshl (v := (((xs (i3 + 4).toNatClampNeg).toInt64 <<< ((32 : Int32).toInt64 &&& 63)) : Int64)) hx hb dL_law_455 rfl ?_
  refine lv_aload_n hx hb dL_law_456 rfl (lv_at hl 0 rfl) ?_
  refine lv_iload_n hx hb dL_law_457 rfl (lv_at hl 3 rfl) ?_
  refine lv_iconst (v := 5) hx hb dL_law_458 (by decide) ?_
  refine lv_iadd hx hb dL_law_459 ?_
  refine va_sld hx hb hX hbl hbA hS (hin 5 (by decide)) dL_law_460 ?_
  refine lv_i2l (v := (xs (i3 + 5).toNatClampNeg).toInt64) hx hb dL_law_461 rfl ?_
  refine lv_ldc2 (v := 4294967295) hx hb hown (hts _ kk_L_40) dL_law_462 ?_
  refine lv_land hx hb dL_law_465 ?_
  refine lv_lor hx hb dL_law_466 ?_
  refine y_calli (rest := [.int r2]) (A1 := fun q1 => zAM q e9 q1 ∨ H1.size ≤ q1) C hWM2 hS (fun q1 h9 => Or.inr h9) (fun q1 h9 => h9.elim (fun g => by have := g.1; omega) (fun g => Nat.le_trans hS.1 g)) (cX11_set_met f2) kb_X11_set kv_X11_set kl_L_46 hTq kX11 rfl rfl ⟨Nat.le_of_ble_eq_true rfl, Nat.le_of_ble_eq_true rfl⟩ rfl rfl (Nat.le_of_ble_eq_true rfl) hl.1 dL_law_467 ⟨by show _ ≤ 600000; omega, by show _ ≤ 7302250; omega⟩ (fun H2 locs2 hWM3 hS2 hz2 hk2 => ?_)
  have hsz : H2.size = H1.size := by
    rw [hWM3.1, f3]
    rfl
  have hWF2 : zW (zAF s0 q e9) cy D x2 H2 := by
    have h7 := zW_keep (H1 := H2) hWF1 (fun q1 g1 g2 => hk2 q1 g1 (fun g3 => g3.elim (fun g4 => g2.2 g4) (fun g4 => by omega)))
    have h8 : zz H2.size x2 = x2 := by
      rw [hsz, hWF1.1]
      rfl
    rw [h8] at h7
    exact h7
  have hWM4 : zW (zAM q e9) cy D y2 H2 := zW_mono hWM3 (fun q1 g1 g2 => g1.elim (fun g4 => g4) (fun g4 => by omega))
  have hTo2 : zT x2 o = 10 := (hT n x2 y2 f4).1
  have hTq2 : zT y2 q = 11 := (hT n x2 y2 f4).2
  refine lv_icmp_eq (tgt := 1017) hx hb dL_law_470 (by decide) (fun _ => ?_) (fun c1 => absurd rfl c1)
  refine W.widen (k := 69 + 701 * (n + 1)) (n := 147138 + 7010 * (n + 1)) (by omega) (by omega) ?_
  exact kk H2 locs2 x2 y2 ⟨hWF2, hWM4, f4, hTo2, hTq2, by omega, hq0⟩ hS2

set_option maxHeartbeats 4000000 in
set_option maxRecDepth 100000 in
theorem yc_7 {J : zJ} {s0 o q e9 n : Nat} {x y : Hz} {i3 : Int32} (hs0 : s0 = s.heap.size) (hJ : zAll J o q) (hz : ∀ n x y k, J n x y → J n x (zz k y)) (hT : ∀ n x y, J (n + 1) x y → zT x o = 10 ∧ zT y q = 11) (C : zLx D cy p s m meth c b L xs) (hn : n < 512) (hin : ∀ k : Int32, k ∈ ([0, 1, 2, 3, 4, 5] : List Int32) → vp_in (i3 + k) L) (h2 : zTwo J D cy s0 o q e9 n x y H) (hS : va_S (fun q => s.heap.size ≤ q) s.heap H locs) (hl : lv_has ls 4 [(0, .ref b), (1, .ref o), (2, .ref q), (3, .int i3)]) (hc : cells ≤ 69 + 701 * n) (hs : slots ≤ 147138 + 7010 * n)
    (kk : ∀ (H1 : Heap) (locs1 : List Loc) (x1 y1 : Hz), zTwo J D cy s0 o q e9 (n + 1) x1 y1 H1 → va_S (fun q => s.heap.size ≤ q) s.heap H1 locs1 → W p l e room_1 s m #[Value.ref b] below meth c H1 locs1 (69 + 701 * (n + 1)) (147138 + 7010 * (n + 1)) Q (F0 m 1017 ls [])) : W p l e room_1 s m #[Value.ref b] below meth c H locs cells slots Q (F0 m 475 ls []) := by
  obtain ⟨⟨hx, hb, hr, hml, hown, hts0, hX, hbl, hlocks, hgv⟩, hts, hK, hN⟩ := id C
  have hbA : ¬ (fun q : Nat => s.heap.size ≤ q) b := Nat.not_le.mpr hbl
  obtain ⟨hWF, hWM, hJn, hTo, hTq, he, hq0⟩ := h2
  obtain ⟨r, x', y', e1, -, -, -⟩ := hJ.2.2.2.2.2.2.2.1 n x y (xs (i3 + 1).toNatClampNeg) (xs (i3 + 2).toNatClampNeg) (xs (i3 + 3).toNatClampNeg) (xs (i3 + 4).toNatClampNeg) (xs (i3 + 5).toNatClampNeg) hn hJn
  refine lv_aload_n hx hb dL_law_475 rfl (lv_at hl 1 rfl) ?_
  refine lv_aload_n hx hb dL_law_476 rfl (lv_at hl 0 rfl) ?_
  refine lv_iload_n hx hb dL_law_477 rfl (lv_at hl 3 rfl) ?_
  refine lv_iconst (v := 1) hx hb dL_law_478 (by decide) ?_
  refine lv_iadd hx hb dL_law_479 ?_
  refine va_sld hx hb hX hbl hbA hS (hin 1 (by decide)) dL_law_480 ?_
  refine lv_aload_n hx hb dL_law_481 rfl (lv_at hl 0 rfl) ?_
  refine lv_iload_n hx hb dL_law_482 rfl (lv_at hl 3 rfl) ?_
  refine lv_iconst (v := 2) hx hb dL_law_483 (by decide) ?_
  refine lv_iadd hx hb dL_law_484 ?_
  refine va_sld hx hb hX hbl hbA hS (hin 2 (by decide)) dL_law_485 ?_
  refine lv_aload_n hx hb dL_law_486 rfl (lv_at hl 0 rfl) ?_
  refine lv_iload_n hx hb dL_law_487 rfl (lv_at hl 3 rfl) ?_
  refine lv_iconst (v := 3) hx hb dL_law_488 (by decide) ?_
  refine lv_iadd hx hb dL_law_489 ?_
  refine va_sld hx hb hX hbl hbA hS (hin 3 (by decide)) dL_law_490 ?_
  refine lv_aload_n hx hb dL_law_491 rfl (lv_at hl 0 rfl) ?_
  refine lv_iload_n hx hb dL_law_492 rfl (lv_at hl 3 rfl) ?_
  refine lv_iconst (v := 4) hx hb dL_law_493 (by decide) ?_
  refine lv_iadd hx hb dL_law_494 ?_
  refine va_sld hx hb hX hbl hbA hS (hin 4 (by decide)) dL_law_495 ?_
  refine lv_aload_n hx hb dL_law_496 rfl (lv_at hl 0 rfl) ?_
  refine lv_iload_n hx hb dL_law_497 rfl (lv_at hl 3 rfl) ?_
  refine lv_iconst (v := 5) hx hb dL_law_498 (by decide) ?_
  refine lv_iadd hx hb dL_law_499 ?_
  refine va_sld hx hb hX hbl hbA hS (hin 5 (by decide)) dL_law_500 ?_
  refine y_calli (rest := []) (A1 := zAF s0 q e9) C hWF hS (fun q1 h9 => ⟨by have := hS.1; omega, fun h8 => by omega⟩) (fun q1 h9 => by rw [← hs0]; exact h9.1) (cX10_copy_met e1) kb_X10_copy kv_X10_copy kl_L_47 hTo kX10 rfl rfl ⟨Nat.le_of_ble_eq_true rfl, Nat.le_of_ble_eq_true rfl⟩ rfl rfl (by decide) hl.1 dL_law_501 ⟨by show _ ≤ 600000; omega, by show _ ≤ 7302250; omega⟩ (fun H1 locs1 hWF1 hS1 hz1 hk1 => ?_)
  have hS := hS1
  have hWM1 : zW (zAM q e9) cy D (zz H1.size y) H1 := zW_keep hWM (fun q1 g1 g2 => hk1 q1 g1 (fun g3 => g3.2 g2))
  have hJ1 := hz n x y H1.size hJn
  obtain ⟨r2, x2, y2, f1, f2, f3, f4⟩ := hJ.2.2.2.2.2.2.2.1 n x (zz H1.size y) (xs (i3 + 1).toNatClampNeg) (xs (i3 + 2).toNatClampNeg) (xs (i3 + 3).toNatClampNeg) (xs (i3 + 4).toNatClampNeg) (xs (i3 + 5).toNatClampNeg) hn hJ1
  have ee := f1.symm.trans e1
  simp only [Option.some.injEq, Prod.mk.injEq] at ee
  obtain ⟨rfl, rfl⟩ := ee
  have hWM2 : zW (fun q1 => zAM q e9 q1 ∨ H1.size ≤ q1) cy D (zz H1.size y) H1 := zW_mono hWM1 (fun q1 g1 _ => Or.inl g1)
  refine lv_aload_n hx hb dL_law_504 rfl (lv_at hl 2 rfl) ?_
  refine lv_aload_n hx hb dL_law_505 rfl (lv_at hl 0 rfl) ?_
  refine lv_iload_n hx hb dL_law_506 rfl (lv_at hl 3 rfl) ?_
  refine lv_iconst (v := 1) hx hb dL_law_507 (by decide) ?_
  refine lv_iadd hx hb dL_law_508 ?_
  refine va_sld hx hb hX hbl hbA hS (hin 1 (by decide)) dL_law_509 ?_
  refine lv_aload_n hx hb dL_law_510 rfl (lv_at hl 0 rfl) ?_
  refine lv_iload_n hx hb dL_law_511 rfl (lv_at hl 3 rfl) ?_
  refine lv_iconst (v := 2) hx hb dL_law_512 (by decide) ?_
  refine lv_iadd hx hb dL_law_513 ?_
  refine va_sld hx hb hX hbl hbA hS (hin 2 (by decide)) dL_law_514 ?_
  refine lv_aload_n hx hb dL_law_515 rfl (lv_at hl 0 rfl) ?_
  refine lv_iload_n hx hb dL_law_516 rfl (lv_at hl 3 rfl) ?_
  refine lv_iconst (v := 3) hx hb dL_law_517 (by decide) ?_
  refine lv_iadd hx hb dL_law_518 ?_
  refine va_sld hx hb hX hbl hbA hS (hin 3 (by decide)) dL_law_519 ?_
  refine lv_aload_n hx hb dL_law_520 rfl (lv_at hl 0 rfl) ?_
  refine lv_iload_n hx hb dL_law_521 rfl (lv_at hl 3 rfl) ?_
  refine lv_iconst (v := 4) hx hb dL_law_522 (by decide) ?_
  refine lv_iadd hx hb dL_law_523 ?_
  refine va_sld hx hb hX hbl hbA hS (hin 4 (by decide)) dL_law_524 ?_
  refine lv_aload_n hx hb dL_law_525 rfl (lv_at hl 0 rfl) ?_
  refine lv_iload_n hx hb dL_law_526 rfl (lv_at hl 3 rfl) ?_
  refine lv_iconst (v := 5) hx hb dL_law_527 (by decide) ?_
  refine lv_iadd hx hb dL_law_528 ?_
  refine va_sld hx hb hX hbl hbA hS (hin 5 (by decide)) dL_law_529 ?_
  refine y_calli (rest := [.int r2]) (A1 := fun q1 => zAM q e9 q1 ∨ H1.size ≤ q1) C hWM2 hS (fun q1 h9 => Or.inr h9) (fun q1 h9 => h9.elim (fun g => by have := g.1; omega) (fun g => Nat.le_trans hS.1 g)) (cX11_copy_met f2) kb_X11_copy kv_X11_copy kl_L_51 hTq kX11 rfl rfl ⟨Nat.le_of_ble_eq_true rfl, Nat.le_of_ble_eq_true rfl⟩ rfl rfl (Nat.le_of_ble_eq_true rfl) hl.1 dL_law_530 ⟨by show _ ≤ 600000; omega, by show _ ≤ 7302250; omega⟩ (fun H2 locs2 hWM3 hS2 hz2 hk2 => ?_)
  have hsz : H2.size = H1.size := by
    rw [hWM3.1, f3]
    rfl
  have hWF2 : zW (zAF s0 q e9) cy D x2 H2 := by
    have h7 := zW_keep (H1 := H2) hWF1 (fun q1 g1 g2 => hk2 q1 g1 (fun g3 => g3.elim (fun g4 => g2.2 g4) (fun g4 => by omega)))
    have h8 : zz H2.size x2 = x2 := by
      rw [hsz, hWF1.1]
      rfl
    rw [h8] at h7
    exact h7
  have hWM4 : zW (zAM q e9) cy D y2 H2 := zW_mono hWM3 (fun q1 g1 g2 => g1.elim (fun g4 => g4) (fun g4 => by omega))
  have hTo2 : zT x2 o = 10 := (hT n x2 y2 f4).1
  have hTq2 : zT y2 q = 11 := (hT n x2 y2 f4).2
  refine lv_icmp_eq (tgt := 1017) hx hb dL_law_533 (by decide) (fun _ => ?_) (fun c1 => absurd rfl c1)
  refine W.widen (k := 69 + 701 * (n + 1)) (n := 147138 + 7010 * (n + 1)) (by omega) (by omega) ?_
  exact kk H2 locs2 x2 y2 ⟨hWF2, hWM4, f4, hTo2, hTq2, by omega, hq0⟩ hS2

set_option maxHeartbeats 4000000 in
set_option maxRecDepth 100000 in
theorem yc_8 {J : zJ} {s0 o q e9 n : Nat} {x y : Hz} {i3 : Int32} (hs0 : s0 = s.heap.size) (hJ : zAll J o q) (hz : ∀ n x y k, J n x y → J n x (zz k y)) (hT : ∀ n x y, J (n + 1) x y → zT x o = 10 ∧ zT y q = 11) (C : zLx D cy p s m meth c b L xs) (hn : n < 512) (hin : ∀ k : Int32, k ∈ ([0, 1, 2, 3, 4, 5] : List Int32) → vp_in (i3 + k) L) (h2 : zTwo J D cy s0 o q e9 n x y H) (hS : va_S (fun q => s.heap.size ≤ q) s.heap H locs) (hl : lv_has ls 4 [(0, .ref b), (1, .ref o), (2, .ref q), (3, .int i3)]) (hc : cells ≤ 69 + 701 * n) (hs : slots ≤ 147138 + 7010 * n)
    (kk : ∀ (H1 : Heap) (locs1 : List Loc) (x1 y1 : Hz), zTwo J D cy s0 o q e9 (n + 1) x1 y1 H1 → va_S (fun q => s.heap.size ≤ q) s.heap H1 locs1 → W p l e room_1 s m #[Value.ref b] below meth c H1 locs1 (69 + 701 * (n + 1)) (147138 + 7010 * (n + 1)) Q (F0 m 1017 ls [])) : W p l e room_1 s m #[Value.ref b] below meth c H locs cells slots Q (F0 m 538 ls []) := by
  obtain ⟨⟨hx, hb, hr, hml, hown, hts0, hX, hbl, hlocks, hgv⟩, hts, hK, hN⟩ := id C
  have hbA : ¬ (fun q : Nat => s.heap.size ≤ q) b := Nat.not_le.mpr hbl
  obtain ⟨hWF, hWM, hJn, hTo, hTq, he, hq0⟩ := h2
  obtain ⟨r, x', y', e1, -, -, -⟩ := hJ.2.2.2.2.2.2.2.2.1 n x y (xs (i3 + 1).toNatClampNeg) (xs (i3 + 2).toNatClampNeg) (xs (i3 + 3).toNatClampNeg) hn hJn
  refine lv_aload_n hx hb dL_law_538 rfl (lv_at hl 1 rfl) ?_
  refine lv_aload_n hx hb dL_law_539 rfl (lv_at hl 0 rfl) ?_
  refine lv_iload_n hx hb dL_law_540 rfl (lv_at hl 3 rfl) ?_
  refine lv_iconst (v := 1) hx hb dL_law_541 (by decide) ?_
  refine lv_iadd hx hb dL_law_542 ?_
  refine va_sld hx hb hX hbl hbA hS (hin 1 (by decide)) dL_law_543 ?_
  refine lv_aload_n hx hb dL_law_544 rfl (lv_at hl 0 rfl) ?_
  refine lv_iload_n hx hb dL_law_545 rfl (lv_at hl 3 rfl) ?_
  refine lv_iconst (v := 2) hx hb dL_law_546 (by decide) ?_
  refine lv_iadd hx hb dL_law_547 ?_
  refine va_sld hx hb hX hbl hbA hS (hin 2 (by decide)) dL_law_548 ?_
  refine lv_aload_n hx hb dL_law_549 rfl (lv_at hl 0 rfl) ?_
  refine lv_iload_n hx hb dL_law_550 rfl (lv_at hl 3 rfl) ?_
  refine lv_iconst (v := 3) hx hb dL_law_551 (by decide) ?_
  refine lv_iadd hx hb dL_law_552 ?_
  refine va_sld hx hb hX hbl hbA hS (hin 3 (by decide)) dL_law_553 ?_
  refine y_calll (rest := []) (A1 := zAF s0 q e9) C hWF hS (fun q1 h9 => ⟨by have := hS.1; omega, fun h8 => by omega⟩) (fun q1 h9 => by rw [← hs0]; exact h9.1) (cX10_element_met e1) kb_X10_element kv_X10_element kl_L_52 hTo kX10 rfl rfl ⟨Nat.le_of_ble_eq_true rfl, Nat.le_of_ble_eq_true rfl⟩ rfl rfl (by decide) hl.1 dL_law_554 ⟨by show _ ≤ 600000; omega, by show _ ≤ 7302250; omega⟩ (fun H1 locs1 hWF1 hS1 hz1 hk1 => ?_)
  have hS := hS1
  have hWM1 : zW (zAM q e9) cy D (zz H1.size y) H1 := zW_keep hWM (fun q1 g1 g2 => hk1 q1 g1 (fun g3 => g3.2 g2))
  have hJ1 := hz n x y H1.size hJn
  obtain ⟨r2, x2, y2, f1, f2, f3, f4⟩ := hJ.2.2.2.2.2.2.2.2.1 n x (zz H1.size y) (xs (i3 + 1).toNatClampNeg) (xs (i3 + 2).toNatClampNeg) (xs (i3 + 3).toNatClampNeg) hn hJ1
  have ee := f1.symm.trans e1
  simp only [Option.some.injEq, Prod.mk.injEq] at ee
  obtain ⟨rfl, rfl⟩ := ee
  have hWM2 : zW (fun q1 => zAM q e9 q1 ∨ H1.size ≤ q1) cy D (zz H1.size y) H1 := zW_mono hWM1 (fun q1 g1 _ => Or.inl g1)
  refine lv_aload_n hx hb dL_law_557 rfl (lv_at hl 2 rfl) ?_
  refine lv_aload_n hx hb dL_law_558 rfl (lv_at hl 0 rfl) ?_
  refine lv_iload_n hx hb dL_law_559 rfl (lv_at hl 3 rfl) ?_
  refine lv_iconst (v := 1) hx hb dL_law_560 (by decide) ?_
  refine lv_iadd hx hb dL_law_561 ?_
  refine va_sld hx hb hX hbl hbA hS (hin 1 (by decide)) dL_law_562 ?_
  refine lv_aload_n hx hb dL_law_563 rfl (lv_at hl 0 rfl) ?_
  refine lv_iload_n hx hb dL_law_564 rfl (lv_at hl 3 rfl) ?_
  refine lv_iconst (v := 2) hx hb dL_law_565 (by decide) ?_
  refine lv_iadd hx hb dL_law_566 ?_
  refine va_sld hx hb hX hbl hbA hS (hin 2 (by decide)) dL_law_567 ?_
  refine lv_aload_n hx hb dL_law_568 rfl (lv_at hl 0 rfl) ?_
  refine lv_iload_n hx hb dL_law_569 rfl (lv_at hl 3 rfl) ?_
  refine lv_iconst (v := 3) hx hb dL_law_570 (by decide) ?_
  refine lv_iadd hx hb dL_law_571 ?_
  refine va_sld hx hb hX hbl hbA hS (hin 3 (by decide)) dL_law_572 ?_
  refine y_calll (rest := [.long r2]) (A1 := fun q1 => zAM q e9 q1 ∨ H1.size ≤ q1) C hWM2 hS (fun q1 h9 => Or.inr h9) (fun q1 h9 => h9.elim (fun g => by have := g.1; omega) (fun g => Nat.le_trans hS.1 g)) (cX11_element_met f2) kb_X11_element kv_X11_element kl_L_56 hTq kX11 rfl rfl ⟨Nat.le_of_ble_eq_true rfl, Nat.le_of_ble_eq_true rfl⟩ rfl rfl (Nat.le_of_ble_eq_true rfl) hl.1 dL_law_573 ⟨by show _ ≤ 600000; omega, by show _ ≤ 7302250; omega⟩ (fun H2 locs2 hWM3 hS2 hz2 hk2 => ?_)
  have hsz : H2.size = H1.size := by
    rw [hWM3.1, f3]
    rfl
  have hWF2 : zW (zAF s0 q e9) cy D x2 H2 := by
    have h7 := zW_keep (H1 := H2) hWF1 (fun q1 g1 g2 => hk2 q1 g1 (fun g3 => g3.elim (fun g4 => g2.2 g4) (fun g4 => by omega)))
    have h8 : zz H2.size x2 = x2 := by
      rw [hsz, hWF1.1]
      rfl
    rw [h8] at h7
    exact h7
  have hWM4 : zW (zAM q e9) cy D y2 H2 := zW_mono hWM3 (fun q1 g1 g2 => g1.elim (fun g4 => g4) (fun g4 => by omega))
  have hTo2 : zT x2 o = 10 := (hT n x2 y2 f4).1
  have hTq2 : zT y2 q = 11 := (hT n x2 y2 f4).2
  refine W.lcmp hx hb dL_law_576 ?_
  refine lv_if_eq (tgt := 1017) hx hb dL_law_577 (by decide) (fun _ => ?_) (fun c1 => absurd (by simp [lg_cmp]) c1)
  refine W.widen (k := 69 + 701 * (n + 1)) (n := 147138 + 7010 * (n + 1)) (by omega) (by omega) ?_
  exact kk H2 locs2 x2 y2 ⟨hWF2, hWM4, f4, hTo2, hTq2, by omega, hq0⟩ hS2

set_option maxHeartbeats 4000000 in
set_option maxRecDepth 100000 in
theorem yc_9 {J : zJ} {s0 o q e9 n : Nat} {x y : Hz} {i3 : Int32} (hs0 : s0 = s.heap.size) (hJ : zAll J o q) (hz : ∀ n x y k, J n x y → J n x (zz k y)) (hT : ∀ n x y, J (n + 1) x y → zT x o = 10 ∧ zT y q = 11) (C : zLx D cy p s m meth c b L xs) (hn : n < 512) (hin : ∀ k : Int32, k ∈ ([0, 1, 2, 3, 4, 5] : List Int32) → vp_in (i3 + k) L) (h2 : zTwo J D cy s0 o q e9 n x y H) (hS : va_S (fun q => s.heap.size ≤ q) s.heap H locs) (hl : lv_has ls 4 [(0, .ref b), (1, .ref o), (2, .ref q), (3, .int i3)]) (hc : cells ≤ 69 + 701 * n) (hs : slots ≤ 147138 + 7010 * n)
    (kk : ∀ (H1 : Heap) (locs1 : List Loc) (x1 y1 : Hz), zTwo J D cy s0 o q e9 (n + 1) x1 y1 H1 → va_S (fun q => s.heap.size ≤ q) s.heap H1 locs1 → W p l e room_1 s m #[Value.ref b] below meth c H1 locs1 (69 + 701 * (n + 1)) (147138 + 7010 * (n + 1)) Q (F0 m 1017 ls [])) : W p l e room_1 s m #[Value.ref b] below meth c H locs cells slots Q (F0 m 582 ls []) := by
  obtain ⟨⟨hx, hb, hr, hml, hown, hts0, hX, hbl, hlocks, hgv⟩, hts, hK, hN⟩ := id C
  have hbA : ¬ (fun q : Nat => s.heap.size ≤ q) b := Nat.not_le.mpr hbl
  obtain ⟨hWF, hWM, hJn, hTo, hTq, he, hq0⟩ := h2
  obtain ⟨r, x', y', e1, -, -, -⟩ := hJ.2.2.2.2.2.2.2.2.2.1 n x y (xs (i3 + 1).toNatClampNeg) (xs (i3 + 2).toNatClampNeg) hn hJn
  refine lv_aload_n hx hb dL_law_582 rfl (lv_at hl 1 rfl) ?_
  refine lv_aload_n hx hb dL_law_583 rfl (lv_at hl 0 rfl) ?_
  refine lv_iload_n hx hb dL_law_584 rfl (lv_at hl 3 rfl) ?_
  refine lv_iconst (v := 1) hx hb dL_law_585 (by decide) ?_
  refine lv_iadd hx hb dL_law_586 ?_
  refine va_sld hx hb hX hbl hbA hS (hin 1 (by decide)) dL_law_587 ?_
  refine lv_aload_n hx hb dL_law_588 rfl (lv_at hl 0 rfl) ?_
  refine lv_iload_n hx hb dL_law_589 rfl (lv_at hl 3 rfl) ?_
  refine lv_iconst (v := 2) hx hb dL_law_590 (by decide) ?_
  refine lv_iadd hx hb dL_law_591 ?_
  refine va_sld hx hb hX hbl hbA hS (hin 2 (by decide)) dL_law_592 ?_
  refine y_calli (rest := []) (A1 := zAF s0 q e9) C hWF hS (fun q1 h9 => ⟨by have := hS.1; omega, fun h8 => by omega⟩) (fun q1 h9 => by rw [← hs0]; exact h9.1) (cX10_holds_met e1) kb_X10_holds kv_X10_holds kl_L_57 hTo kX10 rfl rfl ⟨Nat.le_of_ble_eq_true rfl, Nat.le_of_ble_eq_true rfl⟩ rfl rfl (by decide) hl.1 dL_law_593 ⟨by show _ ≤ 600000; omega, by show _ ≤ 7302250; omega⟩ (fun H1 locs1 hWF1 hS1 hz1 hk1 => ?_)
  have hS := hS1
  have hWM1 : zW (zAM q e9) cy D (zz H1.size y) H1 := zW_keep hWM (fun q1 g1 g2 => hk1 q1 g1 (fun g3 => g3.2 g2))
  have hJ1 := hz n x y H1.size hJn
  obtain ⟨r2, x2, y2, f1, f2, f3, f4⟩ := hJ.2.2.2.2.2.2.2.2.2.1 n x (zz H1.size y) (xs (i3 + 1).toNatClampNeg) (xs (i3 + 2).toNatClampNeg) hn hJ1
  have ee := f1.symm.trans e1
  simp only [Option.some.injEq, Prod.mk.injEq] at ee
  obtain ⟨rfl, rfl⟩ := ee
  have hWM2 : zW (fun q1 => zAM q e9 q1 ∨ H1.size ≤ q1) cy D (zz H1.size y) H1 := zW_mono hWM1 (fun q1 g1 _ => Or.inl g1)
  refine lv_aload_n hx hb dL_law_596 rfl (lv_at hl 2 rfl) ?_
  refine lv_aload_n hx hb dL_law_597 rfl (lv_at hl 0 rfl) ?_
  refine lv_iload_n hx hb dL_law_598 rfl (lv_at hl 3 rfl) ?_
  refine lv_iconst (v := 1) hx hb dL_law_599 (by decide) ?_
  refine lv_iadd hx hb dL_law_600 ?_
  refine va_sld hx hb hX hbl hbA hS (hin 1 (by decide)) dL_law_601 ?_
  refine lv_aload_n hx hb dL_law_602 rfl (lv_at hl 0 rfl) ?_
  refine lv_iload_n hx hb dL_law_603 rfl (lv_at hl 3 rfl) ?_
  refine lv_iconst (v := 2) hx hb dL_law_604 (by decide) ?_
  refine lv_iadd hx hb dL_law_605 ?_
  refine va_sld hx hb hX hbl hbA hS (hin 2 (by decide)) dL_law_606 ?_
  refine y_calli (rest := [.int r2]) (A1 := fun q1 => zAM q e9 q1 ∨ H1.size ≤ q1) C hWM2 hS (fun q1 h9 => Or.inr h9) (fun q1 h9 => h9.elim (fun g => by have := g.1; omega) (fun g => Nat.le_trans hS.1 g)) (cX11_holds_met f2) kb_X11_holds kv_X11_holds kl_L_60 hTq kX11 rfl rfl ⟨Nat.le_of_ble_eq_true rfl, Nat.le_of_ble_eq_true rfl⟩ rfl rfl (Nat.le_of_ble_eq_true rfl) hl.1 dL_law_607 ⟨by show _ ≤ 600000; omega, by show _ ≤ 7302250; omega⟩ (fun H2 locs2 hWM3 hS2 hz2 hk2 => ?_)
  have hsz : H2.size = H1.size := by
    rw [hWM3.1, f3]
    rfl
  have hWF2 : zW (zAF s0 q e9) cy D x2 H2 := by
    have h7 := zW_keep (H1 := H2) hWF1 (fun q1 g1 g2 => hk2 q1 g1 (fun g3 => g3.elim (fun g4 => g2.2 g4) (fun g4 => by omega)))
    have h8 : zz H2.size x2 = x2 := by
      rw [hsz, hWF1.1]
      rfl
    rw [h8] at h7
    exact h7
  have hWM4 : zW (zAM q e9) cy D y2 H2 := zW_mono hWM3 (fun q1 g1 g2 => g1.elim (fun g4 => g4) (fun g4 => by omega))
  have hTo2 : zT x2 o = 10 := (hT n x2 y2 f4).1
  have hTq2 : zT y2 q = 11 := (hT n x2 y2 f4).2
  refine lv_icmp_eq (tgt := 1017) hx hb dL_law_610 (by decide) (fun _ => ?_) (fun c1 => absurd rfl c1)
  refine W.widen (k := 69 + 701 * (n + 1)) (n := 147138 + 7010 * (n + 1)) (by omega) (by omega) ?_
  exact kk H2 locs2 x2 y2 ⟨hWF2, hWM4, f4, hTo2, hTq2, by omega, hq0⟩ hS2

set_option maxHeartbeats 4000000 in
set_option maxRecDepth 100000 in
theorem yc_10 {J : zJ} {s0 o q e9 n : Nat} {x y : Hz} {i3 : Int32} (hs0 : s0 = s.heap.size) (hJ : zAll J o q) (hz : ∀ n x y k, J n x y → J n x (zz k y)) (hT : ∀ n x y, J (n + 1) x y → zT x o = 10 ∧ zT y q = 11) (C : zLx D cy p s m meth c b L xs) (hn : n < 512) (hin : ∀ k : Int32, k ∈ ([0, 1, 2, 3, 4, 5] : List Int32) → vp_in (i3 + k) L) (h2 : zTwo J D cy s0 o q e9 n x y H) (hS : va_S (fun q => s.heap.size ≤ q) s.heap H locs) (hl : lv_has ls 4 [(0, .ref b), (1, .ref o), (2, .ref q), (3, .int i3)]) (hc : cells ≤ 69 + 701 * n) (hs : slots ≤ 147138 + 7010 * n)
    (kk : ∀ (H1 : Heap) (locs1 : List Loc) (x1 y1 : Hz), zTwo J D cy s0 o q e9 (n + 1) x1 y1 H1 → va_S (fun q => s.heap.size ≤ q) s.heap H1 locs1 → W p l e room_1 s m #[Value.ref b] below meth c H1 locs1 (69 + 701 * (n + 1)) (147138 + 7010 * (n + 1)) Q (F0 m 1017 ls [])) : W p l e room_1 s m #[Value.ref b] below meth c H locs cells slots Q (F0 m 615 ls []) := by
  obtain ⟨⟨hx, hb, hr, hml, hown, hts0, hX, hbl, hlocks, hgv⟩, hts, hK, hN⟩ := id C
  have hbA : ¬ (fun q : Nat => s.heap.size ≤ q) b := Nat.not_le.mpr hbl
  obtain ⟨hWF, hWM, hJn, hTo, hTq, he, hq0⟩ := h2
  obtain ⟨r, x', y', e1, -, -, -⟩ := hJ.2.2.2.2.2.2.2.2.2.2.1 n x y (xs (i3 + 1).toNatClampNeg) (xs (i3 + 2).toNatClampNeg) hn hJn
  refine lv_aload_n hx hb dL_law_615 rfl (lv_at hl 1 rfl) ?_
  refine lv_aload_n hx hb dL_law_616 rfl (lv_at hl 0 rfl) ?_
  refine lv_iload_n hx hb dL_law_617 rfl (lv_at hl 3 rfl) ?_
  refine lv_iconst (v := 1) hx hb dL_law_618 (by decide) ?_
  refine lv_iadd hx hb dL_law_619 ?_
  refine va_sld hx hb hX hbl hbA hS (hin 1 (by decide)) dL_law_620 ?_
  refine lv_aload_n hx hb dL_law_621 rfl (lv_at hl 0 rfl) ?_
  refine lv_iload_n hx hb dL_law_622 rfl (lv_at hl 3 rfl) ?_
  refine lv_iconst (v := 2) hx hb dL_law_623 (by decide) ?_
  refine lv_iadd hx hb dL_law_624 ?_
  refine va_sld hx hb hX hbl hbA hS (hin 2 (by decide)) dL_law_625 ?_
  refine y_calli (rest := []) (A1 := zAF s0 q e9) C hWF hS (fun q1 h9 => ⟨by have := hS.1; omega, fun h8 => by omega⟩) (fun q1 h9 => by rw [← hs0]; exact h9.1) (cX10_thing_met e1) kb_X10_thing kv_X10_thing kl_L_61 hTo kX10 rfl rfl ⟨Nat.le_of_ble_eq_true rfl, Nat.le_of_ble_eq_true rfl⟩ rfl rfl (by decide) hl.1 dL_law_626 ⟨by show _ ≤ 600000; omega, by show _ ≤ 7302250; omega⟩ (fun H1 locs1 hWF1 hS1 hz1 hk1 => ?_)
  have hS := hS1
  have hWM1 : zW (zAM q e9) cy D (zz H1.size y) H1 := zW_keep hWM (fun q1 g1 g2 => hk1 q1 g1 (fun g3 => g3.2 g2))
  have hJ1 := hz n x y H1.size hJn
  obtain ⟨r2, x2, y2, f1, f2, f3, f4⟩ := hJ.2.2.2.2.2.2.2.2.2.2.1 n x (zz H1.size y) (xs (i3 + 1).toNatClampNeg) (xs (i3 + 2).toNatClampNeg) hn hJ1
  have ee := f1.symm.trans e1
  simp only [Option.some.injEq, Prod.mk.injEq] at ee
  obtain ⟨rfl, rfl⟩ := ee
  have hWM2 : zW (fun q1 => zAM q e9 q1 ∨ H1.size ≤ q1) cy D (zz H1.size y) H1 := zW_mono hWM1 (fun q1 g1 _ => Or.inl g1)
  refine lv_aload_n hx hb dL_law_629 rfl (lv_at hl 2 rfl) ?_
  refine lv_aload_n hx hb dL_law_630 rfl (lv_at hl 0 rfl) ?_
  refine lv_iload_n hx hb dL_law_631 rfl (lv_at hl 3 rfl) ?_
  refine lv_iconst (v := 1) hx hb dL_law_632 (by decide) ?_
  refine lv_iadd hx hb dL_law_633 ?_
  refine va_sld hx hb hX hbl hbA hS (hin 1 (by decide)) dL_law_634 ?_
  refine lv_aload_n hx hb dL_law_635 rfl (lv_at hl 0 rfl) ?_
  refine lv_iload_n hx hb dL_law_636 rfl (lv_at hl 3 rfl) ?_
  refine lv_iconst (v := 2) hx hb dL_law_637 (by decide) ?_
  refine lv_iadd hx hb dL_law_638 ?_
  refine va_sld hx hb hX hbl hbA hS (hin 2 (by decide)) dL_law_639 ?_
  refine y_calli (rest := [.int r2]) (A1 := fun q1 => zAM q e9 q1 ∨ H1.size ≤ q1) C hWM2 hS (fun q1 h9 => Or.inr h9) (fun q1 h9 => h9.elim (fun g => by have := g.1; omega) (fun g => Nat.le_trans hS.1 g)) (cX11_thing_met f2) kb_X11_thing kv_X11_thing kl_L_64 hTq kX11 rfl rfl ⟨Nat.le_of_ble_eq_true rfl, Nat.le_of_ble_eq_true rfl⟩ rfl rfl (Nat.le_of_ble_eq_true rfl) hl.1 dL_law_640 ⟨by show _ ≤ 600000; omega, by show _ ≤ 7302250; omega⟩ (fun H2 locs2 hWM3 hS2 hz2 hk2 => ?_)
  have hsz : H2.size = H1.size := by
    rw [hWM3.1, f3]
    rfl
  have hWF2 : zW (zAF s0 q e9) cy D x2 H2 := by
    have h7 := zW_keep (H1 := H2) hWF1 (fun q1 g1 g2 => hk2 q1 g1 (fun g3 => g3.elim (fun g4 => g2.2 g4) (fun g4 => by omega)))
    have h8 : zz H2.size x2 = x2 := by
      rw [hsz, hWF1.1]
      rfl
    rw [h8] at h7
    exact h7
  have hWM4 : zW (zAM q e9) cy D y2 H2 := zW_mono hWM3 (fun q1 g1 g2 => g1.elim (fun g4 => g4) (fun g4 => by omega))
  have hTo2 : zT x2 o = 10 := (hT n x2 y2 f4).1
  have hTq2 : zT y2 q = 11 := (hT n x2 y2 f4).2
  refine lv_icmp_eq (tgt := 1017) hx hb dL_law_643 (by decide) (fun _ => ?_) (fun c1 => absurd rfl c1)
  refine W.widen (k := 69 + 701 * (n + 1)) (n := 147138 + 7010 * (n + 1)) (by omega) (by omega) ?_
  exact kk H2 locs2 x2 y2 ⟨hWF2, hWM4, f4, hTo2, hTq2, by omega, hq0⟩ hS2

set_option maxHeartbeats 4000000 in
set_option maxRecDepth 100000 in
theorem yc_11 {J : zJ} {s0 o q e9 n : Nat} {x y : Hz} {i3 : Int32} (hs0 : s0 = s.heap.size) (hJ : zAll J o q) (hz : ∀ n x y k, J n x y → J n x (zz k y)) (hT : ∀ n x y, J (n + 1) x y → zT x o = 10 ∧ zT y q = 11) (C : zLx D cy p s m meth c b L xs) (hn : n < 512) (hin : ∀ k : Int32, k ∈ ([0, 1, 2, 3, 4, 5] : List Int32) → vp_in (i3 + k) L) (h2 : zTwo J D cy s0 o q e9 n x y H) (hS : va_S (fun q => s.heap.size ≤ q) s.heap H locs) (hl : lv_has ls 4 [(0, .ref b), (1, .ref o), (2, .ref q), (3, .int i3)]) (hc : cells ≤ 69 + 701 * n) (hs : slots ≤ 147138 + 7010 * n)
    (kk : ∀ (H1 : Heap) (locs1 : List Loc) (x1 y1 : Hz), zTwo J D cy s0 o q e9 (n + 1) x1 y1 H1 → va_S (fun q => s.heap.size ≤ q) s.heap H1 locs1 → W p l e room_1 s m #[Value.ref b] below meth c H1 locs1 (69 + 701 * (n + 1)) (147138 + 7010 * (n + 1)) Q (F0 m 1017 ls [])) : W p l e room_1 s m #[Value.ref b] below meth c H locs cells slots Q (F0 m 648 ls []) := by
  obtain ⟨⟨hx, hb, hr, hml, hown, hts0, hX, hbl, hlocks, hgv⟩, hts, hK, hN⟩ := id C
  have hbA : ¬ (fun q : Nat => s.heap.size ≤ q) b := Nat.not_le.mpr hbl
  obtain ⟨hWF, hWM, hJn, hTo, hTq, he, hq0⟩ := h2
  obtain ⟨r, x', y', e1, -, -, -⟩ := hJ.2.2.2.2.2.2.2.2.2.2.2.1 n x y (xs (i3 + 1).toNatClampNeg) (xs (i3 + 2).toNatClampNeg) hn hJn
  refine lv_aload_n hx hb dL_law_648 rfl (lv_at hl 1 rfl) ?_
  refine lv_aload_n hx hb dL_law_649 rfl (lv_at hl 0 rfl) ?_
  refine lv_iload_n hx hb dL_law_650 rfl (lv_at hl 3 rfl) ?_
  refine lv_iconst (v := 1) hx hb dL_law_651 (by decide) ?_
  refine lv_iadd hx hb dL_law_652 ?_
  refine va_sld hx hb hX hbl hbA hS (hin 1 (by decide)) dL_law_653 ?_
  refine lv_aload_n hx hb dL_law_654 rfl (lv_at hl 0 rfl) ?_
  refine lv_iload_n hx hb dL_law_655 rfl (lv_at hl 3 rfl) ?_
  refine lv_iconst (v := 2) hx hb dL_law_656 (by decide) ?_
  refine lv_iadd hx hb dL_law_657 ?_
  refine va_sld hx hb hX hbl hbA hS (hin 2 (by decide)) dL_law_658 ?_
  refine y_calli (rest := []) (A1 := zAF s0 q e9) C hWF hS (fun q1 h9 => ⟨by have := hS.1; omega, fun h8 => by omega⟩) (fun q1 h9 => by rw [← hs0]; exact h9.1) (cX10_gate_met e1) kb_X10_gate kv_X10_gate kl_L_65 hTo kX10 rfl rfl ⟨Nat.le_of_ble_eq_true rfl, Nat.le_of_ble_eq_true rfl⟩ rfl rfl (by decide) hl.1 dL_law_659 ⟨by show _ ≤ 600000; omega, by show _ ≤ 7302250; omega⟩ (fun H1 locs1 hWF1 hS1 hz1 hk1 => ?_)
  have hS := hS1
  have hWM1 : zW (zAM q e9) cy D (zz H1.size y) H1 := zW_keep hWM (fun q1 g1 g2 => hk1 q1 g1 (fun g3 => g3.2 g2))
  have hJ1 := hz n x y H1.size hJn
  obtain ⟨r2, x2, y2, f1, f2, f3, f4⟩ := hJ.2.2.2.2.2.2.2.2.2.2.2.1 n x (zz H1.size y) (xs (i3 + 1).toNatClampNeg) (xs (i3 + 2).toNatClampNeg) hn hJ1
  have ee := f1.symm.trans e1
  simp only [Option.some.injEq, Prod.mk.injEq] at ee
  obtain ⟨rfl, rfl⟩ := ee
  have hWM2 : zW (fun q1 => zAM q e9 q1 ∨ H1.size ≤ q1) cy D (zz H1.size y) H1 := zW_mono hWM1 (fun q1 g1 _ => Or.inl g1)
  refine lv_aload_n hx hb dL_law_662 rfl (lv_at hl 2 rfl) ?_
  refine lv_aload_n hx hb dL_law_663 rfl (lv_at hl 0 rfl) ?_
  refine lv_iload_n hx hb dL_law_664 rfl (lv_at hl 3 rfl) ?_
  refine lv_iconst (v := 1) hx hb dL_law_665 (by decide) ?_
  refine lv_iadd hx hb dL_law_666 ?_
  refine va_sld hx hb hX hbl hbA hS (hin 1 (by decide)) dL_law_667 ?_
  refine lv_aload_n hx hb dL_law_668 rfl (lv_at hl 0 rfl) ?_
  refine lv_iload_n hx hb dL_law_669 rfl (lv_at hl 3 rfl) ?_
  refine lv_iconst (v := 2) hx hb dL_law_670 (by decide) ?_
  refine lv_iadd hx hb dL_law_671 ?_
  refine va_sld hx hb hX hbl hbA hS (hin 2 (by decide)) dL_law_672 ?_
  refine y_calli (rest := [.int r2]) (A1 := fun q1 => zAM q e9 q1 ∨ H1.size ≤ q1) C hWM2 hS (fun q1 h9 => Or.inr h9) (fun q1 h9 => h9.elim (fun g => by have := g.1; omega) (fun g => Nat.le_trans hS.1 g)) (cX11_gate_met f2) kb_X11_gate kv_X11_gate kl_L_68 hTq kX11 rfl rfl ⟨Nat.le_of_ble_eq_true rfl, Nat.le_of_ble_eq_true rfl⟩ rfl rfl (Nat.le_of_ble_eq_true rfl) hl.1 dL_law_673 ⟨by show _ ≤ 600000; omega, by show _ ≤ 7302250; omega⟩ (fun H2 locs2 hWM3 hS2 hz2 hk2 => ?_)
  have hsz : H2.size = H1.size := by
    rw [hWM3.1, f3]
    rfl
  have hWF2 : zW (zAF s0 q e9) cy D x2 H2 := by
    have h7 := zW_keep (H1 := H2) hWF1 (fun q1 g1 g2 => hk2 q1 g1 (fun g3 => g3.elim (fun g4 => g2.2 g4) (fun g4 => by omega)))
    have h8 : zz H2.size x2 = x2 := by
      rw [hsz, hWF1.1]
      rfl
    rw [h8] at h7
    exact h7
  have hWM4 : zW (zAM q e9) cy D y2 H2 := zW_mono hWM3 (fun q1 g1 g2 => g1.elim (fun g4 => g4) (fun g4 => by omega))
  have hTo2 : zT x2 o = 10 := (hT n x2 y2 f4).1
  have hTq2 : zT y2 q = 11 := (hT n x2 y2 f4).2
  refine lv_icmp_eq (tgt := 1017) hx hb dL_law_676 (by decide) (fun _ => ?_) (fun c1 => absurd rfl c1)
  refine W.widen (k := 69 + 701 * (n + 1)) (n := 147138 + 7010 * (n + 1)) (by omega) (by omega) ?_
  exact kk H2 locs2 x2 y2 ⟨hWF2, hWM4, f4, hTo2, hTq2, by omega, hq0⟩ hS2

set_option maxHeartbeats 4000000 in
set_option maxRecDepth 100000 in
theorem yc_12 {J : zJ} {s0 o q e9 n : Nat} {x y : Hz} {i3 : Int32} (hs0 : s0 = s.heap.size) (hJ : zAll J o q) (hz : ∀ n x y k, J n x y → J n x (zz k y)) (hT : ∀ n x y, J (n + 1) x y → zT x o = 10 ∧ zT y q = 11) (C : zLx D cy p s m meth c b L xs) (hn : n < 512) (hin : ∀ k : Int32, k ∈ ([0, 1, 2, 3, 4, 5] : List Int32) → vp_in (i3 + k) L) (h2 : zTwo J D cy s0 o q e9 n x y H) (hS : va_S (fun q => s.heap.size ≤ q) s.heap H locs) (hl : lv_has ls 4 [(0, .ref b), (1, .ref o), (2, .ref q), (3, .int i3)]) (hc : cells ≤ 69 + 701 * n) (hs : slots ≤ 147138 + 7010 * n)
    (kk : ∀ (H1 : Heap) (locs1 : List Loc) (x1 y1 : Hz), zTwo J D cy s0 o q e9 (n + 1) x1 y1 H1 → va_S (fun q => s.heap.size ≤ q) s.heap H1 locs1 → W p l e room_1 s m #[Value.ref b] below meth c H1 locs1 (69 + 701 * (n + 1)) (147138 + 7010 * (n + 1)) Q (F0 m 1017 ls [])) : W p l e room_1 s m #[Value.ref b] below meth c H locs cells slots Q (F0 m 681 ls []) := by
  obtain ⟨⟨hx, hb, hr, hml, hown, hts0, hX, hbl, hlocks, hgv⟩, hts, hK, hN⟩ := id C
  have hbA : ¬ (fun q : Nat => s.heap.size ≤ q) b := Nat.not_le.mpr hbl
  obtain ⟨hWF, hWM, hJn, hTo, hTq, he, hq0⟩ := h2
  obtain ⟨r, x', y', e1, -, -, -⟩ := hJ.2.2.2.2.2.2.2.2.2.2.2.2.1 n x y (xs (i3 + 1).toNatClampNeg) (xs (i3 + 2).toNatClampNeg) (xs (i3 + 3).toNatClampNeg) hn hJn
  refine lv_aload_n hx hb dL_law_681 rfl (lv_at hl 1 rfl) ?_
  refine lv_aload_n hx hb dL_law_682 rfl (lv_at hl 0 rfl) ?_
  refine lv_iload_n hx hb dL_law_683 rfl (lv_at hl 3 rfl) ?_
  refine lv_iconst (v := 1) hx hb dL_law_684 (by decide) ?_
  refine lv_iadd hx hb dL_law_685 ?_
  refine va_sld hx hb hX hbl hbA hS (hin 1 (by decide)) dL_law_686 ?_
  refine lv_aload_n hx hb dL_law_687 rfl (lv_at hl 0 rfl) ?_
  refine lv_iload_n hx hb dL_law_688 rfl (lv_at hl 3 rfl) ?_
  refine lv_iconst (v := 2) hx hb dL_law_689 (by decide) ?_
  refine lv_iadd hx hb dL_law_690 ?_
  refine va_sld hx hb hX hbl hbA hS (hin 2 (by decide)) dL_law_691 ?_
  refine lv_aload_n hx hb dL_law_692 rfl (lv_at hl 0 rfl) ?_
  refine lv_iload_n hx hb dL_law_693 rfl (lv_at hl 3 rfl) ?_
  refine lv_iconst (v := 3) hx hb dL_law_694 (by decide) ?_
  refine lv_iadd hx hb dL_law_695 ?_
  refine va_sld hx hb hX hbl hbA hS (hin 3 (by decide)) dL_law_696 ?_
  refine y_calli (rest := []) (A1 := zAF s0 q e9) C hWF hS (fun q1 h9 => ⟨by have := hS.1; omega, fun h8 => by omega⟩) (fun q1 h9 => by rw [← hs0]; exact h9.1) (cX10_send_met e1) kb_X10_send kv_X10_send kl_L_69 hTo kX10 rfl rfl ⟨Nat.le_of_ble_eq_true rfl, Nat.le_of_ble_eq_true rfl⟩ rfl rfl (by decide) hl.1 dL_law_697 ⟨by show _ ≤ 600000; omega, by show _ ≤ 7302250; omega⟩ (fun H1 locs1 hWF1 hS1 hz1 hk1 => ?_)
  have hS := hS1
  have hWM1 : zW (zAM q e9) cy D (zz H1.size y) H1 := zW_keep hWM (fun q1 g1 g2 => hk1 q1 g1 (fun g3 => g3.2 g2))
  have hJ1 := hz n x y H1.size hJn
  obtain ⟨r2, x2, y2, f1, f2, f3, f4⟩ := hJ.2.2.2.2.2.2.2.2.2.2.2.2.1 n x (zz H1.size y) (xs (i3 + 1).toNatClampNeg) (xs (i3 + 2).toNatClampNeg) (xs (i3 + 3).toNatClampNeg) hn hJ1
  have ee := f1.symm.trans e1
  simp only [Option.some.injEq, Prod.mk.injEq] at ee
  obtain ⟨rfl, rfl⟩ := ee
  have hWM2 : zW (fun q1 => zAM q e9 q1 ∨ H1.size ≤ q1) cy D (zz H1.size y) H1 := zW_mono hWM1 (fun q1 g1 _ => Or.inl g1)
  refine lv_aload_n hx hb dL_law_700 rfl (lv_at hl 2 rfl) ?_
  refine lv_aload_n hx hb dL_law_701 rfl (lv_at hl 0 rfl) ?_
  refine lv_iload_n hx hb dL_law_702 rfl (lv_at hl 3 rfl) ?_
  refine lv_iconst (v := 1) hx hb dL_law_703 (by decide) ?_
  refine lv_iadd hx hb dL_law_704 ?_
  refine va_sld hx hb hX hbl hbA hS (hin 1 (by decide)) dL_law_705 ?_
  refine lv_aload_n hx hb dL_law_706 rfl (lv_at hl 0 rfl) ?_
  refine lv_iload_n hx hb dL_law_707 rfl (lv_at hl 3 rfl) ?_
  refine lv_iconst (v := 2) hx hb dL_law_708 (by decide) ?_
  refine lv_iadd hx hb dL_law_709 ?_
  refine va_sld hx hb hX hbl hbA hS (hin 2 (by decide)) dL_law_710 ?_
  refine lv_aload_n hx hb dL_law_711 rfl (lv_at hl 0 rfl) ?_
  refine lv_iload_n hx hb dL_law_712 rfl (lv_at hl 3 rfl) ?_
  refine lv_iconst (v := 3) hx hb dL_law_713 (by decide) ?_
  refine lv_iadd hx hb dL_law_714 ?_
  refine va_sld hx hb hX hbl hbA hS (hin 3 (by decide)) dL_law_715 ?_
  refine y_calli (rest := [.int r2]) (A1 := fun q1 => zAM q e9 q1 ∨ H1.size ≤ q1) C hWM2 hS (fun q1 h9 => Or.inr h9) (fun q1 h9 => h9.elim (fun g => by have := g.1; omega) (fun g => Nat.le_trans hS.1 g)) (cX11_send_met f2) kb_X11_send kv_X11_send kl_L_72 hTq kX11 rfl rfl ⟨Nat.le_of_ble_eq_true rfl, Nat.le_of_ble_eq_true rfl⟩ rfl rfl (Nat.le_of_ble_eq_true rfl) hl.1 dL_law_716 ⟨by show _ ≤ 600000; omega, by show _ ≤ 7302250; omega⟩ (fun H2 locs2 hWM3 hS2 hz2 hk2 => ?_)
  have hsz : H2.size = H1.size := by
    rw [hWM3.1, f3]
    rfl
  have hWF2 : zW (zAF s0 q e9) cy D x2 H2 := by
    have h7 := zW_keep (H1 := H2) hWF1 (fun q1 g1 g2 => hk2 q1 g1 (fun g3 => g3.elim (fun g4 => g2.2 g4) (fun g4 => by omega)))
    have h8 : zz H2.size x2 = x2 := by
      rw [hsz, hWF1.1]
      rfl
    rw [h8] at h7
    exact h7
  have hWM4 : zW (zAM q e9) cy D y2 H2 := zW_mono hWM3 (fun q1 g1 g2 => g1.elim (fun g4 => g4) (fun g4 => by omega))
  have hTo2 : zT x2 o = 10 := (hT n x2 y2 f4).1
  have hTq2 : zT y2 q = 11 := (hT n x2 y2 f4).2
  refine lv_icmp_eq (tgt := 1017) hx hb dL_law_719 (by decide) (fun _ => ?_) (fun c1 => absurd rfl c1)
  refine W.widen (k := 69 + 701 * (n + 1)) (n := 147138 + 7010 * (n + 1)) (by omega) (by omega) ?_
  exact kk H2 locs2 x2 y2 ⟨hWF2, hWM4, f4, hTo2, hTq2, by omega, hq0⟩ hS2

set_option maxHeartbeats 4000000 in
set_option maxRecDepth 100000 in
theorem yc_13 {J : zJ} {s0 o q e9 n : Nat} {x y : Hz} {i3 : Int32} (hs0 : s0 = s.heap.size) (hJ : zAll J o q) (hz : ∀ n x y k, J n x y → J n x (zz k y)) (hT : ∀ n x y, J (n + 1) x y → zT x o = 10 ∧ zT y q = 11) (C : zLx D cy p s m meth c b L xs) (hn : n < 512) (hin : ∀ k : Int32, k ∈ ([0, 1, 2, 3, 4, 5] : List Int32) → vp_in (i3 + k) L) (h2 : zTwo J D cy s0 o q e9 n x y H) (hS : va_S (fun q => s.heap.size ≤ q) s.heap H locs) (hl : lv_has ls 4 [(0, .ref b), (1, .ref o), (2, .ref q), (3, .int i3)]) (hc : cells ≤ 69 + 701 * n) (hs : slots ≤ 147138 + 7010 * n)
    (kk : ∀ (H1 : Heap) (locs1 : List Loc) (x1 y1 : Hz), zTwo J D cy s0 o q e9 (n + 1) x1 y1 H1 → va_S (fun q => s.heap.size ≤ q) s.heap H1 locs1 → W p l e room_1 s m #[Value.ref b] below meth c H1 locs1 (69 + 701 * (n + 1)) (147138 + 7010 * (n + 1)) Q (F0 m 1017 ls [])) : W p l e room_1 s m #[Value.ref b] below meth c H locs cells slots Q (F0 m 724 ls []) := by
  obtain ⟨⟨hx, hb, hr, hml, hown, hts0, hX, hbl, hlocks, hgv⟩, hts, hK, hN⟩ := id C
  have hbA : ¬ (fun q : Nat => s.heap.size ≤ q) b := Nat.not_le.mpr hbl
  obtain ⟨hWF, hWM, hJn, hTo, hTq, he, hq0⟩ := h2
  obtain ⟨r, x', y', e1, -, -, -⟩ := hJ.2.2.2.2.2.2.2.2.2.2.2.2.2.1 n x y (xs (i3 + 1).toNatClampNeg) hn hJn
  refine lv_aload_n hx hb dL_law_724 rfl (lv_at hl 1 rfl) ?_
  refine lv_aload_n hx hb dL_law_725 rfl (lv_at hl 0 rfl) ?_
  refine lv_iload_n hx hb dL_law_726 rfl (lv_at hl 3 rfl) ?_
  refine lv_iconst (v := 1) hx hb dL_law_727 (by decide) ?_
  refine lv_iadd hx hb dL_law_728 ?_
  refine va_sld hx hb hX hbl hbA hS (hin 1 (by decide)) dL_law_729 ?_
  refine y_calli (rest := []) (A1 := zAF s0 q e9) C hWF hS (fun q1 h9 => ⟨by have := hS.1; omega, fun h8 => by omega⟩) (fun q1 h9 => by rw [← hs0]; exact h9.1) (cX10_deliver_met e1) kb_X10_deliver kv_X10_deliver kl_L_73 hTo kX10 rfl rfl ⟨Nat.le_of_ble_eq_true rfl, Nat.le_of_ble_eq_true rfl⟩ rfl rfl (by decide) hl.1 dL_law_730 ⟨by show _ ≤ 600000; omega, by show _ ≤ 7302250; omega⟩ (fun H1 locs1 hWF1 hS1 hz1 hk1 => ?_)
  have hS := hS1
  have hWM1 : zW (zAM q e9) cy D (zz H1.size y) H1 := zW_keep hWM (fun q1 g1 g2 => hk1 q1 g1 (fun g3 => g3.2 g2))
  have hJ1 := hz n x y H1.size hJn
  obtain ⟨r2, x2, y2, f1, f2, f3, f4⟩ := hJ.2.2.2.2.2.2.2.2.2.2.2.2.2.1 n x (zz H1.size y) (xs (i3 + 1).toNatClampNeg) hn hJ1
  have ee := f1.symm.trans e1
  simp only [Option.some.injEq, Prod.mk.injEq] at ee
  obtain ⟨rfl, rfl⟩ := ee
  have hWM2 : zW (fun q1 => zAM q e9 q1 ∨ H1.size ≤ q1) cy D (zz H1.size y) H1 := zW_mono hWM1 (fun q1 g1 _ => Or.inl g1)
  refine lv_aload_n hx hb dL_law_733 rfl (lv_at hl 2 rfl) ?_
  refine lv_aload_n hx hb dL_law_734 rfl (lv_at hl 0 rfl) ?_
  refine lv_iload_n hx hb dL_law_735 rfl (lv_at hl 3 rfl) ?_
  refine lv_iconst (v := 1) hx hb dL_law_736 (by decide) ?_
  refine lv_iadd hx hb dL_law_737 ?_
  refine va_sld hx hb hX hbl hbA hS (hin 1 (by decide)) dL_law_738 ?_
  refine y_calli (rest := [.int r2]) (A1 := fun q1 => zAM q e9 q1 ∨ H1.size ≤ q1) C hWM2 hS (fun q1 h9 => Or.inr h9) (fun q1 h9 => h9.elim (fun g => by have := g.1; omega) (fun g => Nat.le_trans hS.1 g)) (cX11_deliver_met f2) kb_X11_deliver kv_X11_deliver kl_L_77 hTq kX11 rfl rfl ⟨Nat.le_of_ble_eq_true rfl, Nat.le_of_ble_eq_true rfl⟩ rfl rfl (Nat.le_of_ble_eq_true rfl) hl.1 dL_law_739 ⟨by show _ ≤ 600000; omega, by show _ ≤ 7302250; omega⟩ (fun H2 locs2 hWM3 hS2 hz2 hk2 => ?_)
  have hsz : H2.size = H1.size := by
    rw [hWM3.1, f3]
    rfl
  have hWF2 : zW (zAF s0 q e9) cy D x2 H2 := by
    have h7 := zW_keep (H1 := H2) hWF1 (fun q1 g1 g2 => hk2 q1 g1 (fun g3 => g3.elim (fun g4 => g2.2 g4) (fun g4 => by omega)))
    have h8 : zz H2.size x2 = x2 := by
      rw [hsz, hWF1.1]
      rfl
    rw [h8] at h7
    exact h7
  have hWM4 : zW (zAM q e9) cy D y2 H2 := zW_mono hWM3 (fun q1 g1 g2 => g1.elim (fun g4 => g4) (fun g4 => by omega))
  have hTo2 : zT x2 o = 10 := (hT n x2 y2 f4).1
  have hTq2 : zT y2 q = 11 := (hT n x2 y2 f4).2
  refine lv_icmp_eq (tgt := 1017) hx hb dL_law_742 (by decide) (fun _ => ?_) (fun c1 => absurd rfl c1)
  refine W.widen (k := 69 + 701 * (n + 1)) (n := 147138 + 7010 * (n + 1)) (by omega) (by omega) ?_
  exact kk H2 locs2 x2 y2 ⟨hWF2, hWM4, f4, hTo2, hTq2, by omega, hq0⟩ hS2

set_option maxHeartbeats 4000000 in
set_option maxRecDepth 100000 in
theorem yc_14 {J : zJ} {s0 o q e9 n : Nat} {x y : Hz} {i3 : Int32} (hs0 : s0 = s.heap.size) (hJ : zAll J o q) (hz : ∀ n x y k, J n x y → J n x (zz k y)) (hT : ∀ n x y, J (n + 1) x y → zT x o = 10 ∧ zT y q = 11) (C : zLx D cy p s m meth c b L xs) (hn : n < 512) (hin : ∀ k : Int32, k ∈ ([0, 1, 2, 3, 4, 5] : List Int32) → vp_in (i3 + k) L) (h2 : zTwo J D cy s0 o q e9 n x y H) (hS : va_S (fun q => s.heap.size ≤ q) s.heap H locs) (hl : lv_has ls 4 [(0, .ref b), (1, .ref o), (2, .ref q), (3, .int i3)]) (hc : cells ≤ 69 + 701 * n) (hs : slots ≤ 147138 + 7010 * n)
    (kk : ∀ (H1 : Heap) (locs1 : List Loc) (x1 y1 : Hz), zTwo J D cy s0 o q e9 (n + 1) x1 y1 H1 → va_S (fun q => s.heap.size ≤ q) s.heap H1 locs1 → W p l e room_1 s m #[Value.ref b] below meth c H1 locs1 (69 + 701 * (n + 1)) (147138 + 7010 * (n + 1)) Q (F0 m 1017 ls [])) : W p l e room_1 s m #[Value.ref b] below meth c H locs cells slots Q (F0 m 747 ls []) := by
  obtain ⟨⟨hx, hb, hr, hml, hown, hts0, hX, hbl, hlocks, hgv⟩, hts, hK, hN⟩ := id C
  have hbA : ¬ (fun q : Nat => s.heap.size ≤ q) b := Nat.not_le.mpr hbl
  obtain ⟨hWF, hWM, hJn, hTo, hTq, he, hq0⟩ := h2
  obtain ⟨r, x', y', e1, -, -, -⟩ := hJ.2.2.2.2.2.2.2.2.2.2.2.2.2.2.1 n x y (xs (i3 + 1).toNatClampNeg) (xs (i3 + 2).toNatClampNeg) hn hJn
  refine lv_aload_n hx hb dL_law_747 rfl (lv_at hl 1 rfl) ?_
  refine lv_aload_n hx hb dL_law_748 rfl (lv_at hl 0 rfl) ?_
  refine lv_iload_n hx hb dL_law_749 rfl (lv_at hl 3 rfl) ?_
  refine lv_iconst (v := 1) hx hb dL_law_750 (by decide) ?_
  refine lv_iadd hx hb dL_law_751 ?_
  refine va_sld hx hb hX hbl hbA hS (hin 1 (by decide)) dL_law_752 ?_
  refine lv_aload_n hx hb dL_law_753 rfl (lv_at hl 0 rfl) ?_
  refine lv_iload_n hx hb dL_law_754 rfl (lv_at hl 3 rfl) ?_
  refine lv_iconst (v := 2) hx hb dL_law_755 (by decide) ?_
  refine lv_iadd hx hb dL_law_756 ?_
  refine va_sld hx hb hX hbl hbA hS (hin 2 (by decide)) dL_law_757 ?_
  refine y_calli (rest := []) (A1 := zAF s0 q e9) C hWF hS (fun q1 h9 => ⟨by have := hS.1; omega, fun h8 => by omega⟩) (fun q1 h9 => by rw [← hs0]; exact h9.1) (cX10_letter_met e1) kb_X10_letter kv_X10_letter kl_L_78 hTo kX10 rfl rfl ⟨Nat.le_of_ble_eq_true rfl, Nat.le_of_ble_eq_true rfl⟩ rfl rfl (by decide) hl.1 dL_law_758 ⟨by show _ ≤ 600000; omega, by show _ ≤ 7302250; omega⟩ (fun H1 locs1 hWF1 hS1 hz1 hk1 => ?_)
  have hS := hS1
  have hWM1 : zW (zAM q e9) cy D (zz H1.size y) H1 := zW_keep hWM (fun q1 g1 g2 => hk1 q1 g1 (fun g3 => g3.2 g2))
  have hJ1 := hz n x y H1.size hJn
  obtain ⟨r2, x2, y2, f1, f2, f3, f4⟩ := hJ.2.2.2.2.2.2.2.2.2.2.2.2.2.2.1 n x (zz H1.size y) (xs (i3 + 1).toNatClampNeg) (xs (i3 + 2).toNatClampNeg) hn hJ1
  have ee := f1.symm.trans e1
  simp only [Option.some.injEq, Prod.mk.injEq] at ee
  obtain ⟨rfl, rfl⟩ := ee
  have hWM2 : zW (fun q1 => zAM q e9 q1 ∨ H1.size ≤ q1) cy D (zz H1.size y) H1 := zW_mono hWM1 (fun q1 g1 _ => Or.inl g1)
  refine lv_aload_n hx hb dL_law_761 rfl (lv_at hl 2 rfl) ?_
  refine lv_aload_n hx hb dL_law_762 rfl (lv_at hl 0 rfl) ?_
  refine lv_iload_n hx hb dL_law_763 rfl (lv_at hl 3 rfl) ?_
  refine lv_iconst (v := 1) hx hb dL_law_764 (by decide) ?_
  refine lv_iadd hx hb dL_law_765 ?_
  refine va_sld hx hb hX hbl hbA hS (hin 1 (by decide)) dL_law_766 ?_
  refine lv_aload_n hx hb dL_law_767 rfl (lv_at hl 0 rfl) ?_
  refine lv_iload_n hx hb dL_law_768 rfl (lv_at hl 3 rfl) ?_
  refine lv_iconst (v := 2) hx hb dL_law_769 (by decide) ?_
  refine lv_iadd hx hb dL_law_770 ?_
  refine va_sld hx hb hX hbl hbA hS (hin 2 (by decide)) dL_law_771 ?_
  refine y_calli (rest := [.int r2]) (A1 := fun q1 => zAM q e9 q1 ∨ H1.size ≤ q1) C hWM2 hS (fun q1 h9 => Or.inr h9) (fun q1 h9 => h9.elim (fun g => by have := g.1; omega) (fun g => Nat.le_trans hS.1 g)) (cX11_letter__met f2) kb_X11_letter_ kv_X11_letter_ kl_L_81 hTq kX11 rfl rfl ⟨Nat.le_of_ble_eq_true rfl, Nat.le_of_ble_eq_true rfl⟩ rfl rfl (Nat.le_of_ble_eq_true rfl) hl.1 dL_law_772 ⟨by show _ ≤ 600000; omega, by show _ ≤ 7302250; omega⟩ (fun H2 locs2 hWM3 hS2 hz2 hk2 => ?_)
  have hsz : H2.size = H1.size := by
    rw [hWM3.1, f3]
    rfl
  have hWF2 : zW (zAF s0 q e9) cy D x2 H2 := by
    have h7 := zW_keep (H1 := H2) hWF1 (fun q1 g1 g2 => hk2 q1 g1 (fun g3 => g3.elim (fun g4 => g2.2 g4) (fun g4 => by omega)))
    have h8 : zz H2.size x2 = x2 := by
      rw [hsz, hWF1.1]
      rfl
    rw [h8] at h7
    exact h7
  have hWM4 : zW (zAM q e9) cy D y2 H2 := zW_mono hWM3 (fun q1 g1 g2 => g1.elim (fun g4 => g4) (fun g4 => by omega))
  have hTo2 : zT x2 o = 10 := (hT n x2 y2 f4).1
  have hTq2 : zT y2 q = 11 := (hT n x2 y2 f4).2
  refine lv_icmp_eq (tgt := 1017) hx hb dL_law_775 (by decide) (fun _ => ?_) (fun c1 => absurd rfl c1)
  refine W.widen (k := 69 + 701 * (n + 1)) (n := 147138 + 7010 * (n + 1)) (by omega) (by omega) ?_
  exact kk H2 locs2 x2 y2 ⟨hWF2, hWM4, f4, hTo2, hTq2, by omega, hq0⟩ hS2

set_option maxHeartbeats 4000000 in
set_option maxRecDepth 100000 in
theorem yc_15 {J : zJ} {s0 o q e9 n : Nat} {x y : Hz} {i3 : Int32} (hs0 : s0 = s.heap.size) (hJ : zAll J o q) (hz : ∀ n x y k, J n x y → J n x (zz k y)) (hT : ∀ n x y, J (n + 1) x y → zT x o = 10 ∧ zT y q = 11) (C : zLx D cy p s m meth c b L xs) (hn : n < 512) (hin : ∀ k : Int32, k ∈ ([0, 1, 2, 3, 4, 5] : List Int32) → vp_in (i3 + k) L) (h2 : zTwo J D cy s0 o q e9 n x y H) (hS : va_S (fun q => s.heap.size ≤ q) s.heap H locs) (hl : lv_has ls 4 [(0, .ref b), (1, .ref o), (2, .ref q), (3, .int i3)]) (hc : cells ≤ 69 + 701 * n) (hs : slots ≤ 147138 + 7010 * n)
    (kk : ∀ (H1 : Heap) (locs1 : List Loc) (x1 y1 : Hz), zTwo J D cy s0 o q e9 (n + 1) x1 y1 H1 → va_S (fun q => s.heap.size ≤ q) s.heap H1 locs1 → W p l e room_1 s m #[Value.ref b] below meth c H1 locs1 (69 + 701 * (n + 1)) (147138 + 7010 * (n + 1)) Q (F0 m 1017 ls [])) : W p l e room_1 s m #[Value.ref b] below meth c H locs cells slots Q (F0 m 780 ls []) := by
  obtain ⟨⟨hx, hb, hr, hml, hown, hts0, hX, hbl, hlocks, hgv⟩, hts, hK, hN⟩ := id C
  have hbA : ¬ (fun q : Nat => s.heap.size ≤ q) b := Nat.not_le.mpr hbl
  obtain ⟨hWF, hWM, hJn, hTo, hTq, he, hq0⟩ := h2
  obtain ⟨r, x', y', e1, -, -, -⟩ := hJ.2.2.2.2.2.2.2.2.2.2.2.2.2.2.2.1 n x y (xs (i3 + 1).toNatClampNeg) hn hJn
  refine lv_aload_n hx hb dL_law_780 rfl (lv_at hl 1 rfl) ?_
  refine lv_aload_n hx hb dL_law_781 rfl (lv_at hl 0 rfl) ?_
  refine lv_iload_n hx hb dL_law_782 rfl (lv_at hl 3 rfl) ?_
  refine lv_iconst (v := 1) hx hb dL_law_783 (by decide) ?_
  refine lv_iadd hx hb dL_law_784 ?_
  refine va_sld hx hb hX hbl hbA hS (hin 1 (by decide)) dL_law_785 ?_
  refine y_calli (rest := []) (A1 := zAF s0 q e9) C hWF hS (fun q1 h9 => ⟨by have := hS.1; omega, fun h8 => by omega⟩) (fun q1 h9 => by rw [← hs0]; exact h9.1) (cX10_clean_met e1) kb_X10_clean kv_X10_clean kl_L_82 hTo kX10 rfl rfl ⟨Nat.le_of_ble_eq_true rfl, Nat.le_of_ble_eq_true rfl⟩ rfl rfl (by decide) hl.1 dL_law_786 ⟨by show _ ≤ 600000; omega, by show _ ≤ 7302250; omega⟩ (fun H1 locs1 hWF1 hS1 hz1 hk1 => ?_)
  have hS := hS1
  have hWM1 : zW (zAM q e9) cy D (zz H1.size y) H1 := zW_keep hWM (fun q1 g1 g2 => hk1 q1 g1 (fun g3 => g3.2 g2))
  have hJ1 := hz n x y H1.size hJn
  obtain ⟨r2, x2, y2, f1, f2, f3, f4⟩ := hJ.2.2.2.2.2.2.2.2.2.2.2.2.2.2.2.1 n x (zz H1.size y) (xs (i3 + 1).toNatClampNeg) hn hJ1
  have ee := f1.symm.trans e1
  simp only [Option.some.injEq, Prod.mk.injEq] at ee
  obtain ⟨rfl, rfl⟩ := ee
  have hWM2 : zW (fun q1 => zAM q e9 q1 ∨ H1.size ≤ q1) cy D (zz H1.size y) H1 := zW_mono hWM1 (fun q1 g1 _ => Or.inl g1)
  refine lv_aload_n hx hb dL_law_789 rfl (lv_at hl 2 rfl) ?_
  refine lv_aload_n hx hb dL_law_790 rfl (lv_at hl 0 rfl) ?_
  refine lv_iload_n hx hb dL_law_791 rfl (lv_at hl 3 rfl) ?_
  refine lv_iconst (v := 1) hx hb dL_law_792 (by decide) ?_
  refine lv_iadd hx hb dL_law_793 ?_
  refine va_sld hx hb hX hbl hbA hS (hin 1 (by decide)) dL_law_794 ?_
  refine y_calli (rest := [.int r2]) (A1 := fun q1 => zAM q e9 q1 ∨ H1.size ≤ q1) C hWM2 hS (fun q1 h9 => Or.inr h9) (fun q1 h9 => h9.elim (fun g => by have := g.1; omega) (fun g => Nat.le_trans hS.1 g)) (cX11_clean_met f2) kb_X11_clean kv_X11_clean kl_L_85 hTq kX11 rfl rfl ⟨Nat.le_of_ble_eq_true rfl, Nat.le_of_ble_eq_true rfl⟩ rfl rfl (Nat.le_of_ble_eq_true rfl) hl.1 dL_law_795 ⟨by show _ ≤ 600000; omega, by show _ ≤ 7302250; omega⟩ (fun H2 locs2 hWM3 hS2 hz2 hk2 => ?_)
  have hsz : H2.size = H1.size := by
    rw [hWM3.1, f3]
    rfl
  have hWF2 : zW (zAF s0 q e9) cy D x2 H2 := by
    have h7 := zW_keep (H1 := H2) hWF1 (fun q1 g1 g2 => hk2 q1 g1 (fun g3 => g3.elim (fun g4 => g2.2 g4) (fun g4 => by omega)))
    have h8 : zz H2.size x2 = x2 := by
      rw [hsz, hWF1.1]
      rfl
    rw [h8] at h7
    exact h7
  have hWM4 : zW (zAM q e9) cy D y2 H2 := zW_mono hWM3 (fun q1 g1 g2 => g1.elim (fun g4 => g4) (fun g4 => by omega))
  have hTo2 : zT x2 o = 10 := (hT n x2 y2 f4).1
  have hTq2 : zT y2 q = 11 := (hT n x2 y2 f4).2
  refine lv_icmp_eq (tgt := 1017) hx hb dL_law_798 (by decide) (fun _ => ?_) (fun c1 => absurd rfl c1)
  refine W.widen (k := 69 + 701 * (n + 1)) (n := 147138 + 7010 * (n + 1)) (by omega) (by omega) ?_
  exact kk H2 locs2 x2 y2 ⟨hWF2, hWM4, f4, hTo2, hTq2, by omega, hq0⟩ hS2

set_option maxHeartbeats 4000000 in
set_option maxRecDepth 100000 in
theorem yc_16 {J : zJ} {s0 o q e9 n : Nat} {x y : Hz} {i3 : Int32} (hs0 : s0 = s.heap.size) (hJ : zAll J o q) (hz : ∀ n x y k, J n x y → J n x (zz k y)) (hT : ∀ n x y, J (n + 1) x y → zT x o = 10 ∧ zT y q = 11) (C : zLx D cy p s m meth c b L xs) (hn : n < 512) (hin : ∀ k : Int32, k ∈ ([0, 1, 2, 3, 4, 5] : List Int32) → vp_in (i3 + k) L) (h2 : zTwo J D cy s0 o q e9 n x y H) (hS : va_S (fun q => s.heap.size ≤ q) s.heap H locs) (hl : lv_has ls 4 [(0, .ref b), (1, .ref o), (2, .ref q), (3, .int i3)]) (hc : cells ≤ 69 + 701 * n) (hs : slots ≤ 147138 + 7010 * n)
    (kk : ∀ (H1 : Heap) (locs1 : List Loc) (x1 y1 : Hz), zTwo J D cy s0 o q e9 (n + 1) x1 y1 H1 → va_S (fun q => s.heap.size ≤ q) s.heap H1 locs1 → W p l e room_1 s m #[Value.ref b] below meth c H1 locs1 (69 + 701 * (n + 1)) (147138 + 7010 * (n + 1)) Q (F0 m 1017 ls [])) : W p l e room_1 s m #[Value.ref b] below meth c H locs cells slots Q (F0 m 803 ls []) := by
  obtain ⟨⟨hx, hb, hr, hml, hown, hts0, hX, hbl, hlocks, hgv⟩, hts, hK, hN⟩ := id C
  have hbA : ¬ (fun q : Nat => s.heap.size ≤ q) b := Nat.not_le.mpr hbl
  obtain ⟨hWF, hWM, hJn, hTo, hTq, he, hq0⟩ := h2
  obtain ⟨r, x', y', e1, -, -, -⟩ := hJ.2.2.2.2.2.2.2.2.2.2.2.2.2.2.2.2.1 n x y (xs (i3 + 1).toNatClampNeg) hn hJn
  refine lv_aload_n hx hb dL_law_803 rfl (lv_at hl 1 rfl) ?_
  refine lv_aload_n hx hb dL_law_804 rfl (lv_at hl 0 rfl) ?_
  refine lv_iload_n hx hb dL_law_805 rfl (lv_at hl 3 rfl) ?_
  refine lv_iconst (v := 1) hx hb dL_law_806 (by decide) ?_
  refine lv_iadd hx hb dL_law_807 ?_
  refine va_sld hx hb hX hbl hbA hS (hin 1 (by decide)) dL_law_808 ?_
  refine y_calli (rest := []) (A1 := zAF s0 q e9) C hWF hS (fun q1 h9 => ⟨by have := hS.1; omega, fun h8 => by omega⟩) (fun q1 h9 => by rw [← hs0]; exact h9.1) (cX10_freed_met e1) kb_X10_freed kv_X10_freed kl_L_86 hTo kX10 rfl rfl ⟨Nat.le_of_ble_eq_true rfl, Nat.le_of_ble_eq_true rfl⟩ rfl rfl (by decide) hl.1 dL_law_809 ⟨by show _ ≤ 600000; omega, by show _ ≤ 7302250; omega⟩ (fun H1 locs1 hWF1 hS1 hz1 hk1 => ?_)
  have hS := hS1
  have hWM1 : zW (zAM q e9) cy D (zz H1.size y) H1 := zW_keep hWM (fun q1 g1 g2 => hk1 q1 g1 (fun g3 => g3.2 g2))
  have hJ1 := hz n x y H1.size hJn
  obtain ⟨r2, x2, y2, f1, f2, f3, f4⟩ := hJ.2.2.2.2.2.2.2.2.2.2.2.2.2.2.2.2.1 n x (zz H1.size y) (xs (i3 + 1).toNatClampNeg) hn hJ1
  have ee := f1.symm.trans e1
  simp only [Option.some.injEq, Prod.mk.injEq] at ee
  obtain ⟨rfl, rfl⟩ := ee
  have hWM2 : zW (fun q1 => zAM q e9 q1 ∨ H1.size ≤ q1) cy D (zz H1.size y) H1 := zW_mono hWM1 (fun q1 g1 _ => Or.inl g1)
  refine lv_aload_n hx hb dL_law_812 rfl (lv_at hl 2 rfl) ?_
  refine lv_aload_n hx hb dL_law_813 rfl (lv_at hl 0 rfl) ?_
  refine lv_iload_n hx hb dL_law_814 rfl (lv_at hl 3 rfl) ?_
  refine lv_iconst (v := 1) hx hb dL_law_815 (by decide) ?_
  refine lv_iadd hx hb dL_law_816 ?_
  refine va_sld hx hb hX hbl hbA hS (hin 1 (by decide)) dL_law_817 ?_
  refine y_calli (rest := [.int r2]) (A1 := fun q1 => zAM q e9 q1 ∨ H1.size ≤ q1) C hWM2 hS (fun q1 h9 => Or.inr h9) (fun q1 h9 => h9.elim (fun g => by have := g.1; omega) (fun g => Nat.le_trans hS.1 g)) (cX11_freed_met f2) kb_X11_freed kv_X11_freed kl_L_89 hTq kX11 rfl rfl ⟨Nat.le_of_ble_eq_true rfl, Nat.le_of_ble_eq_true rfl⟩ rfl rfl (Nat.le_of_ble_eq_true rfl) hl.1 dL_law_818 ⟨by show _ ≤ 600000; omega, by show _ ≤ 7302250; omega⟩ (fun H2 locs2 hWM3 hS2 hz2 hk2 => ?_)
  have hsz : H2.size = H1.size := by
    rw [hWM3.1, f3]
    rfl
  have hWF2 : zW (zAF s0 q e9) cy D x2 H2 := by
    have h7 := zW_keep (H1 := H2) hWF1 (fun q1 g1 g2 => hk2 q1 g1 (fun g3 => g3.elim (fun g4 => g2.2 g4) (fun g4 => by omega)))
    have h8 : zz H2.size x2 = x2 := by
      rw [hsz, hWF1.1]
      rfl
    rw [h8] at h7
    exact h7
  have hWM4 : zW (zAM q e9) cy D y2 H2 := zW_mono hWM3 (fun q1 g1 g2 => g1.elim (fun g4 => g4) (fun g4 => by omega))
  have hTo2 : zT x2 o = 10 := (hT n x2 y2 f4).1
  have hTq2 : zT y2 q = 11 := (hT n x2 y2 f4).2
  refine lv_icmp_eq (tgt := 1017) hx hb dL_law_821 (by decide) (fun _ => ?_) (fun c1 => absurd rfl c1)
  refine W.widen (k := 69 + 701 * (n + 1)) (n := 147138 + 7010 * (n + 1)) (by omega) (by omega) ?_
  exact kk H2 locs2 x2 y2 ⟨hWF2, hWM4, f4, hTo2, hTq2, by omega, hq0⟩ hS2

set_option maxHeartbeats 4000000 in
set_option maxRecDepth 100000 in
theorem yc_17 {J : zJ} {s0 o q e9 n : Nat} {x y : Hz} {i3 : Int32} (hs0 : s0 = s.heap.size) (hJ : zAll J o q) (hz : ∀ n x y k, J n x y → J n x (zz k y)) (hT : ∀ n x y, J (n + 1) x y → zT x o = 10 ∧ zT y q = 11) (C : zLx D cy p s m meth c b L xs) (hn : n < 512) (hin : ∀ k : Int32, k ∈ ([0, 1, 2, 3, 4, 5] : List Int32) → vp_in (i3 + k) L) (h2 : zTwo J D cy s0 o q e9 n x y H) (hS : va_S (fun q => s.heap.size ≤ q) s.heap H locs) (hl : lv_has ls 4 [(0, .ref b), (1, .ref o), (2, .ref q), (3, .int i3)]) (hc : cells ≤ 69 + 701 * n) (hs : slots ≤ 147138 + 7010 * n)
    (kk : ∀ (H1 : Heap) (locs1 : List Loc) (x1 y1 : Hz), zTwo J D cy s0 o q e9 (n + 1) x1 y1 H1 → va_S (fun q => s.heap.size ≤ q) s.heap H1 locs1 → W p l e room_1 s m #[Value.ref b] below meth c H1 locs1 (69 + 701 * (n + 1)) (147138 + 7010 * (n + 1)) Q (F0 m 1017 ls [])) : W p l e room_1 s m #[Value.ref b] below meth c H locs cells slots Q (F0 m 826 ls []) := by
  obtain ⟨⟨hx, hb, hr, hml, hown, hts0, hX, hbl, hlocks, hgv⟩, hts, hK, hN⟩ := id C
  have hbA : ¬ (fun q : Nat => s.heap.size ≤ q) b := Nat.not_le.mpr hbl
  obtain ⟨hWF, hWM, hJn, hTo, hTq, he, hq0⟩ := h2
  obtain ⟨r, x', y', e1, -, -, -⟩ := hJ.2.2.2.2.2.2.2.2.2.2.2.2.2.2.2.2.2.1 n x y (xs (i3 + 1).toNatClampNeg) hn hJn
  refine lv_aload_n hx hb dL_law_826 rfl (lv_at hl 1 rfl) ?_
  refine lv_aload_n hx hb dL_law_827 rfl (lv_at hl 0 rfl) ?_
  refine lv_iload_n hx hb dL_law_828 rfl (lv_at hl 3 rfl) ?_
  refine lv_iconst (v := 1) hx hb dL_law_829 (by decide) ?_
  refine lv_iadd hx hb dL_law_830 ?_
  refine va_sld hx hb hX hbl hbA hS (hin 1 (by decide)) dL_law_831 ?_
  refine y_calli (rest := []) (A1 := zAF s0 q e9) C hWF hS (fun q1 h9 => ⟨by have := hS.1; omega, fun h8 => by omega⟩) (fun q1 h9 => by rw [← hs0]; exact h9.1) (cX10_doubt_met e1) kb_X10_doubt kv_X10_doubt kl_L_90 hTo kX10 rfl rfl ⟨Nat.le_of_ble_eq_true rfl, Nat.le_of_ble_eq_true rfl⟩ rfl rfl (by decide) hl.1 dL_law_832 ⟨by show _ ≤ 600000; omega, by show _ ≤ 7302250; omega⟩ (fun H1 locs1 hWF1 hS1 hz1 hk1 => ?_)
  have hS := hS1
  have hWM1 : zW (zAM q e9) cy D (zz H1.size y) H1 := zW_keep hWM (fun q1 g1 g2 => hk1 q1 g1 (fun g3 => g3.2 g2))
  have hJ1 := hz n x y H1.size hJn
  obtain ⟨r2, x2, y2, f1, f2, f3, f4⟩ := hJ.2.2.2.2.2.2.2.2.2.2.2.2.2.2.2.2.2.1 n x (zz H1.size y) (xs (i3 + 1).toNatClampNeg) hn hJ1
  have ee := f1.symm.trans e1
  simp only [Option.some.injEq, Prod.mk.injEq] at ee
  obtain ⟨rfl, rfl⟩ := ee
  have hWM2 : zW (fun q1 => zAM q e9 q1 ∨ H1.size ≤ q1) cy D (zz H1.size y) H1 := zW_mono hWM1 (fun q1 g1 _ => Or.inl g1)
  refine lv_aload_n hx hb dL_law_835 rfl (lv_at hl 2 rfl) ?_
  refine lv_aload_n hx hb dL_law_836 rfl (lv_at hl 0 rfl) ?_
  refine lv_iload_n hx hb dL_law_837 rfl (lv_at hl 3 rfl) ?_
  refine lv_iconst (v := 1) hx hb dL_law_838 (by decide) ?_
  refine lv_iadd hx hb dL_law_839 ?_
  refine va_sld hx hb hX hbl hbA hS (hin 1 (by decide)) dL_law_840 ?_
  refine y_calli (rest := [.int r2]) (A1 := fun q1 => zAM q e9 q1 ∨ H1.size ≤ q1) C hWM2 hS (fun q1 h9 => Or.inr h9) (fun q1 h9 => h9.elim (fun g => by have := g.1; omega) (fun g => Nat.le_trans hS.1 g)) (cX11_doubt_met f2) kb_X11_doubt kv_X11_doubt kl_L_93 hTq kX11 rfl rfl ⟨Nat.le_of_ble_eq_true rfl, Nat.le_of_ble_eq_true rfl⟩ rfl rfl (Nat.le_of_ble_eq_true rfl) hl.1 dL_law_841 ⟨by show _ ≤ 600000; omega, by show _ ≤ 7302250; omega⟩ (fun H2 locs2 hWM3 hS2 hz2 hk2 => ?_)
  have hsz : H2.size = H1.size := by
    rw [hWM3.1, f3]
    rfl
  have hWF2 : zW (zAF s0 q e9) cy D x2 H2 := by
    have h7 := zW_keep (H1 := H2) hWF1 (fun q1 g1 g2 => hk2 q1 g1 (fun g3 => g3.elim (fun g4 => g2.2 g4) (fun g4 => by omega)))
    have h8 : zz H2.size x2 = x2 := by
      rw [hsz, hWF1.1]
      rfl
    rw [h8] at h7
    exact h7
  have hWM4 : zW (zAM q e9) cy D y2 H2 := zW_mono hWM3 (fun q1 g1 g2 => g1.elim (fun g4 => g4) (fun g4 => by omega))
  have hTo2 : zT x2 o = 10 := (hT n x2 y2 f4).1
  have hTq2 : zT y2 q = 11 := (hT n x2 y2 f4).2
  refine lv_icmp_eq (tgt := 1017) hx hb dL_law_844 (by decide) (fun _ => ?_) (fun c1 => absurd rfl c1)
  refine W.widen (k := 69 + 701 * (n + 1)) (n := 147138 + 7010 * (n + 1)) (by omega) (by omega) ?_
  exact kk H2 locs2 x2 y2 ⟨hWF2, hWM4, f4, hTo2, hTq2, by omega, hq0⟩ hS2

set_option maxHeartbeats 4000000 in
set_option maxRecDepth 100000 in
theorem yc_18 {J : zJ} {s0 o q e9 n : Nat} {x y : Hz} {i3 : Int32} (hs0 : s0 = s.heap.size) (hJ : zAll J o q) (hz : ∀ n x y k, J n x y → J n x (zz k y)) (hT : ∀ n x y, J (n + 1) x y → zT x o = 10 ∧ zT y q = 11) (C : zLx D cy p s m meth c b L xs) (hn : n < 512) (hin : ∀ k : Int32, k ∈ ([0, 1, 2, 3, 4, 5] : List Int32) → vp_in (i3 + k) L) (h2 : zTwo J D cy s0 o q e9 n x y H) (hS : va_S (fun q => s.heap.size ≤ q) s.heap H locs) (hl : lv_has ls 4 [(0, .ref b), (1, .ref o), (2, .ref q), (3, .int i3)]) (hc : cells ≤ 69 + 701 * n) (hs : slots ≤ 147138 + 7010 * n)
    (kk : ∀ (H1 : Heap) (locs1 : List Loc) (x1 y1 : Hz), zTwo J D cy s0 o q e9 (n + 1) x1 y1 H1 → va_S (fun q => s.heap.size ≤ q) s.heap H1 locs1 → W p l e room_1 s m #[Value.ref b] below meth c H1 locs1 (69 + 701 * (n + 1)) (147138 + 7010 * (n + 1)) Q (F0 m 1017 ls [])) : W p l e room_1 s m #[Value.ref b] below meth c H locs cells slots Q (F0 m 849 ls []) := by
  obtain ⟨⟨hx, hb, hr, hml, hown, hts0, hX, hbl, hlocks, hgv⟩, hts, hK, hN⟩ := id C
  have hbA : ¬ (fun q : Nat => s.heap.size ≤ q) b := Nat.not_le.mpr hbl
  obtain ⟨hWF, hWM, hJn, hTo, hTq, he, hq0⟩ := h2
  obtain ⟨r, x', y', e1, -, -, -⟩ := hJ.2.2.2.2.2.2.2.2.2.2.2.2.2.2.2.2.2.2.1 n x y (xs (i3 + 1).toNatClampNeg) (xs (i3 + 2).toNatClampNeg) hn hJn
  refine lv_aload_n hx hb dL_law_849 rfl (lv_at hl 1 rfl) ?_
  refine lv_aload_n hx hb dL_law_850 rfl (lv_at hl 0 rfl) ?_
  refine lv_iload_n hx hb dL_law_851 rfl (lv_at hl 3 rfl) ?_
  refine lv_iconst (v := 1) hx hb dL_law_852 (by decide) ?_
  refine lv_iadd hx hb dL_law_853 ?_
  refine va_sld hx hb hX hbl hbA hS (hin 1 (by decide)) dL_law_854 ?_
  refine lv_aload_n hx hb dL_law_855 rfl (lv_at hl 0 rfl) ?_
  refine lv_iload_n hx hb dL_law_856 rfl (lv_at hl 3 rfl) ?_
  refine lv_iconst (v := 2) hx hb dL_law_857 (by decide) ?_
  refine lv_iadd hx hb dL_law_858 ?_
  refine va_sld hx hb hX hbl hbA hS (hin 2 (by decide)) dL_law_859 ?_
  refine y_calli (rest := []) (A1 := zAF s0 q e9) C hWF hS (fun q1 h9 => ⟨by have := hS.1; omega, fun h8 => by omega⟩) (fun q1 h9 => by rw [← hs0]; exact h9.1) (cX10_walk_met e1) kb_X10_walk kv_X10_walk kl_L_94 hTo kX10 rfl rfl ⟨Nat.le_of_ble_eq_true rfl, Nat.le_of_ble_eq_true rfl⟩ rfl rfl (by decide) hl.1 dL_law_860 ⟨by show _ ≤ 600000; omega, by show _ ≤ 7302250; omega⟩ (fun H1 locs1 hWF1 hS1 hz1 hk1 => ?_)
  have hS := hS1
  have hWM1 : zW (zAM q e9) cy D (zz H1.size y) H1 := zW_keep hWM (fun q1 g1 g2 => hk1 q1 g1 (fun g3 => g3.2 g2))
  have hJ1 := hz n x y H1.size hJn
  obtain ⟨r2, x2, y2, f1, f2, f3, f4⟩ := hJ.2.2.2.2.2.2.2.2.2.2.2.2.2.2.2.2.2.2.1 n x (zz H1.size y) (xs (i3 + 1).toNatClampNeg) (xs (i3 + 2).toNatClampNeg) hn hJ1
  have ee := f1.symm.trans e1
  simp only [Option.some.injEq, Prod.mk.injEq] at ee
  obtain ⟨rfl, rfl⟩ := ee
  have hWM2 : zW (fun q1 => zAM q e9 q1 ∨ H1.size ≤ q1) cy D (zz H1.size y) H1 := zW_mono hWM1 (fun q1 g1 _ => Or.inl g1)
  refine lv_aload_n hx hb dL_law_863 rfl (lv_at hl 2 rfl) ?_
  refine lv_aload_n hx hb dL_law_864 rfl (lv_at hl 0 rfl) ?_
  refine lv_iload_n hx hb dL_law_865 rfl (lv_at hl 3 rfl) ?_
  refine lv_iconst (v := 1) hx hb dL_law_866 (by decide) ?_
  refine lv_iadd hx hb dL_law_867 ?_
  refine va_sld hx hb hX hbl hbA hS (hin 1 (by decide)) dL_law_868 ?_
  refine lv_aload_n hx hb dL_law_869 rfl (lv_at hl 0 rfl) ?_
  refine lv_iload_n hx hb dL_law_870 rfl (lv_at hl 3 rfl) ?_
  refine lv_iconst (v := 2) hx hb dL_law_871 (by decide) ?_
  refine lv_iadd hx hb dL_law_872 ?_
  refine va_sld hx hb hX hbl hbA hS (hin 2 (by decide)) dL_law_873 ?_
  refine y_calli (rest := [.int r2]) (A1 := fun q1 => zAM q e9 q1 ∨ H1.size ≤ q1) C hWM2 hS (fun q1 h9 => Or.inr h9) (fun q1 h9 => h9.elim (fun g => by have := g.1; omega) (fun g => Nat.le_trans hS.1 g)) (cX11_walk_met f2) kb_X11_walk kv_X11_walk kl_L_97 hTq kX11 rfl rfl ⟨Nat.le_of_ble_eq_true rfl, Nat.le_of_ble_eq_true rfl⟩ rfl rfl (Nat.le_of_ble_eq_true rfl) hl.1 dL_law_874 ⟨by show _ ≤ 600000; omega, by show _ ≤ 7302250; omega⟩ (fun H2 locs2 hWM3 hS2 hz2 hk2 => ?_)
  have hsz : H2.size = H1.size := by
    rw [hWM3.1, f3]
    rfl
  have hWF2 : zW (zAF s0 q e9) cy D x2 H2 := by
    have h7 := zW_keep (H1 := H2) hWF1 (fun q1 g1 g2 => hk2 q1 g1 (fun g3 => g3.elim (fun g4 => g2.2 g4) (fun g4 => by omega)))
    have h8 : zz H2.size x2 = x2 := by
      rw [hsz, hWF1.1]
      rfl
    rw [h8] at h7
    exact h7
  have hWM4 : zW (zAM q e9) cy D y2 H2 := zW_mono hWM3 (fun q1 g1 g2 => g1.elim (fun g4 => g4) (fun g4 => by omega))
  have hTo2 : zT x2 o = 10 := (hT n x2 y2 f4).1
  have hTq2 : zT y2 q = 11 := (hT n x2 y2 f4).2
  refine lv_icmp_eq (tgt := 1017) hx hb dL_law_877 (by decide) (fun _ => ?_) (fun c1 => absurd rfl c1)
  refine W.widen (k := 69 + 701 * (n + 1)) (n := 147138 + 7010 * (n + 1)) (by omega) (by omega) ?_
  exact kk H2 locs2 x2 y2 ⟨hWF2, hWM4, f4, hTo2, hTq2, by omega, hq0⟩ hS2

set_option maxHeartbeats 4000000 in
set_option maxRecDepth 100000 in
theorem yc_19 {J : zJ} {s0 o q e9 n : Nat} {x y : Hz} {i3 : Int32} (hs0 : s0 = s.heap.size) (hJ : zAll J o q) (hz : ∀ n x y k, J n x y → J n x (zz k y)) (hT : ∀ n x y, J (n + 1) x y → zT x o = 10 ∧ zT y q = 11) (C : zLx D cy p s m meth c b L xs) (hn : n < 512) (hin : ∀ k : Int32, k ∈ ([0, 1, 2, 3, 4, 5] : List Int32) → vp_in (i3 + k) L) (h2 : zTwo J D cy s0 o q e9 n x y H) (hS : va_S (fun q => s.heap.size ≤ q) s.heap H locs) (hl : lv_has ls 4 [(0, .ref b), (1, .ref o), (2, .ref q), (3, .int i3)]) (hc : cells ≤ 69 + 701 * n) (hs : slots ≤ 147138 + 7010 * n)
    (kk : ∀ (H1 : Heap) (locs1 : List Loc) (x1 y1 : Hz), zTwo J D cy s0 o q e9 (n + 1) x1 y1 H1 → va_S (fun q => s.heap.size ≤ q) s.heap H1 locs1 → W p l e room_1 s m #[Value.ref b] below meth c H1 locs1 (69 + 701 * (n + 1)) (147138 + 7010 * (n + 1)) Q (F0 m 1017 ls [])) : W p l e room_1 s m #[Value.ref b] below meth c H locs cells slots Q (F0 m 882 ls []) := by
  obtain ⟨⟨hx, hb, hr, hml, hown, hts0, hX, hbl, hlocks, hgv⟩, hts, hK, hN⟩ := id C
  have hbA : ¬ (fun q : Nat => s.heap.size ≤ q) b := Nat.not_le.mpr hbl
  obtain ⟨hWF, hWM, hJn, hTo, hTq, he, hq0⟩ := h2
  obtain ⟨r, x', y', e1, -, -, -⟩ := hJ.2.2.2.2.2.2.2.2.2.2.2.2.2.2.2.2.2.2.2.1 n x y (xs (i3 + 1).toNatClampNeg) hn hJn
  refine lv_aload_n hx hb dL_law_882 rfl (lv_at hl 1 rfl) ?_
  refine lv_aload_n hx hb dL_law_883 rfl (lv_at hl 0 rfl) ?_
  refine lv_iload_n hx hb dL_law_884 rfl (lv_at hl 3 rfl) ?_
  refine lv_iconst (v := 1) hx hb dL_law_885 (by decide) ?_
  refine lv_iadd hx hb dL_law_886 ?_
  refine va_sld hx hb hX hbl hbA hS (hin 1 (by decide)) dL_law_887 ?_
  refine y_calli (rest := []) (A1 := zAF s0 q e9) C hWF hS (fun q1 h9 => ⟨by have := hS.1; omega, fun h8 => by omega⟩) (fun q1 h9 => by rw [← hs0]; exact h9.1) (cX10_meant_met e1) kb_X10_meant kv_X10_meant kl_L_98 hTo kX10 rfl rfl ⟨Nat.le_of_ble_eq_true rfl, Nat.le_of_ble_eq_true rfl⟩ rfl rfl (by decide) hl.1 dL_law_888 ⟨by show _ ≤ 600000; omega, by show _ ≤ 7302250; omega⟩ (fun H1 locs1 hWF1 hS1 hz1 hk1 => ?_)
  have hS := hS1
  have hWM1 : zW (zAM q e9) cy D (zz H1.size y) H1 := zW_keep hWM (fun q1 g1 g2 => hk1 q1 g1 (fun g3 => g3.2 g2))
  have hJ1 := hz n x y H1.size hJn
  obtain ⟨r2, x2, y2, f1, f2, f3, f4⟩ := hJ.2.2.2.2.2.2.2.2.2.2.2.2.2.2.2.2.2.2.2.1 n x (zz H1.size y) (xs (i3 + 1).toNatClampNeg) hn hJ1
  have ee := f1.symm.trans e1
  simp only [Option.some.injEq, Prod.mk.injEq] at ee
  obtain ⟨rfl, rfl⟩ := ee
  have hWM2 : zW (fun q1 => zAM q e9 q1 ∨ H1.size ≤ q1) cy D (zz H1.size y) H1 := zW_mono hWM1 (fun q1 g1 _ => Or.inl g1)
  refine lv_aload_n hx hb dL_law_891 rfl (lv_at hl 2 rfl) ?_
  refine lv_aload_n hx hb dL_law_892 rfl (lv_at hl 0 rfl) ?_
  refine lv_iload_n hx hb dL_law_893 rfl (lv_at hl 3 rfl) ?_
  refine lv_iconst (v := 1) hx hb dL_law_894 (by decide) ?_
  refine lv_iadd hx hb dL_law_895 ?_
  refine va_sld hx hb hX hbl hbA hS (hin 1 (by decide)) dL_law_896 ?_
  refine y_calli (rest := [.int r2]) (A1 := fun q1 => zAM q e9 q1 ∨ H1.size ≤ q1) C hWM2 hS (fun q1 h9 => Or.inr h9) (fun q1 h9 => h9.elim (fun g => by have := g.1; omega) (fun g => Nat.le_trans hS.1 g)) (cX11_meant_met f2) kb_X11_meant kv_X11_meant kl_L_102 hTq kX11 rfl rfl ⟨Nat.le_of_ble_eq_true rfl, Nat.le_of_ble_eq_true rfl⟩ rfl rfl (Nat.le_of_ble_eq_true rfl) hl.1 dL_law_897 ⟨by show _ ≤ 600000; omega, by show _ ≤ 7302250; omega⟩ (fun H2 locs2 hWM3 hS2 hz2 hk2 => ?_)
  have hsz : H2.size = H1.size := by
    rw [hWM3.1, f3]
    rfl
  have hWF2 : zW (zAF s0 q e9) cy D x2 H2 := by
    have h7 := zW_keep (H1 := H2) hWF1 (fun q1 g1 g2 => hk2 q1 g1 (fun g3 => g3.elim (fun g4 => g2.2 g4) (fun g4 => by omega)))
    have h8 : zz H2.size x2 = x2 := by
      rw [hsz, hWF1.1]
      rfl
    rw [h8] at h7
    exact h7
  have hWM4 : zW (zAM q e9) cy D y2 H2 := zW_mono hWM3 (fun q1 g1 g2 => g1.elim (fun g4 => g4) (fun g4 => by omega))
  have hTo2 : zT x2 o = 10 := (hT n x2 y2 f4).1
  have hTq2 : zT y2 q = 11 := (hT n x2 y2 f4).2
  refine lv_icmp_eq (tgt := 1017) hx hb dL_law_900 (by decide) (fun _ => ?_) (fun c1 => absurd rfl c1)
  refine W.widen (k := 69 + 701 * (n + 1)) (n := 147138 + 7010 * (n + 1)) (by omega) (by omega) ?_
  exact kk H2 locs2 x2 y2 ⟨hWF2, hWM4, f4, hTo2, hTq2, by omega, hq0⟩ hS2

set_option maxHeartbeats 4000000 in
set_option maxRecDepth 100000 in
theorem yc_20 {J : zJ} {s0 o q e9 n : Nat} {x y : Hz} {i3 : Int32} (hs0 : s0 = s.heap.size) (hJ : zAll J o q) (hz : ∀ n x y k, J n x y → J n x (zz k y)) (hT : ∀ n x y, J (n + 1) x y → zT x o = 10 ∧ zT y q = 11) (C : zLx D cy p s m meth c b L xs) (hn : n < 512) (hin : ∀ k : Int32, k ∈ ([0, 1, 2, 3, 4, 5] : List Int32) → vp_in (i3 + k) L) (h2 : zTwo J D cy s0 o q e9 n x y H) (hS : va_S (fun q => s.heap.size ≤ q) s.heap H locs) (hl : lv_has ls 4 [(0, .ref b), (1, .ref o), (2, .ref q), (3, .int i3)]) (hc : cells ≤ 69 + 701 * n) (hs : slots ≤ 147138 + 7010 * n)
    (kk : ∀ (H1 : Heap) (locs1 : List Loc) (x1 y1 : Hz), zTwo J D cy s0 o q e9 (n + 1) x1 y1 H1 → va_S (fun q => s.heap.size ≤ q) s.heap H1 locs1 → W p l e room_1 s m #[Value.ref b] below meth c H1 locs1 (69 + 701 * (n + 1)) (147138 + 7010 * (n + 1)) Q (F0 m 1017 ls [])) : W p l e room_1 s m #[Value.ref b] below meth c H locs cells slots Q (F0 m 905 ls []) := by
  obtain ⟨⟨hx, hb, hr, hml, hown, hts0, hX, hbl, hlocks, hgv⟩, hts, hK, hN⟩ := id C
  have hbA : ¬ (fun q : Nat => s.heap.size ≤ q) b := Nat.not_le.mpr hbl
  obtain ⟨hWF, hWM, hJn, hTo, hTq, he, hq0⟩ := h2
  obtain ⟨r, x', y', e1, -, -, -⟩ := hJ.2.2.2.2.2.2.2.2.2.2.2.2.2.2.2.2.2.2.2.2.1 n x y (xs (i3 + 1).toNatClampNeg) (xs (i3 + 2).toNatClampNeg) hn hJn
  refine lv_aload_n hx hb dL_law_905 rfl (lv_at hl 1 rfl) ?_
  refine lv_aload_n hx hb dL_law_906 rfl (lv_at hl 0 rfl) ?_
  refine lv_iload_n hx hb dL_law_907 rfl (lv_at hl 3 rfl) ?_
  refine lv_iconst (v := 1) hx hb dL_law_908 (by decide) ?_
  refine lv_iadd hx hb dL_law_909 ?_
  refine va_sld hx hb hX hbl hbA hS (hin 1 (by decide)) dL_law_910 ?_
  refine lv_aload_n hx hb dL_law_911 rfl (lv_at hl 0 rfl) ?_
  refine lv_iload_n hx hb dL_law_912 rfl (lv_at hl 3 rfl) ?_
  refine lv_iconst (v := 2) hx hb dL_law_913 (by decide) ?_
  refine lv_iadd hx hb dL_law_914 ?_
  refine va_sld hx hb hX hbl hbA hS (hin 2 (by decide)) dL_law_915 ?_
  refine y_calli (rest := []) (A1 := zAF s0 q e9) C hWF hS (fun q1 h9 => ⟨by have := hS.1; omega, fun h8 => by omega⟩) (fun q1 h9 => by rw [← hs0]; exact h9.1) (cX10_why_met e1) kb_X10_why kv_X10_why kl_L_103 hTo kX10 rfl rfl ⟨Nat.le_of_ble_eq_true rfl, Nat.le_of_ble_eq_true rfl⟩ rfl rfl (by decide) hl.1 dL_law_916 ⟨by show _ ≤ 600000; omega, by show _ ≤ 7302250; omega⟩ (fun H1 locs1 hWF1 hS1 hz1 hk1 => ?_)
  have hS := hS1
  have hWM1 : zW (zAM q e9) cy D (zz H1.size y) H1 := zW_keep hWM (fun q1 g1 g2 => hk1 q1 g1 (fun g3 => g3.2 g2))
  have hJ1 := hz n x y H1.size hJn
  obtain ⟨r2, x2, y2, f1, f2, f3, f4⟩ := hJ.2.2.2.2.2.2.2.2.2.2.2.2.2.2.2.2.2.2.2.2.1 n x (zz H1.size y) (xs (i3 + 1).toNatClampNeg) (xs (i3 + 2).toNatClampNeg) hn hJ1
  have ee := f1.symm.trans e1
  simp only [Option.some.injEq, Prod.mk.injEq] at ee
  obtain ⟨rfl, rfl⟩ := ee
  have hWM2 : zW (fun q1 => zAM q e9 q1 ∨ H1.size ≤ q1) cy D (zz H1.size y) H1 := zW_mono hWM1 (fun q1 g1 _ => Or.inl g1)
  refine lv_aload_n hx hb dL_law_919 rfl (lv_at hl 2 rfl) ?_
  refine lv_aload_n hx hb dL_law_920 rfl (lv_at hl 0 rfl) ?_
  refine lv_iload_n hx hb dL_law_921 rfl (lv_at hl 3 rfl) ?_
  refine lv_iconst (v := 1) hx hb dL_law_922 (by decide) ?_
  refine lv_iadd hx hb dL_law_923 ?_
  refine va_sld hx hb hX hbl hbA hS (hin 1 (by decide)) dL_law_924 ?_
  refine lv_aload_n hx hb dL_law_925 rfl (lv_at hl 0 rfl) ?_
  refine lv_iload_n hx hb dL_law_926 rfl (lv_at hl 3 rfl) ?_
  refine lv_iconst (v := 2) hx hb dL_law_927 (by decide) ?_
  refine lv_iadd hx hb dL_law_928 ?_
  refine va_sld hx hb hX hbl hbA hS (hin 2 (by decide)) dL_law_929 ?_
  refine y_calli (rest := [.int r2]) (A1 := fun q1 => zAM q e9 q1 ∨ H1.size ≤ q1) C hWM2 hS (fun q1 h9 => Or.inr h9) (fun q1 h9 => h9.elim (fun g => by have := g.1; omega) (fun g => Nat.le_trans hS.1 g)) (cX11_why_met f2) kb_X11_why kv_X11_why kl_L_106 hTq kX11 rfl rfl ⟨Nat.le_of_ble_eq_true rfl, Nat.le_of_ble_eq_true rfl⟩ rfl rfl (Nat.le_of_ble_eq_true rfl) hl.1 dL_law_930 ⟨by show _ ≤ 600000; omega, by show _ ≤ 7302250; omega⟩ (fun H2 locs2 hWM3 hS2 hz2 hk2 => ?_)
  have hsz : H2.size = H1.size := by
    rw [hWM3.1, f3]
    rfl
  have hWF2 : zW (zAF s0 q e9) cy D x2 H2 := by
    have h7 := zW_keep (H1 := H2) hWF1 (fun q1 g1 g2 => hk2 q1 g1 (fun g3 => g3.elim (fun g4 => g2.2 g4) (fun g4 => by omega)))
    have h8 : zz H2.size x2 = x2 := by
      rw [hsz, hWF1.1]
      rfl
    rw [h8] at h7
    exact h7
  have hWM4 : zW (zAM q e9) cy D y2 H2 := zW_mono hWM3 (fun q1 g1 g2 => g1.elim (fun g4 => g4) (fun g4 => by omega))
  have hTo2 : zT x2 o = 10 := (hT n x2 y2 f4).1
  have hTq2 : zT y2 q = 11 := (hT n x2 y2 f4).2
  refine lv_icmp_eq (tgt := 1017) hx hb dL_law_933 (by decide) (fun _ => ?_) (fun c1 => absurd rfl c1)
  refine W.widen (k := 69 + 701 * (n + 1)) (n := 147138 + 7010 * (n + 1)) (by omega) (by omega) ?_
  exact kk H2 locs2 x2 y2 ⟨hWF2, hWM4, f4, hTo2, hTq2, by omega, hq0⟩ hS2

set_option maxHeartbeats 4000000 in
set_option maxRecDepth 100000 in
theorem yc_21 {J : zJ} {s0 o q e9 n : Nat} {x y : Hz} {i3 : Int32} (hs0 : s0 = s.heap.size) (hJ : zAll J o q) (hz : ∀ n x y k, J n x y → J n x (zz k y)) (hT : ∀ n x y, J (n + 1) x y → zT x o = 10 ∧ zT y q = 11) (C : zLx D cy p s m meth c b L xs) (hn : n < 512) (hin : ∀ k : Int32, k ∈ ([0, 1, 2, 3, 4, 5] : List Int32) → vp_in (i3 + k) L) (h2 : zTwo J D cy s0 o q e9 n x y H) (hS : va_S (fun q => s.heap.size ≤ q) s.heap H locs) (hl : lv_has ls 4 [(0, .ref b), (1, .ref o), (2, .ref q), (3, .int i3)]) (hc : cells ≤ 69 + 701 * n) (hs : slots ≤ 147138 + 7010 * n)
    (kk : ∀ (H1 : Heap) (locs1 : List Loc) (x1 y1 : Hz), zTwo J D cy s0 o q e9 (n + 1) x1 y1 H1 → va_S (fun q => s.heap.size ≤ q) s.heap H1 locs1 → W p l e room_1 s m #[Value.ref b] below meth c H1 locs1 (69 + 701 * (n + 1)) (147138 + 7010 * (n + 1)) Q (F0 m 1017 ls [])) : W p l e room_1 s m #[Value.ref b] below meth c H locs cells slots Q (F0 m 938 ls []) := by
  obtain ⟨⟨hx, hb, hr, hml, hown, hts0, hX, hbl, hlocks, hgv⟩, hts, hK, hN⟩ := id C
  have hbA : ¬ (fun q : Nat => s.heap.size ≤ q) b := Nat.not_le.mpr hbl
  obtain ⟨hWF, hWM, hJn, hTo, hTq, he, hq0⟩ := h2
  obtain ⟨r, x', y', e1, -, -, -⟩ := hJ.2.2.2.2.2.2.2.2.2.2.2.2.2.2.2.2.2.2.2.2.2.1 n x y (xs (i3 + 1).toNatClampNeg) hn hJn
  refine lv_aload_n hx hb dL_law_938 rfl (lv_at hl 1 rfl) ?_
  refine lv_aload_n hx hb dL_law_939 rfl (lv_at hl 0 rfl) ?_
  refine lv_iload_n hx hb dL_law_940 rfl (lv_at hl 3 rfl) ?_
  refine lv_iconst (v := 1) hx hb dL_law_941 (by decide) ?_
  refine lv_iadd hx hb dL_law_942 ?_
  refine va_sld hx hb hX hbl hbA hS (hin 1 (by decide)) dL_law_943 ?_
  refine y_calli (rest := []) (A1 := zAF s0 q e9) C hWF hS (fun q1 h9 => ⟨by have := hS.1; omega, fun h8 => by omega⟩) (fun q1 h9 => by rw [← hs0]; exact h9.1) (cX10_dead_met e1) kb_X10_dead kv_X10_dead kl_L_107 hTo kX10 rfl rfl ⟨Nat.le_of_ble_eq_true rfl, Nat.le_of_ble_eq_true rfl⟩ rfl rfl (by decide) hl.1 dL_law_944 ⟨by show _ ≤ 600000; omega, by show _ ≤ 7302250; omega⟩ (fun H1 locs1 hWF1 hS1 hz1 hk1 => ?_)
  have hS := hS1
  have hWM1 : zW (zAM q e9) cy D (zz H1.size y) H1 := zW_keep hWM (fun q1 g1 g2 => hk1 q1 g1 (fun g3 => g3.2 g2))
  have hJ1 := hz n x y H1.size hJn
  obtain ⟨r2, x2, y2, f1, f2, f3, f4⟩ := hJ.2.2.2.2.2.2.2.2.2.2.2.2.2.2.2.2.2.2.2.2.2.1 n x (zz H1.size y) (xs (i3 + 1).toNatClampNeg) hn hJ1
  have ee := f1.symm.trans e1
  simp only [Option.some.injEq, Prod.mk.injEq] at ee
  obtain ⟨rfl, rfl⟩ := ee
  have hWM2 : zW (fun q1 => zAM q e9 q1 ∨ H1.size ≤ q1) cy D (zz H1.size y) H1 := zW_mono hWM1 (fun q1 g1 _ => Or.inl g1)
  refine lv_aload_n hx hb dL_law_947 rfl (lv_at hl 2 rfl) ?_
  refine lv_aload_n hx hb dL_law_948 rfl (lv_at hl 0 rfl) ?_
  refine lv_iload_n hx hb dL_law_949 rfl (lv_at hl 3 rfl) ?_
  refine lv_iconst (v := 1) hx hb dL_law_950 (by decide) ?_
  refine lv_iadd hx hb dL_law_951 ?_
  refine va_sld hx hb hX hbl hbA hS (hin 1 (by decide)) dL_law_952 ?_
  refine y_calli (rest := [.int r2]) (A1 := fun q1 => zAM q e9 q1 ∨ H1.size ≤ q1) C hWM2 hS (fun q1 h9 => Or.inr h9) (fun q1 h9 => h9.elim (fun g => by have := g.1; omega) (fun g => Nat.le_trans hS.1 g)) (cX11_dead_met f2) kb_X11_dead kv_X11_dead kl_L_110 hTq kX11 rfl rfl ⟨Nat.le_of_ble_eq_true rfl, Nat.le_of_ble_eq_true rfl⟩ rfl rfl (Nat.le_of_ble_eq_true rfl) hl.1 dL_law_953 ⟨by show _ ≤ 600000; omega, by show _ ≤ 7302250; omega⟩ (fun H2 locs2 hWM3 hS2 hz2 hk2 => ?_)
  have hsz : H2.size = H1.size := by
    rw [hWM3.1, f3]
    rfl
  have hWF2 : zW (zAF s0 q e9) cy D x2 H2 := by
    have h7 := zW_keep (H1 := H2) hWF1 (fun q1 g1 g2 => hk2 q1 g1 (fun g3 => g3.elim (fun g4 => g2.2 g4) (fun g4 => by omega)))
    have h8 : zz H2.size x2 = x2 := by
      rw [hsz, hWF1.1]
      rfl
    rw [h8] at h7
    exact h7
  have hWM4 : zW (zAM q e9) cy D y2 H2 := zW_mono hWM3 (fun q1 g1 g2 => g1.elim (fun g4 => g4) (fun g4 => by omega))
  have hTo2 : zT x2 o = 10 := (hT n x2 y2 f4).1
  have hTq2 : zT y2 q = 11 := (hT n x2 y2 f4).2
  refine lv_icmp_eq (tgt := 1017) hx hb dL_law_956 (by decide) (fun _ => ?_) (fun c1 => absurd rfl c1)
  refine W.widen (k := 69 + 701 * (n + 1)) (n := 147138 + 7010 * (n + 1)) (by omega) (by omega) ?_
  exact kk H2 locs2 x2 y2 ⟨hWF2, hWM4, f4, hTo2, hTq2, by omega, hq0⟩ hS2

set_option maxHeartbeats 4000000 in
set_option maxRecDepth 100000 in
theorem yc_22 {J : zJ} {s0 o q e9 n : Nat} {x y : Hz} {i3 : Int32} (hs0 : s0 = s.heap.size) (hJ : zAll J o q) (hz : ∀ n x y k, J n x y → J n x (zz k y)) (hT : ∀ n x y, J (n + 1) x y → zT x o = 10 ∧ zT y q = 11) (C : zLx D cy p s m meth c b L xs) (hn : n < 512) (hin : ∀ k : Int32, k ∈ ([0, 1, 2, 3, 4, 5] : List Int32) → vp_in (i3 + k) L) (h2 : zTwo J D cy s0 o q e9 n x y H) (hS : va_S (fun q => s.heap.size ≤ q) s.heap H locs) (hl : lv_has ls 4 [(0, .ref b), (1, .ref o), (2, .ref q), (3, .int i3)]) (hc : cells ≤ 69 + 701 * n) (hs : slots ≤ 147138 + 7010 * n)
    (kk : ∀ (H1 : Heap) (locs1 : List Loc) (x1 y1 : Hz), zTwo J D cy s0 o q e9 (n + 1) x1 y1 H1 → va_S (fun q => s.heap.size ≤ q) s.heap H1 locs1 → W p l e room_1 s m #[Value.ref b] below meth c H1 locs1 (69 + 701 * (n + 1)) (147138 + 7010 * (n + 1)) Q (F0 m 1017 ls [])) : W p l e room_1 s m #[Value.ref b] below meth c H locs cells slots Q (F0 m 961 ls []) := by
  obtain ⟨⟨hx, hb, hr, hml, hown, hts0, hX, hbl, hlocks, hgv⟩, hts, hK, hN⟩ := id C
  have hbA : ¬ (fun q : Nat => s.heap.size ≤ q) b := Nat.not_le.mpr hbl
  obtain ⟨hWF, hWM, hJn, hTo, hTq, he, hq0⟩ := h2
  obtain ⟨r, x', y', e1, -, -, -⟩ := hJ.2.2.2.2.2.2.2.2.2.2.2.2.2.2.2.2.2.2.2.2.2.2.1 n x y (xs (i3 + 1).toNatClampNeg) (xs (i3 + 2).toNatClampNeg) hn hJn
  refine lv_aload_n hx hb dL_law_961 rfl (lv_at hl 1 rfl) ?_
  refine lv_aload_n hx hb dL_law_962 rfl (lv_at hl 0 rfl) ?_
  refine lv_iload_n hx hb dL_law_963 rfl (lv_at hl 3 rfl) ?_
  refine lv_iconst (v := 1) hx hb dL_law_964 (by decide) ?_
  refine lv_iadd hx hb dL_law_965 ?_
  refine va_sld hx hb hX hbl hbA hS (hin 1 (by decide)) dL_law_966 ?_
  refine lv_aload_n hx hb dL_law_967 rfl (lv_at hl 0 rfl) ?_
  refine lv_iload_n hx hb dL_law_968 rfl (lv_at hl 3 rfl) ?_
  refine lv_iconst (v := 2) hx hb dL_law_969 (by decide) ?_
  refine lv_iadd hx hb dL_law_970 ?_
  refine va_sld hx hb hX hbl hbA hS (hin 2 (by decide)) dL_law_971 ?_
  refine y_calli (rest := []) (A1 := zAF s0 q e9) C hWF hS (fun q1 h9 => ⟨by have := hS.1; omega, fun h8 => by omega⟩) (fun q1 h9 => by rw [← hs0]; exact h9.1) (cX10_audit_met e1) kb_X10_audit kv_X10_audit kl_L_111 hTo kX10 rfl rfl ⟨Nat.le_of_ble_eq_true rfl, Nat.le_of_ble_eq_true rfl⟩ rfl rfl (by decide) hl.1 dL_law_972 ⟨by show _ ≤ 600000; omega, by show _ ≤ 7302250; omega⟩ (fun H1 locs1 hWF1 hS1 hz1 hk1 => ?_)
  have hS := hS1
  have hWM1 : zW (zAM q e9) cy D (zz H1.size y) H1 := zW_keep hWM (fun q1 g1 g2 => hk1 q1 g1 (fun g3 => g3.2 g2))
  have hJ1 := hz n x y H1.size hJn
  obtain ⟨r2, x2, y2, f1, f2, f3, f4⟩ := hJ.2.2.2.2.2.2.2.2.2.2.2.2.2.2.2.2.2.2.2.2.2.2.1 n x (zz H1.size y) (xs (i3 + 1).toNatClampNeg) (xs (i3 + 2).toNatClampNeg) hn hJ1
  have ee := f1.symm.trans e1
  simp only [Option.some.injEq, Prod.mk.injEq] at ee
  obtain ⟨rfl, rfl⟩ := ee
  have hWM2 : zW (fun q1 => zAM q e9 q1 ∨ H1.size ≤ q1) cy D (zz H1.size y) H1 := zW_mono hWM1 (fun q1 g1 _ => Or.inl g1)
  refine lv_aload_n hx hb dL_law_975 rfl (lv_at hl 2 rfl) ?_
  refine lv_aload_n hx hb dL_law_976 rfl (lv_at hl 0 rfl) ?_
  refine lv_iload_n hx hb dL_law_977 rfl (lv_at hl 3 rfl) ?_
  refine lv_iconst (v := 1) hx hb dL_law_978 (by decide) ?_
  refine lv_iadd hx hb dL_law_979 ?_
  refine va_sld hx hb hX hbl hbA hS (hin 1 (by decide)) dL_law_980 ?_
  refine lv_aload_n hx hb dL_law_981 rfl (lv_at hl 0 rfl) ?_
  refine lv_iload_n hx hb dL_law_982 rfl (lv_at hl 3 rfl) ?_
  refine lv_iconst (v := 2) hx hb dL_law_983 (by decide) ?_
  refine lv_iadd hx hb dL_law_984 ?_
  refine va_sld hx hb hX hbl hbA hS (hin 2 (by decide)) dL_law_985 ?_
  refine y_calli (rest := [.int r2]) (A1 := fun q1 => zAM q e9 q1 ∨ H1.size ≤ q1) C hWM2 hS (fun q1 h9 => Or.inr h9) (fun q1 h9 => h9.elim (fun g => by have := g.1; omega) (fun g => Nat.le_trans hS.1 g)) (cX11_audit_met f2) kb_X11_audit kv_X11_audit kl_L_114 hTq kX11 rfl rfl ⟨Nat.le_of_ble_eq_true rfl, Nat.le_of_ble_eq_true rfl⟩ rfl rfl (Nat.le_of_ble_eq_true rfl) hl.1 dL_law_986 ⟨by show _ ≤ 600000; omega, by show _ ≤ 7302250; omega⟩ (fun H2 locs2 hWM3 hS2 hz2 hk2 => ?_)
  have hsz : H2.size = H1.size := by
    rw [hWM3.1, f3]
    rfl
  have hWF2 : zW (zAF s0 q e9) cy D x2 H2 := by
    have h7 := zW_keep (H1 := H2) hWF1 (fun q1 g1 g2 => hk2 q1 g1 (fun g3 => g3.elim (fun g4 => g2.2 g4) (fun g4 => by omega)))
    have h8 : zz H2.size x2 = x2 := by
      rw [hsz, hWF1.1]
      rfl
    rw [h8] at h7
    exact h7
  have hWM4 : zW (zAM q e9) cy D y2 H2 := zW_mono hWM3 (fun q1 g1 g2 => g1.elim (fun g4 => g4) (fun g4 => by omega))
  have hTo2 : zT x2 o = 10 := (hT n x2 y2 f4).1
  have hTq2 : zT y2 q = 11 := (hT n x2 y2 f4).2
  refine lv_icmp_eq (tgt := 1017) hx hb dL_law_989 (by decide) (fun _ => ?_) (fun c1 => absurd rfl c1)
  refine W.widen (k := 69 + 701 * (n + 1)) (n := 147138 + 7010 * (n + 1)) (by omega) (by omega) ?_
  exact kk H2 locs2 x2 y2 ⟨hWF2, hWM4, f4, hTo2, hTq2, by omega, hq0⟩ hS2

set_option maxHeartbeats 4000000 in
set_option maxRecDepth 100000 in
theorem yc_23 {J : zJ} {s0 o q e9 n : Nat} {x y : Hz} {i3 : Int32} (hs0 : s0 = s.heap.size) (hJ : zAll J o q) (hz : ∀ n x y k, J n x y → J n x (zz k y)) (hT : ∀ n x y, J (n + 1) x y → zT x o = 10 ∧ zT y q = 11) (C : zLx D cy p s m meth c b L xs) (hn : n < 512) (hin : ∀ k : Int32, k ∈ ([0, 1, 2, 3, 4, 5] : List Int32) → vp_in (i3 + k) L) (h2 : zTwo J D cy s0 o q e9 n x y H) (hS : va_S (fun q => s.heap.size ≤ q) s.heap H locs) (hl : lv_has ls 4 [(0, .ref b), (1, .ref o), (2, .ref q), (3, .int i3)]) (hc : cells ≤ 69 + 701 * n) (hs : slots ≤ 147138 + 7010 * n)
    (kk : ∀ (H1 : Heap) (locs1 : List Loc) (x1 y1 : Hz), zTwo J D cy s0 o q e9 (n + 1) x1 y1 H1 → va_S (fun q => s.heap.size ≤ q) s.heap H1 locs1 → W p l e room_1 s m #[Value.ref b] below meth c H1 locs1 (69 + 701 * (n + 1)) (147138 + 7010 * (n + 1)) Q (F0 m 1017 ls [])) : W p l e room_1 s m #[Value.ref b] below meth c H locs cells slots Q (F0 m 994 ls []) := by
  obtain ⟨⟨hx, hb, hr, hml, hown, hts0, hX, hbl, hlocks, hgv⟩, hts, hK, hN⟩ := id C
  have hbA : ¬ (fun q : Nat => s.heap.size ≤ q) b := Nat.not_le.mpr hbl
  obtain ⟨hWF, hWM, hJn, hTo, hTq, he, hq0⟩ := h2
  obtain ⟨r, x', y', e1, -, -, -⟩ := hJ.2.2.2.2.2.2.2.2.2.2.2.2.2.2.2.2.2.2.2.2.2.2.2 n x y (xs (i3 + 1).toNatClampNeg) hn hJn
  refine lv_aload_n hx hb dL_law_994 rfl (lv_at hl 1 rfl) ?_
  refine lv_aload_n hx hb dL_law_995 rfl (lv_at hl 0 rfl) ?_
  refine lv_iload_n hx hb dL_law_996 rfl (lv_at hl 3 rfl) ?_
  refine lv_iconst (v := 1) hx hb dL_law_997 (by decide) ?_
  refine lv_iadd hx hb dL_law_998 ?_
  refine va_sld hx hb hX hbl hbA hS (hin 1 (by decide)) dL_law_999 ?_
  refine y_calli (rest := []) (A1 := zAF s0 q e9) C hWF hS (fun q1 h9 => ⟨by have := hS.1; omega, fun h8 => by omega⟩) (fun q1 h9 => by rw [← hs0]; exact h9.1) (cX10_status_met e1) kb_X10_status kv_X10_status kl_L_115 hTo kX10 rfl rfl ⟨Nat.le_of_ble_eq_true rfl, Nat.le_of_ble_eq_true rfl⟩ rfl rfl (by decide) hl.1 dL_law_1000 ⟨by show _ ≤ 600000; omega, by show _ ≤ 7302250; omega⟩ (fun H1 locs1 hWF1 hS1 hz1 hk1 => ?_)
  have hS := hS1
  have hWM1 : zW (zAM q e9) cy D (zz H1.size y) H1 := zW_keep hWM (fun q1 g1 g2 => hk1 q1 g1 (fun g3 => g3.2 g2))
  have hJ1 := hz n x y H1.size hJn
  obtain ⟨r2, x2, y2, f1, f2, f3, f4⟩ := hJ.2.2.2.2.2.2.2.2.2.2.2.2.2.2.2.2.2.2.2.2.2.2.2 n x (zz H1.size y) (xs (i3 + 1).toNatClampNeg) hn hJ1
  have ee := f1.symm.trans e1
  simp only [Option.some.injEq, Prod.mk.injEq] at ee
  obtain ⟨rfl, rfl⟩ := ee
  have hWM2 : zW (fun q1 => zAM q e9 q1 ∨ H1.size ≤ q1) cy D (zz H1.size y) H1 := zW_mono hWM1 (fun q1 g1 _ => Or.inl g1)
  refine lv_aload_n hx hb dL_law_1003 rfl (lv_at hl 2 rfl) ?_
  refine lv_aload_n hx hb dL_law_1004 rfl (lv_at hl 0 rfl) ?_
  refine lv_iload_n hx hb dL_law_1005 rfl (lv_at hl 3 rfl) ?_
  refine lv_iconst (v := 1) hx hb dL_law_1006 (by decide) ?_
  refine lv_iadd hx hb dL_law_1007 ?_
  refine va_sld hx hb hX hbl hbA hS (hin 1 (by decide)) dL_law_1008 ?_
  refine y_calli (rest := [.int r2]) (A1 := fun q1 => zAM q e9 q1 ∨ H1.size ≤ q1) C hWM2 hS (fun q1 h9 => Or.inr h9) (fun q1 h9 => h9.elim (fun g => by have := g.1; omega) (fun g => Nat.le_trans hS.1 g)) (cX11_status_met f2) kb_X11_status kv_X11_status kl_L_118 hTq kX11 rfl rfl ⟨Nat.le_of_ble_eq_true rfl, Nat.le_of_ble_eq_true rfl⟩ rfl rfl (Nat.le_of_ble_eq_true rfl) hl.1 dL_law_1009 ⟨by show _ ≤ 600000; omega, by show _ ≤ 7302250; omega⟩ (fun H2 locs2 hWM3 hS2 hz2 hk2 => ?_)
  have hsz : H2.size = H1.size := by
    rw [hWM3.1, f3]
    rfl
  have hWF2 : zW (zAF s0 q e9) cy D x2 H2 := by
    have h7 := zW_keep (H1 := H2) hWF1 (fun q1 g1 g2 => hk2 q1 g1 (fun g3 => g3.elim (fun g4 => g2.2 g4) (fun g4 => by omega)))
    have h8 : zz H2.size x2 = x2 := by
      rw [hsz, hWF1.1]
      rfl
    rw [h8] at h7
    exact h7
  have hWM4 : zW (zAM q e9) cy D y2 H2 := zW_mono hWM3 (fun q1 g1 g2 => g1.elim (fun g4 => g4) (fun g4 => by omega))
  have hTo2 : zT x2 o = 10 := (hT n x2 y2 f4).1
  have hTq2 : zT y2 q = 11 := (hT n x2 y2 f4).2
  refine lv_icmp_eq (tgt := 1017) hx hb dL_law_1012 (by decide) (fun _ => ?_) (fun c1 => absurd rfl c1)
  refine W.widen (k := 69 + 701 * (n + 1)) (n := 147138 + 7010 * (n + 1)) (by omega) (by omega) ?_
  exact kk H2 locs2 x2 y2 ⟨hWF2, hWM4, f4, hTo2, hTq2, by omega, hq0⟩ hS2

end ZL
