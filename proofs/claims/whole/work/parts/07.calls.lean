section ZR4
variable {p : Program} {l : Launch} {e : Env} {R : Room} {s : State} {m : MethodId} {args : Array Value} {below : List Frame} {meth : Method} {c : Code} {H : Heap} {locs : List Loc} {cells slots : Nat} {Q : State → Prop}
variable {cc : ByteArray} {pc nL : Nat} {ls : Array Slot} {rest st0 : List Value} {A : Nat → Prop} {D : va_G} {cy : Nat → ClassId} {h h' : Hz} {own : String}
variable {y : MethodName} {bytes : ByteArray} {maxL mc ms n index : Nat} {ret : Option FieldType} {rm : Room} {As : List Value}
/-- a method and the words of a call of it -/
def zYb (y : MethodName) (bytes : ByteArray) (maxL : Nat) (ret : Option FieldType) (n : Nat) : Prop := Cond.code y bytes maxL ret ∈ wT ∧ Cond.initialized y.cls ∈ wT ∧ y.cls ≠ "java/lang/invoke/MethodHandle" ∧ y.cls ≠ "java/lang/invoke/VarHandle" ∧ (parseMethodDescriptor y.desc).map (fun d => d.parameters.length) = some n
def zYv (y : MethodName) : Prop := Cond.instanceMethod y ∈ wT ∧ Cond.selects y.cls y y ∈ wT
theorem wT_good {w : Cond} (h : w ∈ wT) : goodWord w = true := (List.mem_filter.mp h).2
theorem zGood (hY : zYb y bytes maxL ret n) : GoodIn wT (Cond.code y bytes maxL ret :: wT) := by
  intro w hw
  rcases List.mem_cons.mp hw with rfl | hw
  · exact ⟨hY.1, good_of_word (wT_good hY.1)⟩
  · exact ⟨hw, good_of_word (wT_good hw)⟩
theorem zCallB (hts : ∀ w ∈ wT, w.before args s = true) (hY : zYb y bytes maxL ret n) (hl : Cond.methodLink own index y ∈ wT) (hrc : rm.cells = mc) (hrs : rm.slots = ms) (hR : rm.frames + 1 ≤ R.frames ∧ 8 + (maxL + 11) + rm.locals ≤ R.locals) : CallB R s args own index y bytes maxL ret (Cond.code y bytes maxL ret :: wT) rm mc ms n :=
  callB_of n hts (zGood hY) rfl hrc hrs (hts _ hY.2.1) (hts _ hl) hY.2.2 hR
/-- the start of a call, from the caller's heap -/
theorem zPre (X : zX A D cy p s m args c cc own nL) (hW : zW A cy D h H) (hS : va_S A s.heap H locs) (av : List Value) (U : State) (hU : U.heap = H) (hw : s.WarmedH U.vm) : va_Pc av (zS A D cy h) av.toArray U := by
  obtain ⟨-, -, -, -, hK, -, hN, hA⟩ := X
  exact ⟨rfl, by rw [hU]; exact hW, va_K.moved hw.alike hK, hN.warm hw, fun q hq => hA q (Nat.le_trans hS.1 (by rw [← hU]; exact hq))⟩
theorem z_callVi {r : Int32} {b ci N : Nat} {T : u_T} {ty : Nat → FieldType} (X : zX A D cy p s m args c cc own nL) (hW : zW A cy D h H) (hS : va_S A s.heap H locs) (hM : Met l y (Cond.code y bytes maxL ret :: wT) rm (va_Pc (.ref b :: As) (zS A D cy h)) (va_Qi (fun r1 u => r1 = r ∧ u = h') (zB A D cy) A) mc ms A) (hY : zYb y bytes maxL ret n) (hV : zYv y) (hl : Cond.methodLink own index y ∈ wT) (hT : zT h b = ci) (hC : zC ci y.cls T N ty) (hrc : rm.cells = mc) (hrs : rm.slots = ms) (hR : rm.frames + 1 ≤ R.frames ∧ 8 + (maxL + 11) + rm.locals ≤ R.locals) (hn : As.length = n) (hst : st0 = As.reverse ++ .ref b :: rest) (hro : (rest.map fun v => v.category).sum ≤ 8) (hsz : ls.size = nL) (hdg : decode cc pc = .ok (.invokevirtual index, 3)) (hf : cells + mc ≤ R.cells ∧ slots + ms ≤ R.slots)
    (kk : ∀ (H1 : Heap) (locs1 : List Loc), zW A cy D h' H1 → va_S A s.heap H1 locs1 → W p l e R s m args below meth c H1 locs1 (cells + mc) (slots + ms) Q (F0 m (pc + 3) ls (.int r :: rest))) : W p l e R s m args below meth c H locs cells slots Q (F0 m pc ls st0) := by
  obtain ⟨hx, hb, hts, hown, hK, hml, hN, hA⟩ := id X
  obtain ⟨-, -, g3⟩ := z_obj hW hT hC
  refine va_calli (va_runV (As := As) (rest := rest) (n := n) (C := y.cls) ⟨hx, hb, hml, hown, hts⟩ hM ⟨zCallB hts hY hl hrc hrs hR, hts _ hV.1, hts _ hV.2⟩ ⟨zS_blind _ _ _ _ _, va_recv hK (zP_one g3) hC.1 (q0 := 0) rfl, fun U hU hw => zPre X hW hS _ U hU hw⟩ rfl hn hsz hst (lv_room hro) hdg hf) hS (fun q _ hq => hq) (fun q hq => hq) (fun r1 u t H1 locs1 ht hvm hp hB hz hk hS1 => ?_)
  obtain ⟨rfl, rfl⟩ := hp
  exact kk H1 locs1 (by rw [← ht]; exact hB) hS1
theorem z_callVl {r : Int64} {b ci N : Nat} {T : u_T} {ty : Nat → FieldType} (X : zX A D cy p s m args c cc own nL) (hW : zW A cy D h H) (hS : va_S A s.heap H locs) (hM : Met l y (Cond.code y bytes maxL ret :: wT) rm (va_Pc (.ref b :: As) (zS A D cy h)) (va_Ql (fun r1 u => r1 = r ∧ u = h') (zB A D cy) A) mc ms A) (hY : zYb y bytes maxL ret n) (hV : zYv y) (hl : Cond.methodLink own index y ∈ wT) (hT : zT h b = ci) (hC : zC ci y.cls T N ty) (hrc : rm.cells = mc) (hrs : rm.slots = ms) (hR : rm.frames + 1 ≤ R.frames ∧ 8 + (maxL + 11) + rm.locals ≤ R.locals) (hn : As.length = n) (hst : st0 = As.reverse ++ .ref b :: rest) (hro : (rest.map fun v => v.category).sum ≤ 8) (hsz : ls.size = nL) (hdg : decode cc pc = .ok (.invokevirtual index, 3)) (hf : cells + mc ≤ R.cells ∧ slots + ms ≤ R.slots)
    (kk : ∀ (H1 : Heap) (locs1 : List Loc), zW A cy D h' H1 → va_S A s.heap H1 locs1 → W p l e R s m args below meth c H1 locs1 (cells + mc) (slots + ms) Q (F0 m (pc + 3) ls (.long r :: rest))) : W p l e R s m args below meth c H locs cells slots Q (F0 m pc ls st0) := by
  obtain ⟨hx, hb, hts, hown, hK, hml, hN, hA⟩ := id X
  obtain ⟨-, -, g3⟩ := z_obj hW hT hC
  refine va_calll (va_runV (As := As) (rest := rest) (n := n) (C := y.cls) ⟨hx, hb, hml, hown, hts⟩ hM ⟨zCallB hts hY hl hrc hrs hR, hts _ hV.1, hts _ hV.2⟩ ⟨zS_blind _ _ _ _ _, va_recv hK (zP_one g3) hC.1 (q0 := 0) rfl, fun U hU hw => zPre X hW hS _ U hU hw⟩ rfl hn hsz hst (lv_room hro) hdg hf) hS (fun q _ hq => hq) (fun q hq => hq) (fun r1 u t H1 locs1 ht hvm hp hB hz hk hS1 => ?_)
  obtain ⟨rfl, rfl⟩ := hp
  exact kk H1 locs1 (by rw [← ht]; exact hB) hS1
theorem z_callVq {r : Option Nat} {b ci N : Nat} {T : u_T} {ty : Nat → FieldType} (X : zX A D cy p s m args c cc own nL) (hW : zW A cy D h H) (hS : va_S A s.heap H locs) (hM : Met l y (Cond.code y bytes maxL ret :: wT) rm (va_Pc (.ref b :: As) (zS A D cy h)) (va_Qq (fun r1 u => r1 = r ∧ u = h') (zB A D cy) A) mc ms A) (hY : zYb y bytes maxL ret n) (hV : zYv y) (hl : Cond.methodLink own index y ∈ wT) (hT : zT h b = ci) (hC : zC ci y.cls T N ty) (hrc : rm.cells = mc) (hrs : rm.slots = ms) (hR : rm.frames + 1 ≤ R.frames ∧ 8 + (maxL + 11) + rm.locals ≤ R.locals) (hn : As.length = n) (hst : st0 = As.reverse ++ .ref b :: rest) (hro : (rest.map fun v => v.category).sum ≤ 8) (hsz : ls.size = nL) (hdg : decode cc pc = .ok (.invokevirtual index, 3)) (hf : cells + mc ≤ R.cells ∧ slots + ms ≤ R.slots)
    (kk : ∀ (H1 : Heap) (locs1 : List Loc), zW A cy D h' H1 → va_S A s.heap H1 locs1 → W p l e R s m args below meth c H1 locs1 (cells + mc) (slots + ms) Q (F0 m (pc + 3) ls (va_rf r :: rest))) : W p l e R s m args below meth c H locs cells slots Q (F0 m pc ls st0) := by
  obtain ⟨hx, hb, hts, hown, hK, hml, hN, hA⟩ := id X
  obtain ⟨-, -, g3⟩ := z_obj hW hT hC
  refine va_callq (va_runV (As := As) (rest := rest) (n := n) (C := y.cls) ⟨hx, hb, hml, hown, hts⟩ hM ⟨zCallB hts hY hl hrc hrs hR, hts _ hV.1, hts _ hV.2⟩ ⟨zS_blind _ _ _ _ _, va_recv hK (zP_one g3) hC.1 (q0 := 0) rfl, fun U hU hw => zPre X hW hS _ U hU hw⟩ rfl hn hsz hst (lv_room hro) hdg hf) hS (fun q _ hq => hq) (fun q hq => hq) (fun r1 u t H1 locs1 ht hvm hp hB hz hk hS1 => ?_)
  obtain ⟨rfl, rfl⟩ := hp
  exact kk H1 locs1 (by rw [← ht]; exact hB) hS1
theorem z_callVv {b ci N : Nat} {T : u_T} {ty : Nat → FieldType} (X : zX A D cy p s m args c cc own nL) (hW : zW A cy D h H) (hS : va_S A s.heap H locs) (hM : Met l y (Cond.code y bytes maxL ret :: wT) rm (va_Pc (.ref b :: As) (zS A D cy h)) (va_Qv (fun u => u = h') (zB A D cy) A) mc ms A) (hY : zYb y bytes maxL ret n) (hV : zYv y) (hl : Cond.methodLink own index y ∈ wT) (hT : zT h b = ci) (hC : zC ci y.cls T N ty) (hrc : rm.cells = mc) (hrs : rm.slots = ms) (hR : rm.frames + 1 ≤ R.frames ∧ 8 + (maxL + 11) + rm.locals ≤ R.locals) (hn : As.length = n) (hst : st0 = As.reverse ++ .ref b :: rest) (hro : (rest.map fun v => v.category).sum ≤ 8) (hsz : ls.size = nL) (hdg : decode cc pc = .ok (.invokevirtual index, 3)) (hf : cells + mc ≤ R.cells ∧ slots + ms ≤ R.slots)
    (kk : ∀ (H1 : Heap) (locs1 : List Loc), zW A cy D h' H1 → va_S A s.heap H1 locs1 → W p l e R s m args below meth c H1 locs1 (cells + mc) (slots + ms) Q (F0 m (pc + 3) ls (rest))) : W p l e R s m args below meth c H locs cells slots Q (F0 m pc ls st0) := by
  obtain ⟨hx, hb, hts, hown, hK, hml, hN, hA⟩ := id X
  obtain ⟨-, -, g3⟩ := z_obj hW hT hC
  refine va_callv (va_runV (As := As) (rest := rest) (n := n) (C := y.cls) ⟨hx, hb, hml, hown, hts⟩ hM ⟨zCallB hts hY hl hrc hrs hR, hts _ hV.1, hts _ hV.2⟩ ⟨zS_blind _ _ _ _ _, va_recv hK (zP_one g3) hC.1 (q0 := 0) rfl, fun U hU hw => zPre X hW hS _ U hU hw⟩ rfl hn hsz hst (lv_room hro) hdg hf) hS (fun q _ hq => hq) (fun q hq => hq) (fun u t H1 locs1 ht hvm hp hB hz hk hS1 => ?_)
  subst hp
  exact kk H1 locs1 (by rw [← ht]; exact hB) hS1
theorem z_callSi {r : Int32} (X : zX A D cy p s m args c cc own nL) (hW : zW A cy D h H) (hS : va_S A s.heap H locs) (hM : Met l y (Cond.code y bytes maxL ret :: wT) rm (va_Pc As (zS A D cy h)) (va_Qi (fun r1 u => r1 = r ∧ u = h') (zB A D cy) A) mc ms A) (hY : zYb y bytes maxL ret n) (hV : Cond.static y ∈ wT) (hl : Cond.methodLink own index y ∈ wT) (hrc : rm.cells = mc) (hrs : rm.slots = ms) (hR : rm.frames + 1 ≤ R.frames ∧ 8 + (maxL + 11) + rm.locals ≤ R.locals) (hn : As.length = n) (hst : st0 = As.reverse ++ rest) (hro : (rest.map fun v => v.category).sum ≤ 8) (hsz : ls.size = nL) (hdg : decode cc pc = .ok (.invokestatic index, 3)) (hf : cells + mc ≤ R.cells ∧ slots + ms ≤ R.slots)
    (kk : ∀ (H1 : Heap) (locs1 : List Loc), zW A cy D h' H1 → va_S A s.heap H1 locs1 → W p l e R s m args below meth c H1 locs1 (cells + mc) (slots + ms) Q (F0 m (pc + 3) ls (.int r :: rest))) : W p l e R s m args below meth c H locs cells slots Q (F0 m pc ls st0) := by
  obtain ⟨hx, hb, hts, hown, hK, hml, hN, hA⟩ := id X
  refine va_calli (va_runS (As := As) (rest := rest) (n := n) ⟨hx, hb, hml, hown, hts⟩ hM ⟨zCallB hts hY hl hrc hrs hR, hts _ hV⟩ ⟨zS_blind _ _ _ _ _, fun U hU hw => zPre X hW hS _ U hU hw⟩ rfl hn hsz hst (lv_room hro) hdg hf) hS (fun q _ hq => hq) (fun q hq => hq) (fun r1 u t H1 locs1 ht hvm hp hB hz hk hS1 => ?_)
  obtain ⟨rfl, rfl⟩ := hp
  exact kk H1 locs1 (by rw [← ht]; exact hB) hS1
theorem z_callSl {r : Int64} (X : zX A D cy p s m args c cc own nL) (hW : zW A cy D h H) (hS : va_S A s.heap H locs) (hM : Met l y (Cond.code y bytes maxL ret :: wT) rm (va_Pc As (zS A D cy h)) (va_Ql (fun r1 u => r1 = r ∧ u = h') (zB A D cy) A) mc ms A) (hY : zYb y bytes maxL ret n) (hV : Cond.static y ∈ wT) (hl : Cond.methodLink own index y ∈ wT) (hrc : rm.cells = mc) (hrs : rm.slots = ms) (hR : rm.frames + 1 ≤ R.frames ∧ 8 + (maxL + 11) + rm.locals ≤ R.locals) (hn : As.length = n) (hst : st0 = As.reverse ++ rest) (hro : (rest.map fun v => v.category).sum ≤ 8) (hsz : ls.size = nL) (hdg : decode cc pc = .ok (.invokestatic index, 3)) (hf : cells + mc ≤ R.cells ∧ slots + ms ≤ R.slots)
    (kk : ∀ (H1 : Heap) (locs1 : List Loc), zW A cy D h' H1 → va_S A s.heap H1 locs1 → W p l e R s m args below meth c H1 locs1 (cells + mc) (slots + ms) Q (F0 m (pc + 3) ls (.long r :: rest))) : W p l e R s m args below meth c H locs cells slots Q (F0 m pc ls st0) := by
  obtain ⟨hx, hb, hts, hown, hK, hml, hN, hA⟩ := id X
  refine va_calll (va_runS (As := As) (rest := rest) (n := n) ⟨hx, hb, hml, hown, hts⟩ hM ⟨zCallB hts hY hl hrc hrs hR, hts _ hV⟩ ⟨zS_blind _ _ _ _ _, fun U hU hw => zPre X hW hS _ U hU hw⟩ rfl hn hsz hst (lv_room hro) hdg hf) hS (fun q _ hq => hq) (fun q hq => hq) (fun r1 u t H1 locs1 ht hvm hp hB hz hk hS1 => ?_)
  obtain ⟨rfl, rfl⟩ := hp
  exact kk H1 locs1 (by rw [← ht]; exact hB) hS1
theorem z_callSq {r : Option Nat} (X : zX A D cy p s m args c cc own nL) (hW : zW A cy D h H) (hS : va_S A s.heap H locs) (hM : Met l y (Cond.code y bytes maxL ret :: wT) rm (va_Pc As (zS A D cy h)) (va_Qq (fun r1 u => r1 = r ∧ u = h') (zB A D cy) A) mc ms A) (hY : zYb y bytes maxL ret n) (hV : Cond.static y ∈ wT) (hl : Cond.methodLink own index y ∈ wT) (hrc : rm.cells = mc) (hrs : rm.slots = ms) (hR : rm.frames + 1 ≤ R.frames ∧ 8 + (maxL + 11) + rm.locals ≤ R.locals) (hn : As.length = n) (hst : st0 = As.reverse ++ rest) (hro : (rest.map fun v => v.category).sum ≤ 8) (hsz : ls.size = nL) (hdg : decode cc pc = .ok (.invokestatic index, 3)) (hf : cells + mc ≤ R.cells ∧ slots + ms ≤ R.slots)
    (kk : ∀ (H1 : Heap) (locs1 : List Loc), zW A cy D h' H1 → va_S A s.heap H1 locs1 → W p l e R s m args below meth c H1 locs1 (cells + mc) (slots + ms) Q (F0 m (pc + 3) ls (va_rf r :: rest))) : W p l e R s m args below meth c H locs cells slots Q (F0 m pc ls st0) := by
  obtain ⟨hx, hb, hts, hown, hK, hml, hN, hA⟩ := id X
  refine va_callq (va_runS (As := As) (rest := rest) (n := n) ⟨hx, hb, hml, hown, hts⟩ hM ⟨zCallB hts hY hl hrc hrs hR, hts _ hV⟩ ⟨zS_blind _ _ _ _ _, fun U hU hw => zPre X hW hS _ U hU hw⟩ rfl hn hsz hst (lv_room hro) hdg hf) hS (fun q _ hq => hq) (fun q hq => hq) (fun r1 u t H1 locs1 ht hvm hp hB hz hk hS1 => ?_)
  obtain ⟨rfl, rfl⟩ := hp
  exact kk H1 locs1 (by rw [← ht]; exact hB) hS1
theorem z_callSv (X : zX A D cy p s m args c cc own nL) (hW : zW A cy D h H) (hS : va_S A s.heap H locs) (hM : Met l y (Cond.code y bytes maxL ret :: wT) rm (va_Pc As (zS A D cy h)) (va_Qv (fun u => u = h') (zB A D cy) A) mc ms A) (hY : zYb y bytes maxL ret n) (hV : Cond.static y ∈ wT) (hl : Cond.methodLink own index y ∈ wT) (hrc : rm.cells = mc) (hrs : rm.slots = ms) (hR : rm.frames + 1 ≤ R.frames ∧ 8 + (maxL + 11) + rm.locals ≤ R.locals) (hn : As.length = n) (hst : st0 = As.reverse ++ rest) (hro : (rest.map fun v => v.category).sum ≤ 8) (hsz : ls.size = nL) (hdg : decode cc pc = .ok (.invokestatic index, 3)) (hf : cells + mc ≤ R.cells ∧ slots + ms ≤ R.slots)
    (kk : ∀ (H1 : Heap) (locs1 : List Loc), zW A cy D h' H1 → va_S A s.heap H1 locs1 → W p l e R s m args below meth c H1 locs1 (cells + mc) (slots + ms) Q (F0 m (pc + 3) ls (rest))) : W p l e R s m args below meth c H locs cells slots Q (F0 m pc ls st0) := by
  obtain ⟨hx, hb, hts, hown, hK, hml, hN, hA⟩ := id X
  refine va_callv (va_runS (As := As) (rest := rest) (n := n) ⟨hx, hb, hml, hown, hts⟩ hM ⟨zCallB hts hY hl hrc hrs hR, hts _ hV⟩ ⟨zS_blind _ _ _ _ _, fun U hU hw => zPre X hW hS _ U hU hw⟩ rfl hn hsz hst (lv_room hro) hdg hf) hS (fun q _ hq => hq) (fun q hq => hq) (fun u t H1 locs1 ht hvm hp hB hz hk hS1 => ?_)
  subst hp
  exact kk H1 locs1 (by rw [← ht]; exact hB) hS1
theorem z_callIv {b : Nat} (X : zX A D cy p s m args c cc own nL) (hW : zW A cy D h H) (hS : va_S A s.heap H locs) (hM : Met l y (Cond.code y bytes maxL none :: wT) rm (va_Pc (.ref b :: As) (zS A D cy h)) (va_Qv (fun u => u = h') (zB A D cy) A) mc ms A) (hY : zYb y bytes maxL none n) (hV : Cond.instanceMethod y ∈ wT) (hnm : y.name = "<init>") (hl : Cond.methodLink own index y ∈ wT) (hrc : rm.cells = mc) (hrs : rm.slots = ms) (hR : rm.frames + 1 ≤ R.frames ∧ 8 + (maxL + 11) + rm.locals ≤ R.locals) (hn : As.length = n) (hst : st0 = As.reverse ++ .ref b :: rest) (hro : (rest.map fun v => v.category).sum ≤ 8) (hsz : ls.size = nL) (hdg : decode cc pc = .ok (.invokespecial index, 3)) (hf : cells + mc ≤ R.cells ∧ slots + ms ≤ R.slots)
    (kk : ∀ (H1 : Heap) (locs1 : List Loc), zW A cy D h' H1 → va_S A s.heap H1 locs1 → W p l e R s m args below meth c H1 locs1 (cells + mc) (slots + ms) Q (F0 m (pc + 3) ls (rest))) : W p l e R s m args below meth c H locs cells slots Q (F0 m pc ls st0) := by
  obtain ⟨hx, hb, hts, hown, hK, hml, hN, hA⟩ := id X
  refine va_callv (va_runI (As := As) (rest := rest) (n := n) ⟨hx, hb, hml, hown, hts⟩ hM ⟨zCallB hts hY hl hrc hrs hR, hnm, hts _ hV⟩ ⟨zS_blind _ _ _ _ _, fun U hU hw => zPre X hW hS _ U hU hw⟩ rfl hn hsz hst (lv_room hro) hdg hf) hS (fun q _ hq => hq) (fun q hq => hq) (fun u t H1 locs1 ht hvm hp hB hz hk hS1 => ?_)
  subst hp
  exact kk H1 locs1 (by rw [← ht]; exact hB) hS1
theorem z_callINv {b : Nat} {host : String} (X : zX A D cy p s m args c cc own nL) (hW : zW A cy D h H) (hS : va_S A s.heap H locs) (hM : Met l y (Cond.code y bytes maxL none :: wT) rm (va_Pc (.ref b :: As) (zS A D cy h)) (va_Qv (fun u => u = h') (zB A D cy) A) mc ms A) (hY : zYb y bytes maxL none n) (hV : Cond.instanceMethod y ∈ wT) (hnm : y.name = "<init>") (hl : va_Nw (.methodLinkNest own index y host) s) (hrc : rm.cells = mc) (hrs : rm.slots = ms) (hR : rm.frames + 1 ≤ R.frames ∧ 8 + (maxL + 11) + rm.locals ≤ R.locals) (hn : As.length = n) (hst : st0 = As.reverse ++ .ref b :: rest) (hro : (rest.map fun v => v.category).sum ≤ 8) (hsz : ls.size = nL) (hdg : decode cc pc = .ok (.invokespecial index, 3)) (hf : cells + mc ≤ R.cells ∧ slots + ms ≤ R.slots)
    (kk : ∀ (H1 : Heap) (locs1 : List Loc), zW A cy D h' H1 → va_S A s.heap H1 locs1 → W p l e R s m args below meth c H1 locs1 (cells + mc) (slots + ms) Q (F0 m (pc + 3) ls (rest))) : W p l e R s m args below meth c H locs cells slots Q (F0 m pc ls st0) := by
  obtain ⟨hx, hb, hts, hown, hK, hml, hN, hA⟩ := id X
  refine va_callv (va_runIN (As := As) (rest := rest) (n := n) ⟨hx, hb, hml, hown, hts⟩ hM ⟨va_cnB n hts (zGood hY) rfl hrc hrs hl (hts _ hY.2.1) hY.2.2 hR, hnm, hts _ hV⟩ ⟨zS_blind _ _ _ _ _, fun U hU hw => zPre X hW hS _ U hU hw⟩ rfl hn hsz hst (lv_room hro) hdg hf) hS (fun q _ hq => hq) (fun q hq => hq) (fun u t H1 locs1 ht hvm hp hB hz hk hS1 => ?_)
  subst hp
  exact kk H1 locs1 (by rw [← ht]; exact hB) hS1
/-- System.arraycopy of longs -/
theorem z_copyL {a0 a : Nat} {sp dp n : Int32} (X : zX A D cy p s m args c cc own nL) (hW : zW A cy D h H) (hS : va_S A s.heap H locs) (hg : cL a0 sp a dp n h = some h') (hsz : ls.size = nL) (h1 : Cond.methodLink own index arraycopyName ∈ wT) (h2 : Cond.native arraycopyName ∈ wT) (h3 : Cond.static arraycopyName ∈ wT) (h4 : Cond.initialized "java/lang/System" ∈ wT) (hframes : 1 ≤ R.frames) (hlocals : (rest.map fun v => v.category).sum + (nativeFrameWords "java/lang/System" "arraycopy" 5 + 11) ≤ R.locals) (hdg : decode cc pc = .ok (.invokestatic index, 3))
    (kk : ∀ (H1 : Heap) (locs1 : List Loc), zW A cy D h' H1 → va_S A s.heap H1 locs1 → W p l e R s m args below meth c H1 locs1 cells slots Q (F0 m (pc + 3) ls rest)) : W p l e R s m args below meth c H locs cells slots Q (F0 m pc ls (.int n :: .int dp :: .ref a :: .int sp :: .ref a0 :: rest)) := by
  obtain ⟨⟨hT0, hT, g1, g2, g3, g4, g5⟩, rfl⟩ := it_v hg
  obtain ⟨hx, hb, hts, hown, hK, hml, hN, hA⟩ := X
  obtain ⟨-, -, k0⟩ := z_arr hW hT0 (by decide) (zE_long hT0)
  obtain ⟨gA, -, k1⟩ := z_arr hW hT (by decide) (zE_long hT)
  have nn : ∀ z : Int32, ¬ z < 0 → z.toInt = (z.toNatClampNeg : Int) := by
    intro z hz
    have hz0 : (0 : Int) ≤ z.toInt := by
      have := Int32.not_lt.mp hz
      simpa using Int32.le_iff_toInt_le.mp this
    show z.toInt = ((z.toInt.toNat : Nat) : Int)
    omega
  intro T hTT X1
  have hc0 : H[a0]? = some (vp_cell (cy 1) (zN h a0, .inr (.inl (zL h a0)))) := k0
  have hc1 : H[a]? = some (vp_cell (cy 1) (zN h a, .inr (.inl (zL h a)))) := k1
  obtain ⟨-, q0, hk0, cm0, hkk0⟩ := (hK.2 1 _ rfl).1 (zN h a0) (fun j => .long (zL h a0 j))
  obtain ⟨-, q1, hk1, cm1, hkk1⟩ := (hK.2 1 _ rfl).1 (zN h a) (fun j => .long (zL h a j))
  obtain ⟨vm', X', step⟩ := X1.arraycopy hx hown (hts _ h1) (hts _ h2) (hts _ h3) (hts _ h4) (src := a0) (dst := a) (cs := vp_cell (cy 1) (zN h a0, .inr (.inl (zL h a0)))) (cd := vp_cell (cy 1) (zN h a, .inr (.inl (zL h a)))) (srcPos := sp) (destPos := dp) (n := n) (by rw [hTT]; exact hc0) (by rw [hTT]; exact hc1)
    (fun _ h => by cases h) (fun _ h => by cases h) (fun h => by cases h) (fun h => by cases h) hk0 hk1 hkk0 hkk1 (by simp [refKind]) g1 g2 g3
    (by rw [nn sp g1, nn n g3]; show ¬ _ > ((arrV (cy 1) (zN h a0) (fun j => .long (zL h a0 j))).slots.size : Int); rw [arrV_size]; omega)
    (by rw [nn dp g2, nn n g3]; show ¬ _ > ((arrV (cy 1) (zN h a) (fun j => .long (zL h a j))).slots.size : Int); rw [arrV_size]; omega)
    (fun vm₁ _ i hi => by
      have e : (vp_cell (cy 1) (zN h a0, .inr (.inl (zL h a0)))).slots.getD (sp.toNatClampNeg + i) .null = .long (zL h a0 (sp.toNatClampNeg + i)) := by
        show (arrV (cy 1) (zN h a0) (fun j => .long (zL h a0 j))).slots.getD _ _ = _
        rw [Array.getD_eq_getD_getElem?, arrV_read _ _ (by omega)]
        rfl
      refine ⟨?_, ?_⟩
      · rw [e]
        rfl
      · rw [e]
        exact trivial)
    (g := F0 m pc ls (.int n :: .int dp :: .ref a :: .int sp :: .ref a0 :: rest)) rfl (by rw [hml, ← hsz]) (rest := rest) rfl (by rw [hb]; exact hdg) hframes (by show 2 * 0 + _ + _ ≤ _; omega)
  have e1 : copied (vp_cell (cy 1) (zN h a0, .inr (.inl (zL h a0)))) (vp_cell (cy 1) (zN h a, .inr (.inl (zL h a)))) sp dp n = vp_cell (cy 1) (zN h a, .inr (.inl (va_cpy (zL h a0) (zL h a) sp.toNatClampNeg dp.toNatClampNeg n.toNatClampNeg))) := va_copied (fun z => .long z) (cy 1) (cy 1) (zL h a0) (zL h a) g4
  rw [e1] at X' step
  have hl : a < H.size := (Array.getElem?_eq_some_iff.mp hc1).1
  have hheap : ((T.setVm vm').setCell a (vp_cell (cy 1) (zN h a, .inr (.inl (va_cpy (zL h a0) (zL h a) sp.toNatClampNeg dp.toNatClampNeg n.toNatClampNeg))))).heap = H.setIfInBounds a (vp_cell (cy 1) (zN h a, .inr (.inl (va_cpy (zL h a0) (zL h a) sp.toNatClampNeg dp.toNatClampNeg n.toNatClampNeg)))) := by rw [← hTT]; rfl
  generalize hv : va_cpy (zL h a0) (zL h a) sp.toNatClampNeg dp.toNatClampNeg n.toNatClampNeg = cv at *
  have oq : ∀ q : Nat, q ≠ a → (H.setIfInBounds a (vp_cell (cy 1) (zN h a, .inr (.inl cv))))[q]? = H[q]? := fun q hq => by simp [Array.getElem?_setIfInBounds, Ne.symm hq]
  have ho : zOff a h (h.1, va_up h.2.1 a cv, h.2.2) := ⟨rfl, fun b hb => ⟨rfl, va_up_ne _ _ hb, rfl⟩⟩
  have hE : zE cy (h.1, va_up h.2.1 a cv, h.2.2) a = .inl (cy 1, zN h a, .inr (.inl cv)) := by
    have hT2 : zT (h.1, va_up h.2.1 a cv, h.2.2) a = 13 := hT
    rw [zE_long hT2]
    show (Sum.inl (cy 1, zN h a, Sum.inr (Sum.inl (va_up h.2.1 a cv a))) : va_E) = _
    rw [va_up_self]
  obtain ⟨t, a1, b1⟩ := kk _ _ (zW_upd hW ho (by simp) oq (by rw [hE]; show (H.setIfInBounds a _)[a]? = some _; simp [Array.getElem?_setIfInBounds, hl])) ⟨by simp; exact hS.1, fun q g1 g2 => by
      rw [oq q (fun e => g2 (by rw [e]; exact gA))]
      exact hS.2.1 q g1 g2, fun q hq => by
      rcases List.mem_append.mp hq with h | h
      · exact hS.2.2 q h
      · obtain ⟨z, -, hz⟩ := List.mem_map.mp h
        rw [← hz]
        exact gA⟩ _ hheap X'
  exact ⟨t, step t a1, b1⟩
end ZR4
