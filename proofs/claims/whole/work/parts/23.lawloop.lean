/-- no cell of a kind, the heap's end at k -/
def zE0 (k : Nat) : Hz := (fun _ _ => 0, fun _ _ => 0, fun _ _ => none, fun _ => 99, fun _ => 0, k)
/-- what is left to show of class and reference, as functions: from their constructors on they answer alike -/
def zGoal (b0 : Nat) : Prop := ∃ (x y : Hz) (J : zJ), fX10_init b0 (znew 10 0 (zE0 b0)) = some ((), x) ∧ b0 < zs x ∧ fX11_init (zs x) (znew 11 0 (zE0 (zs x))) = some ((), y) ∧ J 0 (zz (zs y) x) y ∧ zAll J b0 (zs x) ∧ (∀ n x y k, J n x y → J n x (zz k y)) ∧ (∀ n u v, J n u v → zT u b0 = 10 ∧ zT v (zs x) = 11) ∧ (∀ n x y, J n x y → J (n + 1) x y)
section ZL2
variable {p : Program} {l : Launch} {e : Env} {s : State} {m : MethodId} {below : List Frame} {meth : Method} {c : Code} {b L : Nat} {xs : Nat → Int32}
variable {H : Heap} {locs : List Loc} {cells slots : Nat} {Q : State → Prop} {pc : Nat} {ls : Array Slot} {rest st0 : List Value} {D : va_G} {cy : Nat → ClassId} {h h' : Hz}
variable {y : MethodName} {bytes : ByteArray} {maxL mc ms n index : Nat} {ret : Option FieldType} {rm : Room} {As : List Value}
theorem y_in {n k L : Nat} (hL : L ≤ 3072) (h : 6 * n + 6 ≤ L) (hk : k < 6) : vp_in (nI (6 * n) + nI k) L := by
  rw [nI_add]
  exact vp_in_nI (by omega) (by omega)
theorem y_in6 {n L : Nat} {i3 : Int32} (hL : L ≤ 3072) (h : 6 * n + 6 ≤ L) (hi : i3 = nI (6 * n)) (k : Int32) (hk : k ∈ ([0, 1, 2, 3, 4, 5] : List Int32)) : vp_in (i3 + k) L := by
  subst hi
  simp only [List.mem_cons, List.not_mem_nil, or_false] at hk
  rcases hk with rfl | rfl | rfl | rfl | rfl | rfl
  · exact y_in (k := 0) hL h (by omega)
  · exact y_in (k := 1) hL h (by omega)
  · exact y_in (k := 2) hL h (by omega)
  · exact y_in (k := 3) hL h (by omega)
  · exact y_in (k := 4) hL h (by omega)
  · exact y_in (k := 5) hL h (by omega)
theorem y_lt {n L : Nat} {i3 : Int32} (hL : L ≤ 3072) (hn : n ≤ 512) (hi : i3 = nI (6 * n)) : (Int32.ofNat L - 6 < i3) ↔ ¬ 6 * n + 6 ≤ L := by
  subst hi
  have e1 : (nI L - nI 6).toInt = (L : Int) - 6 := pk_sub_toInt (by omega) (by omega)
  have e2 : (nI (6 * n)).toInt = ((6 * n : Nat) : Int) := nI_toInt (by omega)
  show (nI L - nI 6 < nI (6 * n)) ↔ _
  rw [Int32.lt_iff_toInt_lt, e1, e2]
  omega
set_option maxHeartbeats 4000000 in
set_option maxRecDepth 100000 in
/-- one round of the law's loop, from its switch on -/
theorem law_switch {J : zJ} {o q e9 n : Nat} {x y : Hz} {i3 v : Int32} (hJ : zAll J o q) (hz : ∀ n x y k, J n x y → J n x (zz k y)) (hT : ∀ n x y, J (n + 1) x y → zT x o = 10 ∧ zT y q = 11) (hup : ∀ n x y, J n x y → J (n + 1) x y) (C : zLx D cy p s m meth c b L xs) (hn : n < 512) (hin : ∀ k : Int32, k ∈ ([0, 1, 2, 3, 4, 5] : List Int32) → vp_in (i3 + k) L) (h2 : zTwo J D cy s.heap.size o q e9 n x y H) (hS : va_S (fun q => s.heap.size ≤ q) s.heap H locs) (hl : lv_has ls 4 [(0, .ref b), (1, .ref o), (2, .ref q), (3, .int i3)])
    (kk : ∀ (H1 : Heap) (locs1 : List Loc) (x1 y1 : Hz), zTwo J D cy s.heap.size o q e9 (n + 1) x1 y1 H1 → va_S (fun q => s.heap.size ≤ q) s.heap H1 locs1 → W p l e room_1 s m #[Value.ref b] below meth c H1 locs1 (69 + 701 * (n + 1)) (147138 + 7010 * (n + 1)) Q (F0 m 1017 ls [])) : W p l e room_1 s m #[Value.ref b] below meth c H locs (69 + 701 * n) (147138 + 7010 * n) Q (F0 m 33 ls [.int v]) := by
  obtain ⟨⟨hx, hb, hr, hml, hown, hts0, hX, hbl, hlocks, hgv⟩, hts, hK, hN⟩ := id C
  by_cases c0 : v = 0
  · refine lv_tableIn (off := 111) (tgt := 144) hx hb dL_law_33 (by rw [c0]; decide) (by rw [c0]; decide) (by rw [c0]; rfl) (by decide) ?_
    exact yc_0 rfl hJ hz hT C hn hin h2 hS hl (Nat.le_refl _) (Nat.le_refl _) kk
  by_cases c1 : v = 1
  · refine lv_tableIn (off := 144) (tgt := 177) hx hb dL_law_33 (by rw [c1]; decide) (by rw [c1]; decide) (by rw [c1]; rfl) (by decide) ?_
    exact yc_1 rfl hJ hz hT C hn hin h2 hS hl (Nat.le_refl _) (Nat.le_refl _) kk
  by_cases c2 : v = 2
  · refine lv_tableIn (off := 187) (tgt := 220) hx hb dL_law_33 (by rw [c2]; decide) (by rw [c2]; decide) (by rw [c2]; rfl) (by decide) ?_
    exact yc_2 rfl hJ hz hT C hn hin h2 hS hl (Nat.le_refl _) (Nat.le_refl _) kk
  by_cases c3 : v = 3
  · refine lv_tableIn (off := 230) (tgt := 263) hx hb dL_law_33 (by rw [c3]; decide) (by rw [c3]; decide) (by rw [c3]; rfl) (by decide) ?_
    exact yc_3 rfl hJ hz hT C hn hin h2 hS hl (Nat.le_refl _) (Nat.le_refl _) kk
  by_cases c4 : v = 4
  · refine lv_tableIn (off := 273) (tgt := 306) hx hb dL_law_33 (by rw [c4]; decide) (by rw [c4]; decide) (by rw [c4]; rfl) (by decide) ?_
    exact yc_4 rfl hJ hz hT C hn hin h2 hS hl (Nat.le_refl _) (Nat.le_refl _) kk
  by_cases c5 : v = 5
  · refine lv_tableIn (off := 306) (tgt := 339) hx hb dL_law_33 (by rw [c5]; decide) (by rw [c5]; decide) (by rw [c5]; rfl) (by decide) ?_
    exact yc_5 rfl hJ hz hT C hn hin h2 hS hl (Nat.le_refl _) (Nat.le_refl _) kk
  by_cases c6 : v = 6
  · refine lv_tableIn (off := 359) (tgt := 392) hx hb dL_law_33 (by rw [c6]; decide) (by rw [c6]; decide) (by rw [c6]; rfl) (by decide) ?_
    exact yc_6 rfl hJ hz hT C hn hin h2 hS hl (Nat.le_refl _) (Nat.le_refl _) kk
  by_cases c7 : v = 7
  · refine lv_tableIn (off := 442) (tgt := 475) hx hb dL_law_33 (by rw [c7]; decide) (by rw [c7]; decide) (by rw [c7]; rfl) (by decide) ?_
    exact yc_7 rfl hJ hz hT C hn hin h2 hS hl (Nat.le_refl _) (Nat.le_refl _) kk
  by_cases c8 : v = 8
  · refine lv_tableIn (off := 505) (tgt := 538) hx hb dL_law_33 (by rw [c8]; decide) (by rw [c8]; decide) (by rw [c8]; rfl) (by decide) ?_
    exact yc_8 rfl hJ hz hT C hn hin h2 hS hl (Nat.le_refl _) (Nat.le_refl _) kk
  by_cases c9 : v = 9
  · refine lv_tableIn (off := 549) (tgt := 582) hx hb dL_law_33 (by rw [c9]; decide) (by rw [c9]; decide) (by rw [c9]; rfl) (by decide) ?_
    exact yc_9 rfl hJ hz hT C hn hin h2 hS hl (Nat.le_refl _) (Nat.le_refl _) kk
  by_cases c10 : v = 10
  · refine lv_tableIn (off := 582) (tgt := 615) hx hb dL_law_33 (by rw [c10]; decide) (by rw [c10]; decide) (by rw [c10]; rfl) (by decide) ?_
    exact yc_10 rfl hJ hz hT C hn hin h2 hS hl (Nat.le_refl _) (Nat.le_refl _) kk
  by_cases c11 : v = 11
  · refine lv_tableIn (off := 615) (tgt := 648) hx hb dL_law_33 (by rw [c11]; decide) (by rw [c11]; decide) (by rw [c11]; rfl) (by decide) ?_
    exact yc_11 rfl hJ hz hT C hn hin h2 hS hl (Nat.le_refl _) (Nat.le_refl _) kk
  by_cases c12 : v = 12
  · refine lv_tableIn (off := 648) (tgt := 681) hx hb dL_law_33 (by rw [c12]; decide) (by rw [c12]; decide) (by rw [c12]; rfl) (by decide) ?_
    exact yc_12 rfl hJ hz hT C hn hin h2 hS hl (Nat.le_refl _) (Nat.le_refl _) kk
  by_cases c13 : v = 13
  · refine lv_tableIn (off := 691) (tgt := 724) hx hb dL_law_33 (by rw [c13]; decide) (by rw [c13]; decide) (by rw [c13]; rfl) (by decide) ?_
    exact yc_13 rfl hJ hz hT C hn hin h2 hS hl (Nat.le_refl _) (Nat.le_refl _) kk
  by_cases c14 : v = 14
  · refine lv_tableIn (off := 714) (tgt := 747) hx hb dL_law_33 (by rw [c14]; decide) (by rw [c14]; decide) (by rw [c14]; rfl) (by decide) ?_
    exact yc_14 rfl hJ hz hT C hn hin h2 hS hl (Nat.le_refl _) (Nat.le_refl _) kk
  by_cases c15 : v = 15
  · refine lv_tableIn (off := 747) (tgt := 780) hx hb dL_law_33 (by rw [c15]; decide) (by rw [c15]; decide) (by rw [c15]; rfl) (by decide) ?_
    exact yc_15 rfl hJ hz hT C hn hin h2 hS hl (Nat.le_refl _) (Nat.le_refl _) kk
  by_cases c16 : v = 16
  · refine lv_tableIn (off := 770) (tgt := 803) hx hb dL_law_33 (by rw [c16]; decide) (by rw [c16]; decide) (by rw [c16]; rfl) (by decide) ?_
    exact yc_16 rfl hJ hz hT C hn hin h2 hS hl (Nat.le_refl _) (Nat.le_refl _) kk
  by_cases c17 : v = 17
  · refine lv_tableIn (off := 793) (tgt := 826) hx hb dL_law_33 (by rw [c17]; decide) (by rw [c17]; decide) (by rw [c17]; rfl) (by decide) ?_
    exact yc_17 rfl hJ hz hT C hn hin h2 hS hl (Nat.le_refl _) (Nat.le_refl _) kk
  by_cases c18 : v = 18
  · refine lv_tableIn (off := 816) (tgt := 849) hx hb dL_law_33 (by rw [c18]; decide) (by rw [c18]; decide) (by rw [c18]; rfl) (by decide) ?_
    exact yc_18 rfl hJ hz hT C hn hin h2 hS hl (Nat.le_refl _) (Nat.le_refl _) kk
  by_cases c19 : v = 19
  · refine lv_tableIn (off := 849) (tgt := 882) hx hb dL_law_33 (by rw [c19]; decide) (by rw [c19]; decide) (by rw [c19]; rfl) (by decide) ?_
    exact yc_19 rfl hJ hz hT C hn hin h2 hS hl (Nat.le_refl _) (Nat.le_refl _) kk
  by_cases c20 : v = 20
  · refine lv_tableIn (off := 872) (tgt := 905) hx hb dL_law_33 (by rw [c20]; decide) (by rw [c20]; decide) (by rw [c20]; rfl) (by decide) ?_
    exact yc_20 rfl hJ hz hT C hn hin h2 hS hl (Nat.le_refl _) (Nat.le_refl _) kk
  by_cases c21 : v = 21
  · refine lv_tableIn (off := 905) (tgt := 938) hx hb dL_law_33 (by rw [c21]; decide) (by rw [c21]; decide) (by rw [c21]; rfl) (by decide) ?_
    exact yc_21 rfl hJ hz hT C hn hin h2 hS hl (Nat.le_refl _) (Nat.le_refl _) kk
  by_cases c22 : v = 22
  · refine lv_tableIn (off := 928) (tgt := 961) hx hb dL_law_33 (by rw [c22]; decide) (by rw [c22]; decide) (by rw [c22]; rfl) (by decide) ?_
    exact yc_22 rfl hJ hz hT C hn hin h2 hS hl (Nat.le_refl _) (Nat.le_refl _) kk
  by_cases c23 : v = 23
  · refine lv_tableIn (off := 961) (tgt := 994) hx hb dL_law_33 (by rw [c23]; decide) (by rw [c23]; decide) (by rw [c23]; rfl) (by decide) ?_
    exact yc_23 rfl hJ hz hT C hn hin h2 hS hl (Nat.le_refl _) (Nat.le_refl _) kk
  have n0 := lv_neT c0 (a := 0) rfl
  have n1 := lv_neT c1 (a := 1) rfl
  have n2 := lv_neT c2 (a := 2) rfl
  have n3 := lv_neT c3 (a := 3) rfl
  have n4 := lv_neT c4 (a := 4) rfl
  have n5 := lv_neT c5 (a := 5) rfl
  have n6 := lv_neT c6 (a := 6) rfl
  have n7 := lv_neT c7 (a := 7) rfl
  have n8 := lv_neT c8 (a := 8) rfl
  have n9 := lv_neT c9 (a := 9) rfl
  have n10 := lv_neT c10 (a := 10) rfl
  have n11 := lv_neT c11 (a := 11) rfl
  have n12 := lv_neT c12 (a := 12) rfl
  have n13 := lv_neT c13 (a := 13) rfl
  have n14 := lv_neT c14 (a := 14) rfl
  have n15 := lv_neT c15 (a := 15) rfl
  have n16 := lv_neT c16 (a := 16) rfl
  have n17 := lv_neT c17 (a := 17) rfl
  have n18 := lv_neT c18 (a := 18) rfl
  have n19 := lv_neT c19 (a := 19) rfl
  have n20 := lv_neT c20 (a := 20) rfl
  have n21 := lv_neT c21 (a := 21) rfl
  have n22 := lv_neT c22 (a := 22) rfl
  have n23 := lv_neT c23 (a := 23) rfl
  refine lv_tableOut (tgt := 1017) hx hb dL_law_33 (by omega) (by decide) ?_
  refine W.widen (k := 69 + 701 * (n + 1)) (n := 147138 + 7010 * (n + 1)) (by omega) (by omega) ?_
  obtain ⟨h1, h3, h4, h5, h6, h7, h8⟩ := h2
  exact kk H locs x y ⟨h1, h3, hup n x y h4, h5, h6, h7, h8⟩ hS
set_option maxHeartbeats 4000000 in
set_option maxRecDepth 100000 in
theorem law_loop {J : zJ} {o q e9 : Nat} (hJ : zAll J o q) (hz : ∀ n x y k, J n x y → J n x (zz k y)) (hT : ∀ n x y, J (n + 1) x y → zT x o = 10 ∧ zT y q = 11) (hup : ∀ n x y, J n x y → J (n + 1) x y) (C : zLx D cy p s m meth c b L xs) (hL : L ≤ 3072) : ∀ (k n : Nat) (_ : n + k = 512) (i3 : Int32) (_ : i3 = nI (6 * n)) (x y : Hz) (H : Heap) (locs : List Loc) (ls : Array Slot), zTwo J D cy s.heap.size o q e9 n x y H → va_S (fun q => s.heap.size ≤ q) s.heap H locs → lv_has ls 4 [(0, .ref b), (1, .ref o), (2, .ref q), (3, .int i3)] → W p l e room_1 s m #[Value.ref b] below meth c H locs (69 + 701 * n) (147138 + 7010 * n) (lw_Z below #[Value.ref b] s) (F0 m 18 ls []) := by
  obtain ⟨⟨hx, hb, hr, hml, hown, hts0, hX, hbl, hlocks, hgv⟩, hts, hK, hN⟩ := id C
  have hbA : ¬ (fun q : Nat => s.heap.size ≤ q) b := Nat.not_le.mpr hbl
  intro k
  induction k with
  | zero =>
    intro n hkn i3 hi x y H locs ls h2 hS hl
    have hn : n = 512 := by omega
    refine lv_iload_n hx hb dL_law_18 rfl (lv_at hl 3 rfl) ?_
    refine lv_aload_n hx hb dL_law_19 rfl (lv_at hl 0 rfl) ?_
    refine va_slen hx hb hX hbl hbA hS dL_law_20 ?_
    refine lv_bipush (v := 6) hx hb dL_law_21 (by decide) ?_
    refine lv_isub hx hb dL_law_23 ?_
    refine lv_icmp_gt (tgt := 1023) hx hb dL_law_24 (by decide) (fun c1 => ?_) (fun c1 => ?_)
    · refine lv_iconst (v := 1) hx hb dL_law_1023 (by decide) ?_
      refine va_forget (fun q hq => hS.2.2 q hq) ?_
      refine W.widen (k := 600000) (n := 7302250) (by omega) (by omega) ?_
      exact lw_ret hx hb hr hlocks dL_law_1024
    · exact absurd ((y_lt hL (by omega) hi).mpr (by omega)) c1
  | succ k ih =>
    intro n hkn i3 hi x y H locs ls h2 hS hl
    refine lv_iload_n hx hb dL_law_18 rfl (lv_at hl 3 rfl) ?_
    refine lv_aload_n hx hb dL_law_19 rfl (lv_at hl 0 rfl) ?_
    refine va_slen hx hb hX hbl hbA hS dL_law_20 ?_
    refine lv_bipush (v := 6) hx hb dL_law_21 (by decide) ?_
    refine lv_isub hx hb dL_law_23 ?_
    refine lv_icmp_gt (tgt := 1023) hx hb dL_law_24 (by decide) (fun c1 => ?_) (fun c1 => ?_)
    · refine lv_iconst (v := 1) hx hb dL_law_1023 (by decide) ?_
      refine va_forget (fun q hq => hS.2.2 q hq) ?_
      refine W.widen (k := 600000) (n := 7302250) (by omega) (by omega) ?_
      exact lw_ret hx hb hr hlocks dL_law_1024
    · have hle : 6 * n + 6 ≤ L := Decidable.byContradiction fun h9 => c1 ((y_lt hL (by omega) hi).mpr h9)
      have hin := y_in6 hL hle hi
      have hin0 : vp_in i3 L := by
        have h0 := hin 0 (by decide)
        rwa [Int32.add_zero] at h0
      refine lv_aload_n hx hb dL_law_27 rfl (lv_at hl 0 rfl) ?_
      refine lv_iload_n hx hb dL_law_28 rfl (lv_at hl 3 rfl) ?_
      refine va_sld hx hb hX hbl hbA hS hin0 dL_law_29 ?_
      refine lv_bipush (v := 31) hx hb dL_law_30 (by decide) ?_
      refine lv_iand hx hb dL_law_32 ?_
      refine law_switch hJ hz hT hup C (by omega) hin h2 hS hl (fun H1 locs1 x1 y1 h3 hS1 => ?_)
      refine lv_iinc (v := i3 + 6) (lv' := [(3, .int (i3 + 6)), (0, .ref b), (1, .ref o), (2, .ref q)]) hx hb dL_law_1017 hl (k := 3) rfl rfl (by decide) rfl (fun ls hl => ?_)
      refine lv_goto (tgt := 18) hx hb dL_law_1020 (by decide) ?_
      exact ih (n + 1) (by omega) (i3 + 6) (by rw [hi]; exact (nI_add (6 * n) 6).trans (by rw [show 6 * n + 6 = 6 * (n + 1) by omega])) x1 y1 H1 locs1 ls h3 hS1 (lv_sub hl [1, 2, 3, 0] rfl)
/-- a constructor's call and a new object, with what stays -/
theorem y_callI {v : Nat} {A1 : Nat → Prop} (C : zLx D cy p s m meth c b L xs) (hW : zW A1 cy D h H) (hS : va_S (fun q => s.heap.size ≤ q) s.heap H locs) (hA1 : ∀ q : Nat, H.size ≤ q → A1 q) (hA0 : ∀ q : Nat, A1 q → s.heap.size ≤ q)
    (hM : Met l y (Cond.code y bytes maxL none :: wT) rm (va_Pc (.ref v :: As) (zS A1 D cy h)) (va_Qv (fun u => u = h') (zB A1 D cy) A1) mc ms A1) (hY : zYb y bytes maxL none n) (hV : Cond.instanceMethod y ∈ wT) (hnm : y.name = "<init>") (hl : Cond.methodLink RL index y ∈ wT) (hrc : rm.cells = mc) (hrs : rm.slots = ms) (hR : rm.frames + 1 ≤ room_1.frames ∧ 8 + (maxL + 11) + rm.locals ≤ room_1.locals) (hn : As.length = n) (hst : st0 = As.reverse ++ .ref v :: rest) (hro : (rest.map fun v => v.category).sum ≤ 8) (hsz : ls.size = 4) (hdg : decode code pc = .ok (.invokespecial index, 3)) (hf : cells + mc ≤ room_1.cells ∧ slots + ms ≤ room_1.slots)
    (kk : ∀ (H1 : Heap) (locs1 : List Loc), zW A1 cy D h' H1 → va_S (fun q => s.heap.size ≤ q) s.heap H1 locs1 → H.size ≤ H1.size → (∀ q : Nat, q < H.size → ¬ A1 q → H1[q]? = H[q]?) → W p l e room_1 s m #[Value.ref b] below meth c H1 locs1 (cells + mc) (slots + ms) Q (F0 m (pc + 3) ls rest)) : W p l e room_1 s m #[Value.ref b] below meth c H locs cells slots Q (F0 m pc ls st0) := by
  obtain ⟨⟨hx, hb, hr, hml, hown, hts0, hX, hbl, hlocks, hgv⟩, hts, hK, hN⟩ := id C
  refine va_callv (va_runI (As := As) (rest := rest) (n := n) ⟨hx, hb, hml, hown, hts⟩ hM ⟨zCallB hts hY hl hrc hrs hR, hnm, hts _ hV⟩ ⟨zS_blind _ _ _ _ _, fun U hU hw => y_pre C hW hA1 _ U hU hw⟩ rfl hn hsz hst (lv_room hro) hdg hf) hS (fun q _ hq => hA0 q hq) (fun q hq => hA0 q hq) (fun u t H1 locs1 ht hvm hp hB hz hk hS1 => ?_)
  subst hp
  exact kk H1 locs1 (by rw [← ht]; exact hB) hS1 hz hk
theorem y_new {ci N : Nat} {C0 : String} {T : u_T} {ty : Nat → FieldType} (C : zLx D cy p s m meth c b L xs) (hS : va_S (fun q => s.heap.size ≤ q) s.heap H locs) (hC : zC ci C0 T N ty) (hd : ∀ k, k < nF ci → defaultValue (ty k) = if isR ci k = true then .null else .int 0) (h1 : Cond.classLink RL index C0 ∈ wT) (h2 : Cond.instantiable C0 N ∈ wT) (h3 : Cond.initialized C0 ∈ wT) (hdg : decode code pc = .ok (.new index, 3)) (hcells : cells + 1 ≤ room_1.cells) (hslots : slots + N ≤ room_1.slots)
    (kk : ∀ (H1 : Heap), zW (fun q => H.size ≤ q) cy D (znew ci 0 (zE0 H.size)) H1 → va_S (fun q => s.heap.size ≤ q) s.heap H1 locs → H1.size = H.size + 1 → (∀ q : Nat, q < H.size → H1[q]? = H[q]?) → W p l e room_1 s m #[Value.ref b] below meth c H1 locs (cells + 1) (slots + N) Q (F0 m (pc + 3) ls (.ref H.size :: rest))) : W p l e room_1 s m #[Value.ref b] below meth c H locs cells slots Q (F0 m pc ls rest) := by
  obtain ⟨⟨hx, hb, hr, hml, hown, hts0, hX, hbl, hlocks, hgv⟩, hts, hK, hN⟩ := id C
  obtain ⟨hc, hin, hci, hnF, hty, hnm⟩ := hC
  have hKn := hK.1 ci _ hc
  refine W.newcK hx hb hown (hts _ h1) (hts _ h2) (hts _ h3) rfl hdg hcells hslots hKn.2.1 rfl fun H1 kC hkC e1 z1 o1 => ?_
  have hW0 : zW (fun q => H.size ≤ q) cy D (zE0 H.size) H := ⟨rfl, fun a ha => absurd ha (by show ¬ (99 < 20); decide)⟩
  refine kk H1 (zW_new hW0 (Nat.le_refl _) z1 o1 ?_) ⟨Nat.le_trans hS.1 (by omega), fun x g1 g2 => (o1 x (Nat.lt_of_lt_of_le g1 hS.1)).trans (hS.2.1 x g1 g2), hS.2.2⟩ z1 o1
  have hT : zT (znew ci 0 (zE0 H.size)) (zs (zE0 H.size)) = ci := va_up_self _ _ _
  rw [zE_obj hT hci]
  exact ⟨_, hc, (u_born ty hts hin hKn hkC e1 hty).to (fun j hj => zF_new hd j (by rw [hnF]; exact hj))⟩
end ZL2
