theorem ln_0 : Cond.methodLinkNest RX10 9 yX6_init RX10 ∈ lw_tbl := List.mem_append_right _ (List.mem_append_left _ (List.mem_of_getElem? (i := 25) (by decide +kernel)))
theorem ln_1 : Cond.methodLinkNest RX10 18 yX2_init RX10 ∈ lw_tbl := List.mem_append_right _ (List.mem_append_left _ (List.mem_of_getElem? (i := 40) (by decide +kernel)))
theorem ln_2 : Cond.methodLinkNest RX10 25 yX7_init RX10 ∈ lw_tbl := List.mem_append_right _ (List.mem_append_left _ (List.mem_of_getElem? (i := 55) (by decide +kernel)))
theorem ln_3 : Cond.methodLinkNest RX10 48 yX3_init RX10 ∈ lw_tbl := List.mem_append_right _ (List.mem_append_left _ (List.mem_of_getElem? (i := 72) (by decide +kernel)))
theorem ln_4 : Cond.methodLinkNest RX10 58 yX1_init RX10 ∈ lw_tbl := List.mem_append_right _ (List.mem_append_left _ (List.mem_of_getElem? (i := 91) (by decide +kernel)))
theorem ln_5 : Cond.methodLinkNest RX1 11 yX3_init RX10 ∈ lw_tbl := List.mem_append_right _ (List.mem_append_left _ (List.mem_of_getElem? (i := 96) (by decide +kernel)))
theorem lo_0 : Cond.arrayOver (.object "FarHold$Letter") ∈ lw_tbl := List.mem_append_right _ (List.mem_append_left _ (List.mem_of_getElem? (i := 45) (by decide +kernel)))
theorem lo_1 : Cond.arrayOver (.object "FarHold$Row") ∈ lw_tbl := List.mem_append_right _ (List.mem_append_left _ (List.mem_of_getElem? (i := 182) (by decide +kernel)))
theorem lo_2 : Cond.arrayOver (.object "FarHold$Thing") ∈ lw_tbl := List.mem_append_right _ (List.mem_append_left _ (List.mem_of_getElem? (i := 30) (by decide +kernel)))
theorem lo_3 : Cond.arrayOver (.object "FarHold$WaitingName") ∈ lw_tbl := List.mem_append_right _ (List.mem_append_left _ (List.mem_of_getElem? (i := 60) (by decide +kernel)))
theorem lo_4 : Cond.arrayOver (.object "FarHold$Walk") ∈ lw_tbl := List.mem_append_right _ (List.mem_append_left _ (List.mem_of_getElem? (i := 69) (by decide +kernel)))
theorem wT_tbl {w : Cond} (h : w ∈ wT) : w ∈ lw_tbl := (List.mem_filter.mp h).1
theorem za_prim {args : Array Value} {s : State} {ty : FieldType} (h : (Cond.arrayClass ty).before args s = true) (hty : ∀ C, ty ≠ .object C) : ∃ cA : ClassId, ArrOfT s cA ty ∧ va_RA s cA ty := by
  obtain ⟨cA, kA, comp, hf, hk, hkind⟩ := Cond.arrayClass_spec h
  refine ⟨cA, fun n z => ⟨fun k h => (by cases h), kA, hk, comp, hkind⟩, ?_⟩
  cases ty <;> first | exact hf | exact absurd rfl (hty _)
theorem za_ref {args : Array Value} {s : State} {C : String} (h : (Cond.arrayOver (.object C)).before args s = true) : ∃ cA : ClassId, ArrOfT s cA (.object C) ∧ va_RA s cA (.object C) := by
  obtain ⟨comp, cA, kA, h1, h2, h3, h4, h5⟩ := Cond.arrayOver_spec h
  exact ⟨cA, fun n z => ⟨fun k h => (by cases h), kA, h3, comp, h4⟩, kA, comp, h3, h4, h1, h5⟩
theorem zk_at {args : Array Value} {s : State} (hts : ∀ w ∈ lw_tbl, w.before args s = true) (k : Nat) (q : vw_C) (hq : vwCl[k]? = some q) : ∃ c : ClassId × (Nat → Nat), u_Kn s q.1 q.2.1 q.2.2 c.1 c.2 := by
  have hw : ∀ w ∈ wT, w.before args s = true := fun w h => hts w (wT_tbl h)
  match k, hq with
  | 0, hq => cases hq; obtain ⟨c, iS, h⟩ := u_known (C := RX0) (T := TX0) (N := 10) (n := 10) hw kX0.2.1 (hw _ kn_X0); exact ⟨(c, iS), h⟩
  | 1, hq => cases hq; obtain ⟨c, iS, h⟩ := u_known (C := RX1) (T := TX1) (N := 5) (n := 5) hw kX1.2.1 (hw _ kn_X1); exact ⟨(c, iS), h⟩
  | 2, hq => cases hq; obtain ⟨c, iS, h⟩ := u_known (C := RX2) (T := TX2) (N := 2) (n := 2) hw kX2.2.1 (hw _ kn_X2); exact ⟨(c, iS), h⟩
  | 3, hq => cases hq; obtain ⟨c, iS, h⟩ := u_known (C := RX3) (T := TX3) (N := 3) (n := 3) hw kX3.2.1 (hw _ kn_X3); exact ⟨(c, iS), h⟩
  | 4, hq => cases hq; obtain ⟨c, iS, h⟩ := u_known (C := RX4) (T := TX4) (N := 2) (n := 2) hw kX4.2.1 (hw _ kn_X4); exact ⟨(c, iS), h⟩
  | 5, hq => cases hq; obtain ⟨c, iS, h⟩ := u_known (C := RX5) (T := TX5) (N := 11) (n := 11) hw kX5.2.1 (hw _ kn_X5); exact ⟨(c, iS), h⟩
  | 6, hq => cases hq; obtain ⟨c, iS, h⟩ := u_known (C := RX6) (T := TX6) (N := 2) (n := 2) hw kX6.2.1 (hw _ kn_X6); exact ⟨(c, iS), h⟩
  | 7, hq => cases hq; obtain ⟨c, iS, h⟩ := u_known (C := RX7) (T := TX7) (N := 2) (n := 2) hw kX7.2.1 (hw _ kn_X7); exact ⟨(c, iS), h⟩
  | 8, hq => cases hq; obtain ⟨c, iS, h⟩ := u_known (C := RX8) (T := TX8) (N := 3) (n := 3) hw kX8.2.1 (hw _ kn_X8); exact ⟨(c, iS), h⟩
  | 9, hq => cases hq; obtain ⟨c, iS, h⟩ := u_known (C := RX9) (T := TX9) (N := 11) (n := 11) hw kX9.2.1 (hw _ kn_X9); exact ⟨(c, iS), h⟩
  | 10, hq => cases hq; obtain ⟨c, iS, h⟩ := u_known (C := RX10) (T := TX10) (N := 13) (n := 13) hw kX10.2.1 (hw _ kn_X10); exact ⟨(c, iS), h⟩
  | 11, hq => cases hq; obtain ⟨c, iS, h⟩ := u_known (C := RX11) (T := TX11) (N := 50) (n := 50) hw kX11.2.1 (hw _ kn_X11); exact ⟨(c, iS), h⟩
  | k + 12, hq => simp [vwCl] at hq
theorem zk_all {args : Array Value} {s : State} (hts : ∀ w ∈ lw_tbl, w.before args s = true) : ∃ (D : va_G) (cy : Nat → ClassId), zK D cy s := by
  have hw : ∀ w ∈ wT, w.before args s = true := fun w h => hts w (wT_tbl h)
  have h1 : ∀ k : Nat, ∃ c : ClassId × (Nat → Nat), ∀ q, vwCl[k]? = some q → u_Kn s q.1 q.2.1 q.2.2 c.1 c.2 := by
    intro k
    cases hq : vwCl[k]? with
    | none => exact ⟨(0, fun _ => 0), fun q h => by cases h⟩
    | some q =>
      obtain ⟨c, hc⟩ := zk_at hts k q hq
      exact ⟨c, fun q' h => by cases h; exact hc⟩
  obtain ⟨i0, hi0⟩ := za_prim (hw _ kp_int) (fun C h => by cases h)
  obtain ⟨i1, hi1⟩ := za_prim (hw _ kp_long) (fun C h => by cases h)
  obtain ⟨i2, hi2⟩ := za_prim (hw _ kp_boolean) (fun C h => by cases h)
  obtain ⟨i3, hi3⟩ := za_ref (hts _ lo_0)
  obtain ⟨i4, hi4⟩ := za_ref (hts _ lo_1)
  obtain ⟨i5, hi5⟩ := za_ref (hts _ lo_2)
  obtain ⟨i6, hi6⟩ := za_ref (hts _ lo_3)
  obtain ⟨i7, hi7⟩ := za_ref (hts _ lo_4)
  refine ⟨(fun k => (Classical.choose (h1 k)).1, fun k => (Classical.choose (h1 k)).2), fun k => match k with | 0 => i0 | 1 => i1 | 2 => i2 | 3 => i3 | 4 => i4 | 5 => i5 | 6 => i6 | _ => i7, fun k q hq => Classical.choose_spec (h1 k) q hq, fun k q hq => ?_⟩
  match k, hq with
  | 0, hq => cases hq; exact hi0
  | 1, hq => cases hq; exact hi1
  | 2, hq => cases hq; exact hi2
  | 3, hq => cases hq; exact hi3
  | 4, hq => cases hq; exact hi4
  | 5, hq => cases hq; exact hi5
  | 6, hq => cases hq; exact hi6
  | 7, hq => cases hq; exact hi7
  | k + 8, hq => simp [zty] at hq
theorem zn_all {args : Array Value} {s : State} (hts : ∀ w ∈ lw_tbl, w.before args s = true) : zNest s :=
  ⟨⟨va_Nw.of rfl (hts _ ln_0), va_Nw.of rfl (hts _ ln_1), va_Nw.of rfl (hts _ ln_2), va_Nw.of rfl (hts _ ln_3), va_Nw.of rfl (hts _ ln_4), va_Nw.of rfl (hts _ ln_5)⟩, va_AO.of (hts _ lo_0), va_AO.of (hts _ lo_1), va_AO.of (hts _ lo_2), va_AO.of (hts _ lo_3), va_AO.of (hts _ lo_4)⟩
set_option maxHeartbeats 4000000 in
set_option maxRecDepth 100000 in
/-- the law from its entry, over what is left to show -/
theorem whole_from {p : Program} {e : Env} {s : State} {m : MethodId} {below : List Frame} {meth : Method} {c : Code} (l : Launch) {b L : Nat} {xs : Nat → Int32} (hG : zGoal s.heap.size) (hL : L ≤ 3072) (C0 : lw_At p s m meth c b L xs) : W p l e room_1 s m #[Value.ref b] below meth c s.heap [] 0 0 (lw_Z below #[Value.ref b] s) (entryFrame m ([Value.ref b] : List Value).toArray 4) := by
  obtain ⟨hx, hb, hr, hml, hown, hts0, hX, hbl, hlocks, hgv⟩ := id C0
  obtain ⟨D, cy, hK⟩ := zk_all hts0
  have hts : ∀ w ∈ wT, w.before #[Value.ref b] s = true := fun w h => hts0 w (wT_tbl h)
  have C : zLx D cy p s m meth c b L xs := ⟨C0, hts, hK, zn_all hts0⟩
  obtain ⟨x, y, J, e1, hlt, e2, hJ0, hJ, hz, hT, hup⟩ := hG
  have hS : va_S (fun q : Nat => s.heap.size ≤ q) s.heap s.heap [] := va_S.rf
  have hl := lv_entry ([.ref b]) (n := 4) (Nat.le_of_ble_eq_true rfl)
  rw [lg_entry_eq]
  generalize (lg_sl ([.ref b]) ++ List.replicate (4 - (lg_sl ([.ref b])).length) Slot.unset).toArray = ls at hl ⊢
  have hl : lv_has ls 4 [(0, .ref b)] := hl
  refine y_new C hS kX10 kd_X10 kc_L_7 kn_X10 ki_1 dL_law_0 (by decide) (by decide) (fun H1 hW1 hS1 hz1 hk1 => ?_)
  refine lv_dup hx hb dL_law_3 rfl ?_
  refine y_callI (rest := [.ref s.heap.size]) C hW1 hS1 (fun q h9 => by omega) (fun q h9 => h9) (cX10_init_met e1) kb_X10_init km_X10_init rfl kl_L_9 rfl rfl ⟨Nat.le_of_ble_eq_true rfl, Nat.le_of_ble_eq_true rfl⟩ rfl rfl (Nat.le_of_ble_eq_true rfl) hl.1 dL_law_4 ⟨by decide, by decide⟩ (fun H2 locs2 hW2 hS2 hz2 hk2 => ?_)
  refine lv_astore_n (lv' := [(1, .ref s.heap.size), (0, .ref b)]) hx hb dL_law_7 rfl hl (by decide) rfl (fun ls hl => ?_)
  have hq : H2.size = zs x := hW2.1
  refine y_new C hS2 kX11 kd_X11 kc_L_10 kn_X11 ki_7 dL_law_8 (by decide) (by decide) (fun H3 hW3 hS3 hz3 hk3 => ?_)
  rw [hq] at hW3 ⊢
  refine lv_dup hx hb dL_law_11 rfl ?_
  refine y_callI (rest := [.ref (zs x)]) C hW3 hS3 (fun q h9 => by omega) (fun q h9 => by omega) (cX11_init_met e2) kb_X11_init km_X11_init rfl kl_L_12 rfl rfl ⟨Nat.le_of_ble_eq_true rfl, Nat.le_of_ble_eq_true rfl⟩ rfl rfl (Nat.le_of_ble_eq_true rfl) hl.1 dL_law_12 ⟨by decide, by decide⟩ (fun H4 locs4 hW4 hS4 hz4 hk4 => ?_)
  refine lv_astore_n (lv' := [(2, .ref (zs x)), (1, .ref s.heap.size), (0, .ref b)]) hx hb dL_law_15 rfl hl (by decide) rfl (fun ls hl => ?_)
  refine lv_iconst (v := 0) hx hb dL_law_16 (by decide) ?_
  refine lv_istore_n (lv' := [(3, .int 0), (2, .ref (zs x)), (1, .ref s.heap.size), (0, .ref b)]) hx hb dL_law_17 rfl hl (by decide) rfl (fun ls hl => ?_)
  have he : H4.size = zs y := hW4.1
  have hF1 : zW (zAF s.heap.size (zs x) (zs y)) cy D x H2 := zW_mono hW2 (fun q g1 g2 => ⟨g1, fun g3 => by omega⟩)
  have hF2 := zW_keep (H1 := H4) hF1 (fun q g1 g2 => (hk4 q (by omega) (by omega)).trans (hk3 q g1))
  rw [he] at hF2
  have hM : zW (zAM (zs x) (zs y)) cy D y H4 := zW_mono hW4 (fun q g1 g2 => ⟨g1, by omega⟩)
  refine W.widen (k := 69 + 701 * 0) (n := 147138 + 7010 * 0) (by decide) (by decide) ?_
  refine law_loop (e9 := zs y) hJ hz (fun n u v h9 => hT (n + 1) u v h9) hup C hL 512 0 (by decide) 0 rfl _ _ _ _ ls ⟨hF2, hM, hJ0, (hT 0 _ _ hJ0).1, (hT 0 _ _ hJ0).2, by omega, by omega⟩ hS4 (lv_sub hl [3, 2, 1, 0] rfl)
