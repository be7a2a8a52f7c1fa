section Z14_classa
variable {p : Program} {l : Launch} {e : Env} {s : State} {m : MethodId} {args : Array Value} {below : List Frame} {meth : Method} {c : Code} {A : Nat → Prop} {D : va_G} {cy : Nat → ClassId}
theorem dX10_init_0 : decode cX10_init 0 = .ok (.aload_n 0, 1) := by decide +kernel
theorem dX10_init_1 : decode cX10_init 1 = .ok (.invokespecial 1, 3) := by decide +kernel
theorem dX10_init_4 : decode cX10_init 4 = .ok (.aload_n 0, 1) := by decide +kernel
theorem dX10_init_5 : decode cX10_init 5 = .ok (.new 7, 3) := by decide +kernel
theorem dX10_init_8 : decode cX10_init 8 = .ok (.dup, 1) := by decide +kernel
theorem dX10_init_9 : decode cX10_init 9 = .ok (.invokespecial 9, 3) := by decide +kernel
theorem dX10_init_12 : decode cX10_init 12 = .ok (.putfield 10, 3) := by decide +kernel
theorem dX10_init_15 : decode cX10_init 15 = .ok (.aload_n 0, 1) := by decide +kernel
theorem dX10_init_16 : decode cX10_init 16 = .ok (.new 16, 3) := by decide +kernel
theorem dX10_init_19 : decode cX10_init 19 = .ok (.dup, 1) := by decide +kernel
theorem dX10_init_20 : decode cX10_init 20 = .ok (.invokespecial 18, 3) := by decide +kernel
theorem dX10_init_23 : decode cX10_init 23 = .ok (.putfield 19, 3) := by decide +kernel
theorem dX10_init_26 : decode cX10_init 26 = .ok (.aload_n 0, 1) := by decide +kernel
theorem dX10_init_27 : decode cX10_init 27 = .ok (.new 23, 3) := by decide +kernel
theorem dX10_init_30 : decode cX10_init 30 = .ok (.dup, 1) := by decide +kernel
theorem dX10_init_31 : decode cX10_init 31 = .ok (.invokespecial 25, 3) := by decide +kernel
theorem dX10_init_34 : decode cX10_init 34 = .ok (.putfield 26, 3) := by decide +kernel
theorem dX10_init_37 : decode cX10_init 37 = .ok (.aload_n 0, 1) := by decide +kernel
theorem dX10_init_38 : decode cX10_init 38 = .ok (.bipush 20, 2) := by decide +kernel
theorem dX10_init_40 : decode cX10_init 40 = .ok (.anewarray 30, 3) := by decide +kernel
theorem dX10_init_43 : decode cX10_init 43 = .ok (.putfield 32, 3) := by decide +kernel
theorem dX10_init_46 : decode cX10_init 46 = .ok (.aload_n 0, 1) := by decide +kernel
theorem dX10_init_47 : decode cX10_init 47 = .ok (.bipush 8, 2) := by decide +kernel
theorem dX10_init_49 : decode cX10_init 49 = .ok (.newarray .int, 2) := by decide +kernel
theorem dX10_init_51 : decode cX10_init 51 = .ok (.putfield 36, 3) := by decide +kernel
theorem dX10_init_54 : decode cX10_init 54 = .ok (.aload_n 0, 1) := by decide +kernel
theorem dX10_init_55 : decode cX10_init 55 = .ok (.bipush 7, 2) := by decide +kernel
theorem dX10_init_57 : decode cX10_init 57 = .ok (.newarray .int, 2) := by decide +kernel
theorem dX10_init_59 : decode cX10_init 59 = .ok (.putfield 40, 3) := by decide +kernel
theorem dX10_init_62 : decode cX10_init 62 = .ok (.aload_n 0, 1) := by decide +kernel
theorem dX10_init_63 : decode cX10_init 63 = .ok (.sipush 300, 3) := by decide +kernel
theorem dX10_init_66 : decode cX10_init 66 = .ok (.newarray .int, 2) := by decide +kernel
theorem dX10_init_68 : decode cX10_init 68 = .ok (.putfield 43, 3) := by decide +kernel
theorem dX10_init_71 : decode cX10_init 71 = .ok (.aload_n 0, 1) := by decide +kernel
theorem dX10_init_72 : decode cX10_init 72 = .ok (.new 46, 3) := by decide +kernel
theorem dX10_init_75 : decode cX10_init 75 = .ok (.dup, 1) := by decide +kernel
theorem dX10_init_76 : decode cX10_init 76 = .ok (.invokespecial 48, 3) := by decide +kernel
theorem dX10_init_79 : decode cX10_init 79 = .ok (.putfield 49, 3) := by decide +kernel
theorem dX10_init_82 : decode cX10_init 82 = .ok (.aload_n 0, 1) := by decide +kernel
theorem dX10_init_83 : decode cX10_init 83 = .ok (.new 46, 3) := by decide +kernel
theorem dX10_init_86 : decode cX10_init 86 = .ok (.dup, 1) := by decide +kernel
theorem dX10_init_87 : decode cX10_init 87 = .ok (.invokespecial 48, 3) := by decide +kernel
theorem dX10_init_90 : decode cX10_init 90 = .ok (.putfield 53, 3) := by decide +kernel
theorem dX10_init_93 : decode cX10_init 93 = .ok (.aload_n 0, 1) := by decide +kernel
theorem dX10_init_94 : decode cX10_init 94 = .ok (.new 56, 3) := by decide +kernel
theorem dX10_init_97 : decode cX10_init 97 = .ok (.dup, 1) := by decide +kernel
theorem dX10_init_98 : decode cX10_init 98 = .ok (.invokespecial 58, 3) := by decide +kernel
theorem dX10_init_101 : decode cX10_init 101 = .ok (.putfield 59, 3) := by decide +kernel
theorem dX10_init_104 : decode cX10_init 104 = .ok (.aload_n 0, 1) := by decide +kernel
theorem dX10_init_105 : decode cX10_init 105 = .ok (.iconst 0, 1) := by decide +kernel
theorem dX10_init_106 : decode cX10_init 106 = .ok (.putfield 63, 3) := by decide +kernel
theorem dX10_init_109 : decode cX10_init 109 = .ok (.aload_n 0, 1) := by decide +kernel
theorem dX10_init_110 : decode cX10_init 110 = .ok (.iconst 0, 1) := by decide +kernel
theorem dX10_init_111 : decode cX10_init 111 = .ok (.putfield 67, 3) := by decide +kernel
theorem dX10_init_114 : decode cX10_init 114 = .ok (.aload_n 0, 1) := by decide +kernel
theorem dX10_init_115 : decode cX10_init 115 = .ok (.iconst 0, 1) := by decide +kernel
theorem dX10_init_116 : decode cX10_init 116 = .ok (.putfield 70, 3) := by decide +kernel
theorem dX10_init_119 : decode cX10_init 119 = .ok (.return_, 1) := by decide +kernel
def fX10_init (o : Nat) (h : Hz) : Option (Unit × Hz) := (b2 (nO 6 h) fun a1 s2 => (b2 (fX6_init a1 s2) fun _ s4 => (b1 (pP 10 0 o (some a1) s4) fun s5 => (b2 (nO 2 s5) fun a6 s7 => (b2 (fX2_init a6 s7) fun _ s9 => (b1 (pP 10 1 o (some a6) s9) fun s10 => (b2 (nO 7 s10) fun a11 s12 => (b2 (fX7_init a11 s12) fun _ s14 => (b1 (pP 10 2 o (some a11) s14) fun s15 => (b2 (nA 19 20 20 s15) fun a16 s17 => (b1 (pP 10 3 o (some a16) s17) fun s18 => (b2 (nA 12 8 8 s18) fun a19 s20 => (b1 (pP 10 4 o (some a19) s20) fun s21 => (b2 (nA 12 7 7 s21) fun a22 s23 => (b1 (pP 10 5 o (some a22) s23) fun s24 => (b2 (nA 12 300 300 s24) fun a25 s26 => (b1 (pP 10 6 o (some a25) s26) fun s27 => (b2 (nO 3 s27) fun a28 s29 => (b2 (fX3_init a28 s29) fun _ s31 => (b1 (pP 10 7 o (some a28) s31) fun s32 => (b2 (nO 3 s32) fun a33 s34 => (b2 (fX3_init a33 s34) fun _ s36 => (b1 (pP 10 8 o (some a33) s36) fun s37 => (b2 (nO 1 s37) fun a38 s39 => (b2 (fX1_init a38 s39) fun _ s41 => (b1 (pP 10 9 o (some a38) s41) fun s42 => (b1 (pI 10 10 o 0 s42) fun s43 => (b1 (pI 10 11 o 0 s43) fun s44 => (b1 (pI 10 12 o 0 s44) fun s45 => some ((), s45))))))))))))))))))))))))))))))
set_option maxHeartbeats 4000000 in
set_option maxRecDepth 100000 in
theorem wX10_init_0 {r0 : Unit} {h0 : Hz} (X : zX A D cy p s m args c cX10_init RX10 1) (hlk : meth.locks = false) (hr : meth.sig.returnType = none) (hin : meth.name = "<init>") (o : Nat) (h : Hz) (H : Heap) (locs : List Loc) (ls : Array Slot) (hl : lv_has ls 1 [(0, .ref o)]) (hW : zW A cy D h H) (hS : va_S A s.heap H locs) (h : fX10_init o h = some (r0, h0)) : W p l e ({ frames := 3, cells := 23, slots := 3971, locals := 52 } : Room) s m args below meth c H locs 0 0 (MQ below (va_Qv (fun u => u = h0) (zB A D cy) A) args s 23 3971 A) (F0 m 0 ls []) := by
  obtain ⟨hx, hb, hts, hown, hK9, hml, hN9, hA9⟩ := id X
  unfold fX10_init at h
  refine lv_aload_n hx hb dX10_init_0 rfl (lv_at hl 0 rfl) ?_
  refine W.objInit hx hb hown (hts _ kl_X10_1) (hts _ km_objectInit) (hts _ kco) rfl (by rw [hml]; exact hl.1) rfl dX10_init_1 (Nat.le_of_ble_eq_true rfl) (Nat.le_of_ble_eq_true rfl) ?_
  refine W.eq (g2 := F0 m 4 ls []) rfl ?_
  refine lv_aload_n hx hb dX10_init_4 rfl (lv_at hl 0 rfl) ?_
  replace h := b2_some h
  obtain ⟨a1, s2, ga1, h⟩ := h
  refine z_new X hW hS ga1 kX6 kd_X6 kc_X10_7 kn_X6 ki_2 dX10_init_5 (by decide) (by decide) (fun H hW hS => ?_)
  refine lv_dup hx hb dX10_init_8 rfl ?_
  replace h := b2_some h
  obtain ⟨_ur3, s4, gs4, h⟩ := h
  refine z_callINv (rest := [.ref a1, .ref o]) X hW hS (cX6_init_met gs4) kb_X6_init km_X6_init rfl hN9.1.1 rfl rfl ⟨Nat.le_of_ble_eq_true rfl, Nat.le_of_ble_eq_true rfl⟩ rfl rfl (Nat.le_of_ble_eq_true rfl) hl.1 dX10_init_9 ⟨(by decide), (by decide)⟩ (fun H locs hW hS => ?_)
  replace h := b1_some h
  obtain ⟨s5, gs5, h⟩ := h
  refine z_putP X hW hS gs5 kX10 (by decide) (by decide) (Or.inl ⟨_, rfl⟩) (Or.inr ⟨rfl, hin, rfl⟩) kf_X10_10 dX10_init_12 (fun H locs hW hS => ?_)
  refine lv_aload_n hx hb dX10_init_15 rfl (lv_at hl 0 rfl) ?_
  replace h := b2_some h
  obtain ⟨a6, s7, ga6, h⟩ := h
  refine z_new X hW hS ga6 kX2 kd_X2 kc_X10_16 kn_X2 ki_3 dX10_init_16 (by decide) (by decide) (fun H hW hS => ?_)
  refine lv_dup hx hb dX10_init_19 rfl ?_
  replace h := b2_some h
  obtain ⟨_ur8, s9, gs9, h⟩ := h
  refine z_callINv (rest := [.ref a6, .ref o]) X hW hS (cX2_init_met gs9) kb_X2_init km_X2_init rfl hN9.1.2.1 rfl rfl ⟨Nat.le_of_ble_eq_true rfl, Nat.le_of_ble_eq_true rfl⟩ rfl rfl (Nat.le_of_ble_eq_true rfl) hl.1 dX10_init_20 ⟨(by decide), (by decide)⟩ (fun H locs hW hS => ?_)
  replace h := b1_some h
  obtain ⟨s10, gs10, h⟩ := h
  refine z_putP X hW hS gs10 kX10 (by decide) (by decide) (Or.inl ⟨_, rfl⟩) (Or.inr ⟨rfl, hin, rfl⟩) kf_X10_19 dX10_init_23 (fun H locs hW hS => ?_)
  refine lv_aload_n hx hb dX10_init_26 rfl (lv_at hl 0 rfl) ?_
  replace h := b2_some h
  obtain ⟨a11, s12, ga11, h⟩ := h
  refine z_new X hW hS ga11 kX7 kd_X7 kc_X10_23 kn_X7 ki_4 dX10_init_27 (by decide) (by decide) (fun H hW hS => ?_)
  refine lv_dup hx hb dX10_init_30 rfl ?_
  replace h := b2_some h
  obtain ⟨_ur13, s14, gs14, h⟩ := h
  refine z_callINv (rest := [.ref a11, .ref o]) X hW hS (cX7_init_met gs14) kb_X7_init km_X7_init rfl hN9.1.2.2.1 rfl rfl ⟨Nat.le_of_ble_eq_true rfl, Nat.le_of_ble_eq_true rfl⟩ rfl rfl (Nat.le_of_ble_eq_true rfl) hl.1 dX10_init_31 ⟨(by decide), (by decide)⟩ (fun H locs hW hS => ?_)
  replace h := b1_some h
  obtain ⟨s15, gs15, h⟩ := h
  refine z_putP X hW hS gs15 kX10 (by decide) (by decide) (Or.inl ⟨_, rfl⟩) (Or.inr ⟨rfl, hin, rfl⟩) kf_X10_26 dX10_init_34 (fun H locs hW hS => ?_)
  refine lv_aload_n hx hb dX10_init_37 rfl (lv_at hl 0 rfl) ?_
  refine lv_bipush (v := 20) hx hb dX10_init_38 (by decide) ?_
  replace h := b2_some h
  obtain ⟨a16, s17, ga16, h⟩ := h
  refine z_newP X hW hS ga16 (by decide) (by decide) rfl kc_X10_30 hN9.2.2.2.2.2 (by decide) dX10_init_40 (by decide) (by decide) (fun H hW hS => ?_)
  replace h := b1_some h
  obtain ⟨s18, gs18, h⟩ := h
  refine z_putP X hW hS gs18 kX10 (by decide) (by decide) (Or.inr ⟨_, rfl⟩) (Or.inr ⟨rfl, hin, rfl⟩) kf_X10_32 dX10_init_43 (fun H locs hW hS => ?_)
  refine lv_aload_n hx hb dX10_init_46 rfl (lv_at hl 0 rfl) ?_
  refine lv_bipush (v := 8) hx hb dX10_init_47 (by decide) ?_
  replace h := b2_some h
  obtain ⟨a19, s20, ga19, h⟩ := h
  refine z_newN (ty := .int) X hW hS ga19 (Or.inl ⟨rfl, rfl⟩) kp_int (by decide) dX10_init_49 (by decide) (by decide) (fun H hW hS => ?_)
  replace h := b1_some h
  obtain ⟨s21, gs21, h⟩ := h
  refine z_putP X hW hS gs21 kX10 (by decide) (by decide) (Or.inr ⟨_, rfl⟩) (Or.inr ⟨rfl, hin, rfl⟩) kf_X10_36 dX10_init_51 (fun H locs hW hS => ?_)
  refine lv_aload_n hx hb dX10_init_54 rfl (lv_at hl 0 rfl) ?_
  refine lv_bipush (v := 7) hx hb dX10_init_55 (by decide) ?_
  replace h := b2_some h
  obtain ⟨a22, s23, ga22, h⟩ := h
  refine z_newN (ty := .int) X hW hS ga22 (Or.inl ⟨rfl, rfl⟩) kp_int (by decide) dX10_init_57 (by decide) (by decide) (fun H hW hS => ?_)
  replace h := b1_some h
  obtain ⟨s24, gs24, h⟩ := h
  refine z_putP X hW hS gs24 kX10 (by decide) (by decide) (Or.inr ⟨_, rfl⟩) (Or.inr ⟨rfl, hin, rfl⟩) kf_X10_40 dX10_init_59 (fun H locs hW hS => ?_)
  refine lv_aload_n hx hb dX10_init_62 rfl (lv_at hl 0 rfl) ?_
  refine lv_sipush (v := 300) hx hb dX10_init_63 (by decide) ?_
  replace h := b2_some h
  obtain ⟨a25, s26, ga25, h⟩ := h
  refine z_newN (ty := .int) X hW hS ga25 (Or.inl ⟨rfl, rfl⟩) kp_int (by decide) dX10_init_66 (by decide) (by decide) (fun H hW hS => ?_)
  replace h := b1_some h
  obtain ⟨s27, gs27, h⟩ := h
  refine z_putP X hW hS gs27 kX10 (by decide) (by decide) (Or.inr ⟨_, rfl⟩) (Or.inr ⟨rfl, hin, rfl⟩) kf_X10_43 dX10_init_68 (fun H locs hW hS => ?_)
  refine lv_aload_n hx hb dX10_init_71 rfl (lv_at hl 0 rfl) ?_
  replace h := b2_some h
  obtain ⟨a28, s29, ga28, h⟩ := h
  refine z_new X hW hS ga28 kX3 kd_X3 kc_X10_46 kn_X3 ki_5 dX10_init_72 (by decide) (by decide) (fun H hW hS => ?_)
  refine lv_dup hx hb dX10_init_75 rfl ?_
  replace h := b2_some h
  obtain ⟨_ur30, s31, gs31, h⟩ := h
  refine z_callINv (rest := [.ref a28, .ref o]) X hW hS (cX3_init_met gs31) kb_X3_init km_X3_init rfl hN9.1.2.2.2.1 rfl rfl ⟨Nat.le_of_ble_eq_true rfl, Nat.le_of_ble_eq_true rfl⟩ rfl rfl (Nat.le_of_ble_eq_true rfl) hl.1 dX10_init_76 ⟨(by decide), (by decide)⟩ (fun H locs hW hS => ?_)
  replace h := b1_some h
  obtain ⟨s32, gs32, h⟩ := h
  refine z_putP X hW hS gs32 kX10 (by decide) (by decide) (Or.inl ⟨_, rfl⟩) (Or.inr ⟨rfl, hin, rfl⟩) kf_X10_49 dX10_init_79 (fun H locs hW hS => ?_)
  refine lv_aload_n hx hb dX10_init_82 rfl (lv_at hl 0 rfl) ?_
  replace h := b2_some h
  obtain ⟨a33, s34, ga33, h⟩ := h
  refine z_new X hW hS ga33 kX3 kd_X3 kc_X10_46 kn_X3 ki_5 dX10_init_83 (by decide) (by decide) (fun H hW hS => ?_)
  refine lv_dup hx hb dX10_init_86 rfl ?_
  replace h := b2_some h
  obtain ⟨_ur35, s36, gs36, h⟩ := h
  refine z_callINv (rest := [.ref a33, .ref o]) X hW hS (cX3_init_met gs36) kb_X3_init km_X3_init rfl hN9.1.2.2.2.1 rfl rfl ⟨Nat.le_of_ble_eq_true rfl, Nat.le_of_ble_eq_true rfl⟩ rfl rfl (Nat.le_of_ble_eq_true rfl) hl.1 dX10_init_87 ⟨(by decide), (by decide)⟩ (fun H locs hW hS => ?_)
  replace h := b1_some h
  obtain ⟨s37, gs37, h⟩ := h
  refine z_putP X hW hS gs37 kX10 (by decide) (by decide) (Or.inl ⟨_, rfl⟩) (Or.inr ⟨rfl, hin, rfl⟩) kf_X10_53 dX10_init_90 (fun H locs hW hS => ?_)
  refine lv_aload_n hx hb dX10_init_93 rfl (lv_at hl 0 rfl) ?_
  replace h := b2_some h
  obtain ⟨a38, s39, ga38, h⟩ := h
  refine z_new X hW hS ga38 kX1 kd_X1 kc_X10_56 kn_X1 ki_6 dX10_init_94 (by decide) (by decide) (fun H hW hS => ?_)
  refine lv_dup hx hb dX10_init_97 rfl ?_
  replace h := b2_some h
  obtain ⟨_ur40, s41, gs41, h⟩ := h
  refine z_callINv (rest := [.ref a38, .ref o]) X hW hS (cX1_init_met gs41) kb_X1_init km_X1_init rfl hN9.1.2.2.2.2.1 rfl rfl ⟨Nat.le_of_ble_eq_true rfl, Nat.le_of_ble_eq_true rfl⟩ rfl rfl (Nat.le_of_ble_eq_true rfl) hl.1 dX10_init_98 ⟨(by decide), (by decide)⟩ (fun H locs hW hS => ?_)
  replace h := b1_some h
  obtain ⟨s42, gs42, h⟩ := h
  refine z_putP X hW hS gs42 kX10 (by decide) (by decide) (Or.inl ⟨_, rfl⟩) (Or.inr ⟨rfl, hin, rfl⟩) kf_X10_59 dX10_init_101 (fun H locs hW hS => ?_)
  refine lv_aload_n hx hb dX10_init_104 rfl (lv_at hl 0 rfl) ?_
  refine lv_iconst (v := 0) hx hb dX10_init_105 (by decide) ?_
  replace h := b1_some h
  obtain ⟨s43, gs43, h⟩ := h
  refine z_putI X hW hS gs43 kX10 (by decide) (by decide) rfl (Or.inl rfl) kf_X10_63 dX10_init_106 (fun H locs hW hS => ?_)
  refine lv_aload_n hx hb dX10_init_109 rfl (lv_at hl 0 rfl) ?_
  refine lv_iconst (v := 0) hx hb dX10_init_110 (by decide) ?_
  replace h := b1_some h
  obtain ⟨s44, gs44, h⟩ := h
  refine z_putI X hW hS gs44 kX10 (by decide) (by decide) rfl (Or.inl rfl) kf_X10_67 dX10_init_111 (fun H locs hW hS => ?_)
  refine lv_aload_n hx hb dX10_init_114 rfl (lv_at hl 0 rfl) ?_
  refine lv_iconst (v := 0) hx hb dX10_init_115 (by decide) ?_
  replace h := b1_some h
  obtain ⟨s45, gs45, h⟩ := h
  refine z_putI X hW hS gs45 kX10 (by decide) (by decide) rfl (Or.inl rfl) kf_X10_70 dX10_init_116 (fun H locs hW hS => ?_)
  exact z_etv X hlk hr hW hS h (by decide) (by decide) dX10_init_119

set_option maxHeartbeats 4000000 in
set_option maxRecDepth 100000 in
theorem cX10_init_met {l : Launch} {A : Nat → Prop} {D : va_G} {cy : Nat → ClassId} {r0 : Unit} {h0 : Hz} {o : Nat} {h : Hz} (g : fX10_init o h = some (r0, h0)) : Met l yX10_init (Cond.code yX10_init cX10_init 1 none :: wT) ({ frames := 3, cells := 23, slots := 3971, locals := 52 } : Room) (va_Pc [.ref o] (zS A D cy h)) (va_Qv (fun u => u = h0) (zB A D cy) A) 23 3971 A := by
  refine Met.ofW (cc := cX10_init) (maxL := 1) (ret := none) (by decide) rfl ?_
  intro p e s m args below meth c s₁ B hml hv
  obtain ⟨rfl, hW, hK, hN, hA⟩ := hv
  have X : zX A D cy p s m _ c cX10_init RX10 1 := ⟨B.exec, B.bytes, fun w hw => atoms_spec (ws := Cond.code yX10_init cX10_init 1 none :: wT) B.pre w (List.mem_cons_of_mem _ hw), findClass_of_methodNamed B.named, hK, hml, hN, hA⟩
  have hin : meth.name = "<init>" := (name_of_methodNamed B.named B.method).1
  have hl := lv_entry [.ref o] (n := 1) (Nat.le_of_ble_eq_true rfl)
  rw [lg_entry_eq]
  generalize (lg_sl [.ref o] ++ List.replicate (1 - (lg_sl [.ref o]).length) Slot.unset).toArray = ls at hl ⊢
  have hl : lv_has ls 1 [(0, .ref o)] := hl
  exact wX10_init_0 X B.notSynchronized B.returns hin o _ _ _ _ (lv_sub hl [0] rfl) hW va_S.rf g

theorem dX10_isHost_0 : decode cX10_isHost 0 = .ok (.iload_n 0, 1) := by decide +kernel
theorem dX10_isHost_1 : decode cX10_isHost 1 = .ok (.ifCond .lt 13, 3) := by decide +kernel
theorem dX10_isHost_4 : decode cX10_isHost 4 = .ok (.iload_n 0, 1) := by decide +kernel
theorem dX10_isHost_5 : decode cX10_isHost 5 = .ok (.bipush 8, 2) := by decide +kernel
theorem dX10_isHost_7 : decode cX10_isHost 7 = .ok (.if_icmp .ge 7, 3) := by decide +kernel
theorem dX10_isHost_10 : decode cX10_isHost 10 = .ok (.iconst 1, 1) := by decide +kernel
theorem dX10_isHost_11 : decode cX10_isHost 11 = .ok (.goto 4, 3) := by decide +kernel
theorem dX10_isHost_14 : decode cX10_isHost 14 = .ok (.iconst 0, 1) := by decide +kernel
theorem dX10_isHost_15 : decode cX10_isHost 15 = .ok (.ireturn, 1) := by decide +kernel
def fX10_isHost (v0 : Int32) (h : Hz) : Option (Int32 × Hz) := (if v0 < 0 then rz 0 h else (if 8 ≤ v0 then rz 0 h else rz 1 h))
set_option maxHeartbeats 4000000 in
set_option maxRecDepth 100000 in
theorem wX10_isHost_0 {r0 : Int32} {h0 : Hz} (X : zX A D cy p s m args c cX10_isHost RX10 1) (hlk : meth.locks = false) (hr : meth.sig.returnType = (some .boolean)) (v0 : Int32) (h : Hz) (H : Heap) (locs : List Loc) (ls : Array Slot) (hl : lv_has ls 1 [(0, .int v0)]) (hW : zW A cy D h H) (hS : va_S A s.heap H locs) (h : fX10_isHost v0 h = some (r0, h0)) : W p l e ({ frames := 0, cells := 0, slots := 0, locals := 0 } : Room) s m args below meth c H locs 0 0 (MQ below (va_Qi (fun r1 u => r1 = r0 ∧ u = h0) (zB A D cy) A) args s 0 0 A) (F0 m 0 ls []) := by
  obtain ⟨hx, hb, hts, hown, hK9, hml, hN9, hA9⟩ := id X
  unfold fX10_isHost at h
  refine lv_iload_n hx hb dX10_isHost_0 rfl (lv_at hl 0 rfl) ?_
  refine lv_if_lt (tgt := 14) hx hb dX10_isHost_1 (by decide) (fun c1 => ?_) (fun c1 => ?_)
  · replace h := it_t h c1
    refine lv_iconst (v := 0) hx hb dX10_isHost_14 (by decide) ?_
    exact z_etz X hlk hr hW hS h (by decide) (by decide) dX10_isHost_15
  · replace h := it_f h c1
    refine lv_iload_n hx hb dX10_isHost_4 rfl (lv_at hl 0 rfl) ?_
    refine lv_bipush (v := 8) hx hb dX10_isHost_5 (by decide) ?_
    refine lv_icmp_ge (tgt := 14) hx hb dX10_isHost_7 (by decide) (fun c2 => ?_) (fun c2 => ?_)
    · replace h := it_t h c2
      refine lv_iconst (v := 0) hx hb dX10_isHost_14 (by decide) ?_
      exact z_etz X hlk hr hW hS h (by decide) (by decide) dX10_isHost_15
    · replace h := it_f h c2
      refine lv_iconst (v := 1) hx hb dX10_isHost_10 (by decide) ?_
      refine lv_goto (tgt := 15) hx hb dX10_isHost_11 (by decide) ?_
      exact z_etz X hlk hr hW hS h (by decide) (by decide) dX10_isHost_15

set_option maxHeartbeats 4000000 in
set_option maxRecDepth 100000 in
theorem cX10_isHost_met {l : Launch} {A : Nat → Prop} {D : va_G} {cy : Nat → ClassId} {r0 : Int32} {h0 : Hz} {v0 : Int32} {h : Hz} (g : fX10_isHost v0 h = some (r0, h0)) : Met l yX10_isHost (Cond.code yX10_isHost cX10_isHost 1 (some .boolean) :: wT) ({ frames := 0, cells := 0, slots := 0, locals := 0 } : Room) (va_Pc [.int v0] (zS A D cy h)) (va_Qi (fun r1 u => r1 = r0 ∧ u = h0) (zB A D cy) A) 0 0 A := by
  refine Met.ofW (cc := cX10_isHost) (maxL := 1) (ret := (some .boolean)) (by decide) rfl ?_
  intro p e s m args below meth c s₁ B hml hv
  obtain ⟨rfl, hW, hK, hN, hA⟩ := hv
  have X : zX A D cy p s m _ c cX10_isHost RX10 1 := ⟨B.exec, B.bytes, fun w hw => atoms_spec (ws := Cond.code yX10_isHost cX10_isHost 1 (some .boolean) :: wT) B.pre w (List.mem_cons_of_mem _ hw), findClass_of_methodNamed B.named, hK, hml, hN, hA⟩
  have hl := lv_entry [.int v0] (n := 1) (Nat.le_of_ble_eq_true rfl)
  rw [lg_entry_eq]
  generalize (lg_sl [.int v0] ++ List.replicate (1 - (lg_sl [.int v0]).length) Slot.unset).toArray = ls at hl ⊢
  have hl : lv_has ls 1 [(0, .int v0)] := hl
  exact wX10_isHost_0 X B.notSynchronized B.returns v0 _ _ _ _ (lv_sub hl [0] rfl) hW va_S.rf g

theorem dX10_refuse_0 : decode cX10_refuse 0 = .ok (.iconst (-1), 1) := by decide +kernel
theorem dX10_refuse_1 : decode cX10_refuse 1 = .ok (.iload_n 1, 1) := by decide +kernel
theorem dX10_refuse_2 : decode cX10_refuse 2 = .ok (.isub, 1) := by decide +kernel
theorem dX10_refuse_3 : decode cX10_refuse 3 = .ok (.istore_n 2, 1) := by decide +kernel
theorem dX10_refuse_4 : decode cX10_refuse 4 = .ok (.iload_n 2, 1) := by decide +kernel
theorem dX10_refuse_5 : decode cX10_refuse 5 = .ok (.ifCond .lt 22, 3) := by decide +kernel
theorem dX10_refuse_8 : decode cX10_refuse 8 = .ok (.iload_n 2, 1) := by decide +kernel
theorem dX10_refuse_9 : decode cX10_refuse 9 = .ok (.aload_n 0, 1) := by decide +kernel
theorem dX10_refuse_10 : decode cX10_refuse 10 = .ok (.getfield 40, 3) := by decide +kernel
theorem dX10_refuse_13 : decode cX10_refuse 13 = .ok (.arraylength, 1) := by decide +kernel
theorem dX10_refuse_14 : decode cX10_refuse 14 = .ok (.if_icmp .ge 13, 3) := by decide +kernel
theorem dX10_refuse_17 : decode cX10_refuse 17 = .ok (.aload_n 0, 1) := by decide +kernel
theorem dX10_refuse_18 : decode cX10_refuse 18 = .ok (.getfield 40, 3) := by decide +kernel
theorem dX10_refuse_21 : decode cX10_refuse 21 = .ok (.iload_n 2, 1) := by decide +kernel
theorem dX10_refuse_22 : decode cX10_refuse 22 = .ok (.dup2, 1) := by decide +kernel
theorem dX10_refuse_23 : decode cX10_refuse 23 = .ok (.iaload, 1) := by decide +kernel
theorem dX10_refuse_24 : decode cX10_refuse 24 = .ok (.iconst 1, 1) := by decide +kernel
theorem dX10_refuse_25 : decode cX10_refuse 25 = .ok (.iadd, 1) := by decide +kernel
theorem dX10_refuse_26 : decode cX10_refuse 26 = .ok (.iastore, 1) := by decide +kernel
theorem dX10_refuse_27 : decode cX10_refuse 27 = .ok (.iload_n 1, 1) := by decide +kernel
theorem dX10_refuse_28 : decode cX10_refuse 28 = .ok (.ireturn, 1) := by decide +kernel
def fX10_refuse (o : Nat) (v1 : Int32) (h : Hz) : Option (Int32 × Hz) := (if ((-1) - v1) < 0 then some (v1, h) else (b1 (gA 10 5 o h) fun a2 => (b1 (xN 12 a2 h) fun x3 => (if x3 ≤ ((-1) - v1) then some (v1, h) else (b1 (gA 10 5 o h) fun a5 => (b1 (xI 12 a5 ((-1) - v1) h) fun x6 => (b1 (yI a5 ((-1) - v1) (x6 + 1) h) fun s7 => some (v1, s7))))))))
set_option maxHeartbeats 4000000 in
set_option maxRecDepth 100000 in
theorem wX10_refuse_0 {r0 : Int32} {h0 : Hz} (X : zX A D cy p s m args c cX10_refuse RX10 3) (hlk : meth.locks = false) (hr : meth.sig.returnType = (some .int)) (o : Nat) (v1 : Int32) (h : Hz) (H : Heap) (locs : List Loc) (ls : Array Slot) (hl : lv_has ls 3 [(0, .ref o), (1, .int v1)]) (hW : zW A cy D h H) (hS : va_S A s.heap H locs) (h : fX10_refuse o v1 h = some (r0, h0)) : W p l e ({ frames := 0, cells := 0, slots := 0, locals := 0 } : Room) s m args below meth c H locs 0 0 (MQ below (va_Qi (fun r1 u => r1 = r0 ∧ u = h0) (zB A D cy) A) args s 0 0 A) (F0 m 0 ls []) := by
  obtain ⟨hx, hb, hts, hown, hK9, hml, hN9, hA9⟩ := id X
  unfold fX10_refuse at h
  refine lv_iconst (v := (-1)) hx hb dX10_refuse_0 (by decide) ?_
  refine lv_iload_n hx hb dX10_refuse_1 rfl (lv_at hl 1 rfl) ?_
  refine lv_isub hx hb dX10_refuse_2 ?_
  refine lv_istore_n (lv' := [(2, .int ((-1) - v1)), (0, .ref o), (1, .int v1)]) hx hb dX10_refuse_3 rfl hl (by decide) rfl (fun ls hl => ?_)
  refine lv_iload_n hx hb dX10_refuse_4 rfl (lv_at hl 0 rfl) ?_
  refine lv_if_lt (tgt := 27) hx hb dX10_refuse_5 (by decide) (fun c1 => ?_) (fun c1 => ?_)
  · replace h := it_t h c1
    refine lv_iload_n hx hb dX10_refuse_27 rfl (lv_at hl 2 rfl) ?_
    exact z_eti X hlk hr hW hS h (by decide) (by decide) dX10_refuse_28
  · replace h := it_f h c1
    refine lv_iload_n hx hb dX10_refuse_8 rfl (lv_at hl 0 rfl) ?_
    refine lv_aload_n hx hb dX10_refuse_9 rfl (lv_at hl 1 rfl) ?_
    replace h := b1_some h
    obtain ⟨a2, ga2, h⟩ := h
    refine z_getA X hW ga2 kX10 (by decide) (by decide) kf_X10_40 dX10_refuse_10 ?_
    replace h := b1_some h
    obtain ⟨x3, gx3, h⟩ := h
    refine z_alenI X hW gx3 dX10_refuse_13 ?_
    refine lv_icmp_ge (tgt := 27) hx hb dX10_refuse_14 (by decide) (fun c4 => ?_) (fun c4 => ?_)
    · replace h := it_t h c4
      refine lv_iload_n hx hb dX10_refuse_27 rfl (lv_at hl 2 rfl) ?_
      exact z_eti X hlk hr hW hS h (by decide) (by decide) dX10_refuse_28
    · replace h := it_f h c4
      refine lv_aload_n hx hb dX10_refuse_17 rfl (lv_at hl 1 rfl) ?_
      replace h := b1_some h
      obtain ⟨a5, ga5, h⟩ := h
      refine z_getA X hW ga5 kX10 (by decide) (by decide) kf_X10_40 dX10_refuse_18 ?_
      refine lv_iload_n hx hb dX10_refuse_21 rfl (lv_at hl 0 rfl) ?_
      refine lv_dup2_11 hx hb dX10_refuse_22 rfl rfl ?_
      replace h := b1_some h
      obtain ⟨x6, gx6, h⟩ := h
      refine z_aldI X hW gx6 dX10_refuse_23 ?_
      refine lv_iconst (v := 1) hx hb dX10_refuse_24 (by decide) ?_
      refine lv_iadd hx hb dX10_refuse_25 ?_
      replace h := b1_some h
      obtain ⟨s7, gs7, h⟩ := h
      refine z_astI X hW hS gs7 dX10_refuse_26 (fun H locs hW hS => ?_)
      refine lv_iload_n hx hb dX10_refuse_27 rfl (lv_at hl 2 rfl) ?_
      exact z_eti X hlk hr hW hS h (by decide) (by decide) dX10_refuse_28

set_option maxHeartbeats 4000000 in
set_option maxRecDepth 100000 in
theorem cX10_refuse_met {l : Launch} {A : Nat → Prop} {D : va_G} {cy : Nat → ClassId} {r0 : Int32} {h0 : Hz} {o : Nat} {v1 : Int32} {h : Hz} (g : fX10_refuse o v1 h = some (r0, h0)) : Met l yX10_refuse (Cond.code yX10_refuse cX10_refuse 3 (some .int) :: wT) ({ frames := 0, cells := 0, slots := 0, locals := 0 } : Room) (va_Pc [.ref o, .int v1] (zS A D cy h)) (va_Qi (fun r1 u => r1 = r0 ∧ u = h0) (zB A D cy) A) 0 0 A := by
  refine Met.ofW (cc := cX10_refuse) (maxL := 3) (ret := (some .int)) (by decide) rfl ?_
  intro p e s m args below meth c s₁ B hml hv
  obtain ⟨rfl, hW, hK, hN, hA⟩ := hv
  have X : zX A D cy p s m _ c cX10_refuse RX10 3 := ⟨B.exec, B.bytes, fun w hw => atoms_spec (ws := Cond.code yX10_refuse cX10_refuse 3 (some .int) :: wT) B.pre w (List.mem_cons_of_mem _ hw), findClass_of_methodNamed B.named, hK, hml, hN, hA⟩
  have hl := lv_entry [.ref o, .int v1] (n := 3) (Nat.le_of_ble_eq_true rfl)
  rw [lg_entry_eq]
  generalize (lg_sl [.ref o, .int v1] ++ List.replicate (3 - (lg_sl [.ref o, .int v1]).length) Slot.unset).toArray = ls at hl ⊢
  have hl : lv_has ls 3 [(0, .ref o), (1, .int v1)] := hl
  exact wX10_refuse_0 X B.notSynchronized B.returns o v1 _ _ _ _ (lv_sub hl [0, 1] rfl) hW va_S.rf g

theorem dX10_touch_0 : decode cX10_touch 0 = .ok (.iload_n 1, 1) := by decide +kernel
theorem dX10_touch_1 : decode cX10_touch 1 = .ok (.invokestatic 73, 3) := by decide +kernel
theorem dX10_touch_4 : decode cX10_touch 4 = .ok (.ifCond .eq 22, 3) := by decide +kernel
theorem dX10_touch_7 : decode cX10_touch 7 = .ok (.iload_n 1, 1) := by decide +kernel
theorem dX10_touch_8 : decode cX10_touch 8 = .ok (.aload_n 0, 1) := by decide +kernel
theorem dX10_touch_9 : decode cX10_touch 9 = .ok (.getfield 36, 3) := by decide +kernel
theorem dX10_touch_12 : decode cX10_touch 12 = .ok (.arraylength, 1) := by decide +kernel
theorem dX10_touch_13 : decode cX10_touch 13 = .ok (.if_icmp .ge 13, 3) := by decide +kernel
theorem dX10_touch_16 : decode cX10_touch 16 = .ok (.aload_n 0, 1) := by decide +kernel
theorem dX10_touch_17 : decode cX10_touch 17 = .ok (.getfield 36, 3) := by decide +kernel
theorem dX10_touch_20 : decode cX10_touch 20 = .ok (.iload_n 1, 1) := by decide +kernel
theorem dX10_touch_21 : decode cX10_touch 21 = .ok (.dup2, 1) := by decide +kernel
theorem dX10_touch_22 : decode cX10_touch 22 = .ok (.iaload, 1) := by decide +kernel
theorem dX10_touch_23 : decode cX10_touch 23 = .ok (.iconst 1, 1) := by decide +kernel
theorem dX10_touch_24 : decode cX10_touch 24 = .ok (.iadd, 1) := by decide +kernel
theorem dX10_touch_25 : decode cX10_touch 25 = .ok (.iastore, 1) := by decide +kernel
theorem dX10_touch_26 : decode cX10_touch 26 = .ok (.return_, 1) := by decide +kernel
def fX10_touch (o : Nat) (v1 : Int32) (h : Hz) : Option (Unit × Hz) := (b2 (fX10_isHost v1 h) fun x1 s2 => (if x1 = 0 then some ((), s2) else (b1 (gA 10 4 o s2) fun a4 => (b1 (xN 12 a4 s2) fun x5 => (if x5 ≤ v1 then some ((), s2) else (b1 (gA 10 4 o s2) fun a7 => (b1 (xI 12 a7 v1 s2) fun x8 => (b1 (yI a7 v1 (x8 + 1) s2) fun s9 => some ((), s9)))))))))
set_option maxHeartbeats 4000000 in
set_option maxRecDepth 100000 in
theorem wX10_touch_0 {r0 : Unit} {h0 : Hz} (X : zX A D cy p s m args c cX10_touch RX10 2) (hlk : meth.locks = false) (hr : meth.sig.returnType = none) (o : Nat) (v1 : Int32) (h : Hz) (H : Heap) (locs : List Loc) (ls : Array Slot) (hl : lv_has ls 2 [(0, .ref o), (1, .int v1)]) (hW : zW A cy D h H) (hS : va_S A s.heap H locs) (h : fX10_touch o v1 h = some (r0, h0)) : W p l e ({ frames := 1, cells := 0, slots := 0, locals := 20 } : Room) s m args below meth c H locs 0 0 (MQ below (va_Qv (fun u => u = h0) (zB A D cy) A) args s 0 0 A) (F0 m 0 ls []) := by
  obtain ⟨hx, hb, hts, hown, hK9, hml, hN9, hA9⟩ := id X
  unfold fX10_touch at h
  refine lv_iload_n hx hb dX10_touch_0 rfl (lv_at hl 1 rfl) ?_
  replace h := b2_some h
  obtain ⟨x1, s2, gs2, h⟩ := h
  refine z_callSi (rest := []) X hW hS (cX10_isHost_met gs2) kb_X10_isHost ks_X10_isHost kl_X10_73 rfl rfl ⟨Nat.le_of_ble_eq_true rfl, Nat.le_of_ble_eq_true rfl⟩ rfl rfl (by decide) hl.1 dX10_touch_1 ⟨(by decide), (by decide)⟩ (fun H locs hW hS => ?_)
  refine lv_if_eq (tgt := 26) hx hb dX10_touch_4 (by decide) (fun c3 => ?_) (fun c3 => ?_)
  · replace h := it_t h c3
    exact z_etv X hlk hr hW hS h (by decide) (by decide) dX10_touch_26
  · replace h := it_f h c3
    refine lv_iload_n hx hb dX10_touch_7 rfl (lv_at hl 1 rfl) ?_
    refine lv_aload_n hx hb dX10_touch_8 rfl (lv_at hl 0 rfl) ?_
    replace h := b1_some h
    obtain ⟨a4, ga4, h⟩ := h
    refine z_getA X hW ga4 kX10 (by decide) (by decide) kf_X10_36 dX10_touch_9 ?_
    replace h := b1_some h
    obtain ⟨x5, gx5, h⟩ := h
    refine z_alenI X hW gx5 dX10_touch_12 ?_
    refine lv_icmp_ge (tgt := 26) hx hb dX10_touch_13 (by decide) (fun c6 => ?_) (fun c6 => ?_)
    · replace h := it_t h c6
      exact z_etv X hlk hr hW hS h (by decide) (by decide) dX10_touch_26
    · replace h := it_f h c6
      refine lv_aload_n hx hb dX10_touch_16 rfl (lv_at hl 0 rfl) ?_
      replace h := b1_some h
      obtain ⟨a7, ga7, h⟩ := h
      refine z_getA X hW ga7 kX10 (by decide) (by decide) kf_X10_36 dX10_touch_17 ?_
      refine lv_iload_n hx hb dX10_touch_20 rfl (lv_at hl 1 rfl) ?_
      refine lv_dup2_11 hx hb dX10_touch_21 rfl rfl ?_
      replace h := b1_some h
      obtain ⟨x8, gx8, h⟩ := h
      refine z_aldI X hW gx8 dX10_touch_22 ?_
      refine lv_iconst (v := 1) hx hb dX10_touch_23 (by decide) ?_
      refine lv_iadd hx hb dX10_touch_24 ?_
      replace h := b1_some h
      obtain ⟨s9, gs9, h⟩ := h
      refine z_astI X hW hS gs9 dX10_touch_25 (fun H locs hW hS => ?_)
      exact z_etv X hlk hr hW hS h (by decide) (by decide) dX10_touch_26

set_option maxHeartbeats 4000000 in
set_option maxRecDepth 100000 in
theorem cX10_touch_met {l : Launch} {A : Nat → Prop} {D : va_G} {cy : Nat → ClassId} {r0 : Unit} {h0 : Hz} {o : Nat} {v1 : Int32} {h : Hz} (g : fX10_touch o v1 h = some (r0, h0)) : Met l yX10_touch (Cond.code yX10_touch cX10_touch 2 none :: wT) ({ frames := 1, cells := 0, slots := 0, locals := 20 } : Room) (va_Pc [.ref o, .int v1] (zS A D cy h)) (va_Qv (fun u => u = h0) (zB A D cy) A) 0 0 A := by
  refine Met.ofW (cc := cX10_touch) (maxL := 2) (ret := none) (by decide) rfl ?_
  intro p e s m args below meth c s₁ B hml hv
  obtain ⟨rfl, hW, hK, hN, hA⟩ := hv
  have X : zX A D cy p s m _ c cX10_touch RX10 2 := ⟨B.exec, B.bytes, fun w hw => atoms_spec (ws := Cond.code yX10_touch cX10_touch 2 none :: wT) B.pre w (List.mem_cons_of_mem _ hw), findClass_of_methodNamed B.named, hK, hml, hN, hA⟩
  have hl := lv_entry [.ref o, .int v1] (n := 2) (Nat.le_of_ble_eq_true rfl)
  rw [lg_entry_eq]
  generalize (lg_sl [.ref o, .int v1] ++ List.replicate (2 - (lg_sl [.ref o, .int v1]).length) Slot.unset).toArray = ls at hl ⊢
  have hl : lv_has ls 2 [(0, .ref o), (1, .int v1)] := hl
  exact wX10_touch_0 X B.notSynchronized B.returns o v1 _ _ _ _ (lv_sub hl [0, 1] rfl) hW va_S.rf g

theorem dX10_root_0 : decode cX10_root 0 = .ok (.iload_n 1, 1) := by decide +kernel
theorem dX10_root_1 : decode cX10_root 1 = .ok (.invokestatic 73, 3) := by decide +kernel
theorem dX10_root_4 : decode cX10_root 4 = .ok (.ifCond .ne 9, 3) := by decide +kernel
theorem dX10_root_7 : decode cX10_root 7 = .ok (.aload_n 0, 1) := by decide +kernel
theorem dX10_root_8 : decode cX10_root 8 = .ok (.iconst (-1), 1) := by decide +kernel
theorem dX10_root_9 : decode cX10_root 9 = .ok (.invokevirtual 77, 3) := by decide +kernel
theorem dX10_root_12 : decode cX10_root 12 = .ok (.ireturn, 1) := by decide +kernel
theorem dX10_root_13 : decode cX10_root 13 = .ok (.iload_n 2, 1) := by decide +kernel
theorem dX10_root_14 : decode cX10_root 14 = .ok (.iconst 1, 1) := by decide +kernel
theorem dX10_root_15 : decode cX10_root 15 = .ok (.if_icmp .ge 10, 3) := by decide +kernel
theorem dX10_root_18 : decode cX10_root 18 = .ok (.aload_n 0, 1) := by decide +kernel
theorem dX10_root_19 : decode cX10_root 19 = .ok (.bipush (-4), 2) := by decide +kernel
theorem dX10_root_21 : decode cX10_root 21 = .ok (.invokevirtual 77, 3) := by decide +kernel
theorem dX10_root_24 : decode cX10_root 24 = .ok (.ireturn, 1) := by decide +kernel
theorem dX10_root_25 : decode cX10_root 25 = .ok (.iload_n 2, 1) := by decide +kernel
theorem dX10_root_26 : decode cX10_root 26 = .ok (.bipush 8, 2) := by decide +kernel
theorem dX10_root_28 : decode cX10_root 28 = .ok (.if_icmp .le 10, 3) := by decide +kernel
theorem dX10_root_31 : decode cX10_root 31 = .ok (.aload_n 0, 1) := by decide +kernel
theorem dX10_root_32 : decode cX10_root 32 = .ok (.bipush (-6), 2) := by decide +kernel
theorem dX10_root_34 : decode cX10_root 34 = .ok (.invokevirtual 77, 3) := by decide +kernel
theorem dX10_root_37 : decode cX10_root 37 = .ok (.ireturn, 1) := by decide +kernel
theorem dX10_root_38 : decode cX10_root 38 = .ok (.aload_n 0, 1) := by decide +kernel
theorem dX10_root_39 : decode cX10_root 39 = .ok (.getfield 10, 3) := by decide +kernel
theorem dX10_root_42 : decode cX10_root 42 = .ok (.iconst 2, 1) := by decide +kernel
theorem dX10_root_43 : decode cX10_root 43 = .ok (.iload_n 1, 1) := by decide +kernel
theorem dX10_root_44 : decode cX10_root 44 = .ok (.iload_n 2, 1) := by decide +kernel
theorem dX10_root_45 : decode cX10_root 45 = .ok (.invokevirtual 81, 3) := by decide +kernel
theorem dX10_root_48 : decode cX10_root 48 = .ok (.astore_n 3, 1) := by decide +kernel
theorem dX10_root_49 : decode cX10_root 49 = .ok (.aload_n 3, 1) := by decide +kernel
theorem dX10_root_50 : decode cX10_root 50 = .ok (.ifnonnull 10, 3) := by decide +kernel
theorem dX10_root_53 : decode cX10_root 53 = .ok (.aload_n 0, 1) := by decide +kernel
theorem dX10_root_54 : decode cX10_root 54 = .ok (.bipush (-6), 2) := by decide +kernel
theorem dX10_root_56 : decode cX10_root 56 = .ok (.invokevirtual 77, 3) := by decide +kernel
theorem dX10_root_59 : decode cX10_root 59 = .ok (.ireturn, 1) := by decide +kernel
theorem dX10_root_60 : decode cX10_root 60 = .ok (.aload_n 0, 1) := by decide +kernel
theorem dX10_root_61 : decode cX10_root 61 = .ok (.iload_n 1, 1) := by decide +kernel
theorem dX10_root_62 : decode cX10_root 62 = .ok (.invokevirtual 85, 3) := by decide +kernel
theorem dX10_root_65 : decode cX10_root 65 = .ok (.aload_n 3, 1) := by decide +kernel
theorem dX10_root_66 : decode cX10_root 66 = .ok (.getfield 89, 3) := by decide +kernel
theorem dX10_root_69 : decode cX10_root 69 = .ok (.ireturn, 1) := by decide +kernel
def fX10_root (o : Nat) (v1 : Int32) (v2 : Int32) (h : Hz) : Option (Int32 × Hz) := (b2 (fX10_isHost v1 h) fun x1 s2 => (if x1 = 0 then (b1 (tg 10 o s2) fun _ => (b2 (fX10_refuse o (-1) s2) fun x25 s26 => some (x25, s26))) else (if 1 ≤ v2 then (if v2 ≤ 8 then (b1 (gA 10 0 o s2) fun a6 => (b1 (tg 6 a6 s2) fun _ => (b2 (fX6_make a6 2 v1 v2 s2) fun r8 s9 => (oe r8 ((b1 (tg 10 o s9) fun _ => (b2 (fX10_refuse o (-6) s9) fun x12 s13 => some (x12, s13)))) fun a10 => (b1 (tg 10 o s9) fun _ => (b2 (fX10_touch o v1 s9) fun _ s16 => (b1 (gI 5 0 a10 s16) fun x17 => some (x17, s16)))))))) else (b1 (tg 10 o s2) fun _ => (b2 (fX10_refuse o (-6) s2) fun x19 s20 => some (x19, s20)))) else (b1 (tg 10 o s2) fun _ => (b2 (fX10_refuse o (-4) s2) fun x22 s23 => some (x22, s23))))))
set_option maxHeartbeats 4000000 in
set_option maxRecDepth 100000 in
theorem wX10_root_0 {r0 : Int32} {h0 : Hz} (X : zX A D cy p s m args c cX10_root RX10 4) (hlk : meth.locks = false) (hr : meth.sig.returnType = (some .int)) (o : Nat) (v1 : Int32) (v2 : Int32) (h : Hz) (H : Heap) (locs : List Loc) (ls : Array Slot) (hl : lv_has ls 4 [(0, .ref o), (1, .int v1), (2, .int v2)]) (hW : zW A cy D h H) (hS : va_S A s.heap H locs) (h : fX10_root o v1 v2 h = some (r0, h0)) : W p l e ({ frames := 3, cells := 3, slots := 27, locals := 63 } : Room) s m args below meth c H locs 0 0 (MQ below (va_Qi (fun r1 u => r1 = r0 ∧ u = h0) (zB A D cy) A) args s 3 27 A) (F0 m 0 ls []) := by
  obtain ⟨hx, hb, hts, hown, hK9, hml, hN9, hA9⟩ := id X
  unfold fX10_root at h
  refine lv_iload_n hx hb dX10_root_0 rfl (lv_at hl 1 rfl) ?_
  replace h := b2_some h
  obtain ⟨x1, s2, gs2, h⟩ := h
  refine z_callSi (rest := []) X hW hS (cX10_isHost_met gs2) kb_X10_isHost ks_X10_isHost kl_X10_73 rfl rfl ⟨Nat.le_of_ble_eq_true rfl, Nat.le_of_ble_eq_true rfl⟩ rfl rfl (by decide) hl.1 dX10_root_1 ⟨(by decide), (by decide)⟩ (fun H locs hW hS => ?_)
  refine lv_if_ne (tgt := 13) hx hb dX10_root_4 (by decide) (fun c3 => ?_) (fun c3 => ?_)
  · replace h := it_f h c3
    refine lv_iload_n hx hb dX10_root_13 rfl (lv_at hl 2 rfl) ?_
    refine lv_iconst (v := 1) hx hb dX10_root_14 (by decide) ?_
    refine lv_icmp_ge (tgt := 25) hx hb dX10_root_15 (by decide) (fun c4 => ?_) (fun c4 => ?_)
    · replace h := it_t h c4
      refine lv_iload_n hx hb dX10_root_25 rfl (lv_at hl 2 rfl) ?_
      refine lv_bipush (v := 8) hx hb dX10_root_26 (by decide) ?_
      refine lv_icmp_le (tgt := 38) hx hb dX10_root_28 (by decide) (fun c5 => ?_) (fun c5 => ?_)
      · replace h := it_t h c5
        refine lv_aload_n hx hb dX10_root_38 rfl (lv_at hl 0 rfl) ?_
        replace h := b1_some h
        obtain ⟨a6, ga6, h⟩ := h
        refine z_getA X hW ga6 kX10 (by decide) (by decide) kf_X10_10 dX10_root_39 ?_
        refine lv_iconst (v := 2) hx hb dX10_root_42 (by decide) ?_
        refine lv_iload_n hx hb dX10_root_43 rfl (lv_at hl 1 rfl) ?_
        refine lv_iload_n hx hb dX10_root_44 rfl (lv_at hl 2 rfl) ?_
        replace h := b1_some h
        obtain ⟨q7, gq7, h⟩ := h
        replace h := b2_some h
        obtain ⟨r8, s9, gs9, h⟩ := h
        refine z_callVq (rest := []) X hW hS (cX6_make_met gs9) kb_X6_make kv_X6_make kl_X10_81 (it_v gq7).1 kX6 rfl rfl ⟨Nat.le_of_ble_eq_true rfl, Nat.le_of_ble_eq_true rfl⟩ rfl rfl (by decide) hl.1 dX10_root_45 ⟨(by decide), (by decide)⟩ (fun H locs hW hS => ?_)
        refine z_astore_n (lv' := [(3, va_rf r8), (0, .ref o), (1, .int v1), (2, .int v2)]) hx hb dX10_root_48 rfl hl (by decide) rfl (fun ls hl => ?_)
        refine z_aload_n hx hb dX10_root_49 rfl (lv_at hl 0 rfl) ?_
        cases r8 with
        | none =>
          replace h := oe_n h
          have hl : lv_has ls 4 [(3, .null), (0, .ref o), (1, .int v1), (2, .int v2)] := hl
          refine lv_ifnonnullN hx hb dX10_root_50 ?_
          refine lv_aload_n hx hb dX10_root_53 rfl (lv_at hl 1 rfl) ?_
          refine lv_bipush (v := (-6)) hx hb dX10_root_54 (by decide) ?_
          replace h := b1_some h
          obtain ⟨q11, gq11, h⟩ := h
          replace h := b2_some h
          obtain ⟨x12, s13, gs13, h⟩ := h
          refine z_callVi (rest := []) X hW hS (cX10_refuse_met gs13) kb_X10_refuse kv_X10_refuse kl_X10_77 (it_v gq11).1 kX10 rfl rfl ⟨Nat.le_of_ble_eq_true rfl, Nat.le_of_ble_eq_true rfl⟩ rfl rfl (by decide) hl.1 dX10_root_56 ⟨(by decide), (by decide)⟩ (fun H locs hW hS => ?_)
          exact z_eti X hlk hr hW hS h (by decide) (by decide) dX10_root_59
        | some a10 =>
          replace h := oe_s h
          have hl : lv_has ls 4 [(3, .ref a10), (0, .ref o), (1, .int v1), (2, .int v2)] := hl
          refine lv_ifnonnull (tgt := 60) hx hb dX10_root_50 (by decide) ?_
          refine lv_aload_n hx hb dX10_root_60 rfl (lv_at hl 1 rfl) ?_
          refine lv_iload_n hx hb dX10_root_61 rfl (lv_at hl 2 rfl) ?_
          replace h := b1_some h
          obtain ⟨q14, gq14, h⟩ := h
          replace h := b2_some h
          obtain ⟨_ur15, s16, gs16, h⟩ := h
          refine z_callVv (rest := []) X hW hS (cX10_touch_met gs16) kb_X10_touch kv_X10_touch kl_X10_85 (it_v gq14).1 kX10 rfl rfl ⟨Nat.le_of_ble_eq_true rfl, Nat.le_of_ble_eq_true rfl⟩ rfl rfl (by decide) hl.1 dX10_root_62 ⟨(by decide), (by decide)⟩ (fun H locs hW hS => ?_)
          refine lv_aload_n hx hb dX10_root_65 rfl (lv_at hl 0 rfl) ?_
          replace h := b1_some h
          obtain ⟨x17, gx17, h⟩ := h
          refine z_getI X hW gx17 kX5 (by decide) (by decide) kf_X10_89 dX10_root_66 ?_
          exact z_eti X hlk hr hW hS h (by decide) (by decide) dX10_root_69
      · replace h := it_f h c5
        refine lv_aload_n hx hb dX10_root_31 rfl (lv_at hl 0 rfl) ?_
        refine lv_bipush (v := (-6)) hx hb dX10_root_32 (by decide) ?_
        replace h := b1_some h
        obtain ⟨q18, gq18, h⟩ := h
        replace h := b2_some h
        obtain ⟨x19, s20, gs20, h⟩ := h
        refine z_callVi (rest := []) X hW hS (cX10_refuse_met gs20) kb_X10_refuse kv_X10_refuse kl_X10_77 (it_v gq18).1 kX10 rfl rfl ⟨Nat.le_of_ble_eq_true rfl, Nat.le_of_ble_eq_true rfl⟩ rfl rfl (by decide) hl.1 dX10_root_34 ⟨(by decide), (by decide)⟩ (fun H locs hW hS => ?_)
        exact z_eti X hlk hr hW hS h (by decide) (by decide) dX10_root_37
    · replace h := it_f h c4
      refine lv_aload_n hx hb dX10_root_18 rfl (lv_at hl 0 rfl) ?_
      refine lv_bipush (v := (-4)) hx hb dX10_root_19 (by decide) ?_
      replace h := b1_some h
      obtain ⟨q21, gq21, h⟩ := h
      replace h := b2_some h
      obtain ⟨x22, s23, gs23, h⟩ := h
      refine z_callVi (rest := []) X hW hS (cX10_refuse_met gs23) kb_X10_refuse kv_X10_refuse kl_X10_77 (it_v gq21).1 kX10 rfl rfl ⟨Nat.le_of_ble_eq_true rfl, Nat.le_of_ble_eq_true rfl⟩ rfl rfl (by decide) hl.1 dX10_root_21 ⟨(by decide), (by decide)⟩ (fun H locs hW hS => ?_)
      exact z_eti X hlk hr hW hS h (by decide) (by decide) dX10_root_24
  · replace h := it_t h c3
    refine lv_aload_n hx hb dX10_root_7 rfl (lv_at hl 0 rfl) ?_
    refine lv_iconst (v := (-1)) hx hb dX10_root_8 (by decide) ?_
    replace h := b1_some h
    obtain ⟨q24, gq24, h⟩ := h
    replace h := b2_some h
    obtain ⟨x25, s26, gs26, h⟩ := h
    refine z_callVi (rest := []) X hW hS (cX10_refuse_met gs26) kb_X10_refuse kv_X10_refuse kl_X10_77 (it_v gq24).1 kX10 rfl rfl ⟨Nat.le_of_ble_eq_true rfl, Nat.le_of_ble_eq_true rfl⟩ rfl rfl (by decide) hl.1 dX10_root_9 ⟨(by decide), (by decide)⟩ (fun H locs hW hS => ?_)
    exact z_eti X hlk hr hW hS h (by decide) (by decide) dX10_root_12

set_option maxHeartbeats 4000000 in
set_option maxRecDepth 100000 in
theorem cX10_root_met {l : Launch} {A : Nat → Prop} {D : va_G} {cy : Nat → ClassId} {r0 : Int32} {h0 : Hz} {o : Nat} {v1 : Int32} {v2 : Int32} {h : Hz} (g : fX10_root o v1 v2 h = some (r0, h0)) : Met l yX10_root (Cond.code yX10_root cX10_root 4 (some .int) :: wT) ({ frames := 3, cells := 3, slots := 27, locals := 63 } : Room) (va_Pc [.ref o, .int v1, .int v2] (zS A D cy h)) (va_Qi (fun r1 u => r1 = r0 ∧ u = h0) (zB A D cy) A) 3 27 A := by
  refine Met.ofW (cc := cX10_root) (maxL := 4) (ret := (some .int)) (by decide) rfl ?_
  intro p e s m args below meth c s₁ B hml hv
  obtain ⟨rfl, hW, hK, hN, hA⟩ := hv
  have X : zX A D cy p s m _ c cX10_root RX10 4 := ⟨B.exec, B.bytes, fun w hw => atoms_spec (ws := Cond.code yX10_root cX10_root 4 (some .int) :: wT) B.pre w (List.mem_cons_of_mem _ hw), findClass_of_methodNamed B.named, hK, hml, hN, hA⟩
  have hl := lv_entry [.ref o, .int v1, .int v2] (n := 4) (Nat.le_of_ble_eq_true rfl)
  rw [lg_entry_eq]
  generalize (lg_sl [.ref o, .int v1, .int v2] ++ List.replicate (4 - (lg_sl [.ref o, .int v1, .int v2]).length) Slot.unset).toArray = ls at hl ⊢
  have hl : lv_has ls 4 [(0, .ref o), (1, .int v1), (2, .int v2)] := hl
  exact wX10_root_0 X B.notSynchronized B.returns o v1 v2 _ _ _ _ (lv_sub hl [0, 1, 2] rfl) hW va_S.rf g

theorem dX10_addRoots_0 : decode cX10_addRoots 0 = .ok (.iconst 0, 1) := by decide +kernel
theorem dX10_addRoots_1 : decode cX10_addRoots 1 = .ok (.istore_n 2, 1) := by decide +kernel
theorem dX10_addRoots_2 : decode cX10_addRoots 2 = .ok (.iload_n 2, 1) := by decide +kernel
theorem dX10_addRoots_3 : decode cX10_addRoots 3 = .ok (.aload_n 0, 1) := by decide +kernel
theorem dX10_addRoots_4 : decode cX10_addRoots 4 = .ok (.getfield 10, 3) := by decide +kernel
theorem dX10_addRoots_7 : decode cX10_addRoots 7 = .ok (.invokevirtual 241, 3) := by decide +kernel
theorem dX10_addRoots_10 : decode cX10_addRoots 10 = .ok (.if_icmp .ge 46, 3) := by decide +kernel
theorem dX10_addRoots_13 : decode cX10_addRoots 13 = .ok (.aload_n 0, 1) := by decide +kernel
theorem dX10_addRoots_14 : decode cX10_addRoots 14 = .ok (.getfield 10, 3) := by decide +kernel
theorem dX10_addRoots_17 : decode cX10_addRoots 17 = .ok (.iload_n 2, 1) := by decide +kernel
theorem dX10_addRoots_18 : decode cX10_addRoots 18 = .ok (.invokevirtual 94, 3) := by decide +kernel
theorem dX10_addRoots_21 : decode cX10_addRoots 21 = .ok (.astore_n 3, 1) := by decide +kernel
theorem dX10_addRoots_22 : decode cX10_addRoots 22 = .ok (.aload_n 3, 1) := by decide +kernel
theorem dX10_addRoots_23 : decode cX10_addRoots 23 = .ok (.ifnull 27, 3) := by decide +kernel
theorem dX10_addRoots_26 : decode cX10_addRoots 26 = .ok (.aload_n 3, 1) := by decide +kernel
theorem dX10_addRoots_27 : decode cX10_addRoots 27 = .ok (.getfield 109, 3) := by decide +kernel
theorem dX10_addRoots_30 : decode cX10_addRoots 30 = .ok (.iload_n 1, 1) := by decide +kernel
theorem dX10_addRoots_31 : decode cX10_addRoots 31 = .ok (.if_icmp .ne 19, 3) := by decide +kernel
theorem dX10_addRoots_34 : decode cX10_addRoots 34 = .ok (.aload_n 3, 1) := by decide +kernel
theorem dX10_addRoots_35 : decode cX10_addRoots 35 = .ok (.getfield 173, 3) := by decide +kernel
theorem dX10_addRoots_38 : decode cX10_addRoots 38 = .ok (.iconst 2, 1) := by decide +kernel
theorem dX10_addRoots_39 : decode cX10_addRoots 39 = .ok (.if_icmp .ne 11, 3) := by decide +kernel
theorem dX10_addRoots_42 : decode cX10_addRoots 42 = .ok (.aload_n 0, 1) := by decide +kernel
theorem dX10_addRoots_43 : decode cX10_addRoots 43 = .ok (.getfield 49, 3) := by decide +kernel
theorem dX10_addRoots_46 : decode cX10_addRoots 46 = .ok (.aload_n 3, 1) := by decide +kernel
theorem dX10_addRoots_47 : decode cX10_addRoots 47 = .ok (.invokevirtual 314, 3) := by decide +kernel
theorem dX10_addRoots_50 : decode cX10_addRoots 50 = .ok (.iinc 2 1, 3) := by decide +kernel
theorem dX10_addRoots_53 : decode cX10_addRoots 53 = .ok (.goto (-51), 3) := by decide +kernel
theorem dX10_addRoots_56 : decode cX10_addRoots 56 = .ok (.return_, 1) := by decide +kernel
def fX10_addRoots_2 : Nat → Nat → Int32 → Int32 → Hz → Option (Unit × Hz)
  | 0, _, _, _, _ => none
  | n + 1, o, v1, v2, h => (b1 (gA 10 0 o h) fun a1 => (b1 (tg 6 a1 h) fun _ => (b2 (fX6_size a1 h) fun x3 s4 => (if x3 ≤ v2 then some ((), s4) else (b1 (gA 10 0 o s4) fun a6 => (b1 (tg 6 a6 s4) fun _ => (b2 (fX6_find a6 v2 s4) fun r8 s9 => (oe r8 (fX10_addRoots_2 n o v1 (v2 + 1) s9) fun a10 => (b1 (gI 5 2 a10 s9) fun x11 => (if x11 = v1 then (b1 (gI 5 1 a10 s9) fun x13 => (if x13 = 2 then (b1 (gA 10 7 o s9) fun a15 => (b1 (tg 3 a15 s9) fun _ => (b2 (fX3_add a15 (some a10) s9) fun _ s18 => fX10_addRoots_2 n o v1 (v2 + 1) s18))) else fX10_addRoots_2 n o v1 (v2 + 1) s9)) else fX10_addRoots_2 n o v1 (v2 + 1) s9))))))))))
set_option maxHeartbeats 4000000 in
set_option maxRecDepth 100000 in
theorem wX10_addRoots_2 {r0 : Unit} {h0 : Hz} (X : zX A D cy p s m args c cX10_addRoots RX10 4) (hlk : meth.locks = false) (hr : meth.sig.returnType = none) : ∀ (n : Nat) (o : Nat) (v1 : Int32) (v2 : Int32) (h : Hz) (H : Heap) (locs : List Loc) (ls : Array Slot) (hl : lv_has ls 4 [(0, .ref o), (1, .int v1), (2, .int v2)]) (hW : zW A cy D h H) (hS : va_S A s.heap H locs) (h : fX10_addRoots_2 n o v1 v2 h = some (r0, h0)), W p l e ({ frames := 1, cells := 0, slots := 0, locals := 22 } : Room) s m args below meth c H locs 0 0 (MQ below (va_Qv (fun u => u = h0) (zB A D cy) A) args s 0 0 A) (F0 m 2 ls []) := by
  obtain ⟨hx, hb, hts, hown, hK9, hml, hN9, hA9⟩ := id X
  intro n
  induction n with
  | zero =>
    intro o v1 v2 h H locs ls hl hW hS h
    rw [fX10_addRoots_2] at h
    cases h
  | succ n ih =>
    intro o v1 v2 h H locs ls hl hW hS h
    rw [fX10_addRoots_2] at h
    refine lv_iload_n hx hb dX10_addRoots_2 rfl (lv_at hl 2 rfl) ?_
    refine lv_aload_n hx hb dX10_addRoots_3 rfl (lv_at hl 0 rfl) ?_
    replace h := b1_some h
    obtain ⟨a1, ga1, h⟩ := h
    refine z_getA X hW ga1 kX10 (by decide) (by decide) kf_X10_10 dX10_addRoots_4 ?_
    replace h := b1_some h
    obtain ⟨q2, gq2, h⟩ := h
    replace h := b2_some h
    obtain ⟨x3, s4, gs4, h⟩ := h
    refine z_callVi (rest := [.int v2]) X hW hS (cX6_size_met gs4) kb_X6_size kv_X6_size kl_X10_241 (it_v gq2).1 kX6 rfl rfl ⟨Nat.le_of_ble_eq_true rfl, Nat.le_of_ble_eq_true rfl⟩ rfl rfl (Nat.le_of_ble_eq_true rfl) hl.1 dX10_addRoots_7 ⟨(by decide), (by decide)⟩ (fun H locs hW hS => ?_)
    refine lv_icmp_ge (tgt := 56) hx hb dX10_addRoots_10 (by decide) (fun c5 => ?_) (fun c5 => ?_)
    · replace h := it_t h c5
      exact z_etv X hlk hr hW hS h (by decide) (by decide) dX10_addRoots_56
    · replace h := it_f h c5
      refine lv_aload_n hx hb dX10_addRoots_13 rfl (lv_at hl 0 rfl) ?_
      replace h := b1_some h
      obtain ⟨a6, ga6, h⟩ := h
      refine z_getA X hW ga6 kX10 (by decide) (by decide) kf_X10_10 dX10_addRoots_14 ?_
      refine lv_iload_n hx hb dX10_addRoots_17 rfl (lv_at hl 2 rfl) ?_
      replace h := b1_some h
      obtain ⟨q7, gq7, h⟩ := h
      replace h := b2_some h
      obtain ⟨r8, s9, gs9, h⟩ := h
      refine z_callVq (rest := []) X hW hS (cX6_find_met gs9) kb_X6_find kv_X6_find kl_X10_94 (it_v gq7).1 kX6 rfl rfl ⟨Nat.le_of_ble_eq_true rfl, Nat.le_of_ble_eq_true rfl⟩ rfl rfl (by decide) hl.1 dX10_addRoots_18 ⟨(by decide), (by decide)⟩ (fun H locs hW hS => ?_)
      refine z_astore_n (lv' := [(3, va_rf r8), (0, .ref o), (1, .int v1), (2, .int v2)]) hx hb dX10_addRoots_21 rfl hl (by decide) rfl (fun ls hl => ?_)
      refine z_aload_n hx hb dX10_addRoots_22 rfl (lv_at hl 0 rfl) ?_
      cases r8 with
      | none =>
        replace h := oe_n h
        have hl : lv_has ls 4 [(3, .null), (0, .ref o), (1, .int v1), (2, .int v2)] := hl
        refine lv_ifnullN (tgt := 50) hx hb dX10_addRoots_23 (by decide) ?_
        refine lv_iinc (v := (v2 + 1)) (lv' := [(2, .int (v2 + 1)), (3, .null), (0, .ref o), (1, .int v1)]) hx hb dX10_addRoots_50 hl (k := 3) rfl rfl (by decide) rfl (fun ls hl => ?_)
        refine lv_goto (tgt := 2) hx hb dX10_addRoots_53 (by decide) ?_
        exact ih o v1 (v2 + 1) _ _ _ _ (lv_sub hl [2, 3, 0] rfl) hW hS h
      | some a10 =>
        replace h := oe_s h
        have hl : lv_has ls 4 [(3, .ref a10), (0, .ref o), (1, .int v1), (2, .int v2)] := hl
        refine lv_ifnull hx hb dX10_addRoots_23 ?_
        refine lv_aload_n hx hb dX10_addRoots_26 rfl (lv_at hl 0 rfl) ?_
        replace h := b1_some h
        obtain ⟨x11, gx11, h⟩ := h
        refine z_getI X hW gx11 kX5 (by decide) (by decide) kf_X10_109 dX10_addRoots_27 ?_
        refine lv_iload_n hx hb dX10_addRoots_30 rfl (lv_at hl 2 rfl) ?_
        refine lv_icmp_ne (tgt := 50) hx hb dX10_addRoots_31 (by decide) (fun c12 => ?_) (fun c12 => ?_)
        · replace h := it_f h c12
          refine lv_iinc (v := (v2 + 1)) (lv' := [(2, .int (v2 + 1)), (3, .ref a10), (0, .ref o), (1, .int v1)]) hx hb dX10_addRoots_50 hl (k := 3) rfl rfl (by decide) rfl (fun ls hl => ?_)
          refine lv_goto (tgt := 2) hx hb dX10_addRoots_53 (by decide) ?_
          exact ih o v1 (v2 + 1) _ _ _ _ (lv_sub hl [2, 3, 0] rfl) hW hS h
        · replace h := it_t h c12
          refine lv_aload_n hx hb dX10_addRoots_34 rfl (lv_at hl 0 rfl) ?_
          replace h := b1_some h
          obtain ⟨x13, gx13, h⟩ := h
          refine z_getI X hW gx13 kX5 (by decide) (by decide) kf_X10_173 dX10_addRoots_35 ?_
          refine lv_iconst (v := 2) hx hb dX10_addRoots_38 (by decide) ?_
          refine lv_icmp_ne (tgt := 50) hx hb dX10_addRoots_39 (by decide) (fun c14 => ?_) (fun c14 => ?_)
          · replace h := it_f h c14
            refine lv_iinc (v := (v2 + 1)) (lv' := [(2, .int (v2 + 1)), (3, .ref a10), (0, .ref o), (1, .int v1)]) hx hb dX10_addRoots_50 hl (k := 3) rfl rfl (by decide) rfl (fun ls hl => ?_)
            refine lv_goto (tgt := 2) hx hb dX10_addRoots_53 (by decide) ?_
            exact ih o v1 (v2 + 1) _ _ _ _ (lv_sub hl [2, 3, 0] rfl) hW hS h
          · replace h := it_t h c14
            refine lv_aload_n hx hb dX10_addRoots_42 rfl (lv_at hl 1 rfl) ?_
            replace h := b1_some h
            obtain ⟨a15, ga15, h⟩ := h
            refine z_getA X hW ga15 kX10 (by decide) (by decide) kf_X10_49 dX10_addRoots_43 ?_
            refine lv_aload_n hx hb dX10_addRoots_46 rfl (lv_at hl 0 rfl) ?_
            replace h := b1_some h
            obtain ⟨q16, gq16, h⟩ := h
            replace h := b2_some h
            obtain ⟨_ur17, s18, gs18, h⟩ := h
            refine z_callVv (rest := []) X hW hS (cX3_add_met gs18) kb_X3_add kv_X3_add kl_X10_314 (it_v gq16).1 kX3 rfl rfl ⟨Nat.le_of_ble_eq_true rfl, Nat.le_of_ble_eq_true rfl⟩ rfl rfl (by decide) hl.1 dX10_addRoots_47 ⟨(by decide), (by decide)⟩ (fun H locs hW hS => ?_)
            refine lv_iinc (v := (v2 + 1)) (lv' := [(2, .int (v2 + 1)), (3, .ref a10), (0, .ref o), (1, .int v1)]) hx hb dX10_addRoots_50 hl (k := 3) rfl rfl (by decide) rfl (fun ls hl => ?_)
            refine lv_goto (tgt := 2) hx hb dX10_addRoots_53 (by decide) ?_
            exact ih o v1 (v2 + 1) _ _ _ _ (lv_sub hl [2, 3, 0] rfl) hW hS h

def fX10_addRoots (o : Nat) (v1 : Int32) (h : Hz) : Option (Unit × Hz) := fX10_addRoots_2 100000 o v1 0 h
set_option maxHeartbeats 4000000 in
set_option maxRecDepth 100000 in
theorem wX10_addRoots_0 {r0 : Unit} {h0 : Hz} (X : zX A D cy p s m args c cX10_addRoots RX10 4) (hlk : meth.locks = false) (hr : meth.sig.returnType = none) (o : Nat) (v1 : Int32) (h : Hz) (H : Heap) (locs : List Loc) (ls : Array Slot) (hl : lv_has ls 4 [(0, .ref o), (1, .int v1)]) (hW : zW A cy D h H) (hS : va_S A s.heap H locs) (h : fX10_addRoots o v1 h = some (r0, h0)) : W p l e ({ frames := 1, cells := 0, slots := 0, locals := 22 } : Room) s m args below meth c H locs 0 0 (MQ below (va_Qv (fun u => u = h0) (zB A D cy) A) args s 0 0 A) (F0 m 0 ls []) := by
  obtain ⟨hx, hb, hts, hown, hK9, hml, hN9, hA9⟩ := id X
  unfold fX10_addRoots at h
  refine lv_iconst (v := 0) hx hb dX10_addRoots_0 (by decide) ?_
  refine lv_istore_n (lv' := [(2, .int 0), (0, .ref o), (1, .int v1)]) hx hb dX10_addRoots_1 rfl hl (by decide) rfl (fun ls hl => ?_)
  exact wX10_addRoots_2 X hlk hr _ o v1 0 _ _ _ _ (lv_sub hl [1, 2, 0] rfl) hW hS h

set_option maxHeartbeats 4000000 in
set_option maxRecDepth 100000 in
theorem cX10_addRoots_met {l : Launch} {A : Nat → Prop} {D : va_G} {cy : Nat → ClassId} {r0 : Unit} {h0 : Hz} {o : Nat} {v1 : Int32} {h : Hz} (g : fX10_addRoots o v1 h = some (r0, h0)) : Met l yX10_addRoots (Cond.code yX10_addRoots cX10_addRoots 4 none :: wT) ({ frames := 1, cells := 0, slots := 0, locals := 22 } : Room) (va_Pc [.ref o, .int v1] (zS A D cy h)) (va_Qv (fun u => u = h0) (zB A D cy) A) 0 0 A := by
  refine Met.ofW (cc := cX10_addRoots) (maxL := 4) (ret := none) (by decide) rfl ?_
  intro p e s m args below meth c s₁ B hml hv
  obtain ⟨rfl, hW, hK, hN, hA⟩ := hv
  have X : zX A D cy p s m _ c cX10_addRoots RX10 4 := ⟨B.exec, B.bytes, fun w hw => atoms_spec (ws := Cond.code yX10_addRoots cX10_addRoots 4 none :: wT) B.pre w (List.mem_cons_of_mem _ hw), findClass_of_methodNamed B.named, hK, hml, hN, hA⟩
  have hl := lv_entry [.ref o, .int v1] (n := 4) (Nat.le_of_ble_eq_true rfl)
  rw [lg_entry_eq]
  generalize (lg_sl [.ref o, .int v1] ++ List.replicate (4 - (lg_sl [.ref o, .int v1]).length) Slot.unset).toArray = ls at hl ⊢
  have hl : lv_has ls 4 [(0, .ref o), (1, .int v1)] := hl
  exact wX10_addRoots_0 X B.notSynchronized B.returns o v1 _ _ _ _ (lv_sub hl [0, 1] rfl) hW va_S.rf g

theorem dX10_isNear_0 : decode cX10_isNear 0 = .ok (.aload_n 0, 1) := by decide +kernel
theorem dX10_isNear_1 : decode cX10_isNear 1 = .ok (.getfield 49, 3) := by decide +kernel
theorem dX10_isNear_4 : decode cX10_isNear 4 = .ok (.invokevirtual 305, 3) := by decide +kernel
theorem dX10_isNear_7 : decode cX10_isNear 7 = .ok (.aload_n 0, 1) := by decide +kernel
theorem dX10_isNear_8 : decode cX10_isNear 8 = .ok (.aload_n 1, 1) := by decide +kernel
theorem dX10_isNear_9 : decode cX10_isNear 9 = .ok (.getfield 109, 3) := by decide +kernel
theorem dX10_isNear_12 : decode cX10_isNear 12 = .ok (.invokevirtual 308, 3) := by decide +kernel
theorem dX10_isNear_15 : decode cX10_isNear 15 = .ok (.aload_n 0, 1) := by decide +kernel
theorem dX10_isNear_16 : decode cX10_isNear 16 = .ok (.getfield 49, 3) := by decide +kernel
theorem dX10_isNear_19 : decode cX10_isNear 19 = .ok (.invokevirtual 311, 3) := by decide +kernel
theorem dX10_isNear_22 : decode cX10_isNear 22 = .ok (.aload_n 0, 1) := by decide +kernel
theorem dX10_isNear_23 : decode cX10_isNear 23 = .ok (.getfield 49, 3) := by decide +kernel
theorem dX10_isNear_26 : decode cX10_isNear 26 = .ok (.aload_n 1, 1) := by decide +kernel
theorem dX10_isNear_27 : decode cX10_isNear 27 = .ok (.invokevirtual 244, 3) := by decide +kernel
theorem dX10_isNear_30 : decode cX10_isNear 30 = .ok (.ireturn, 1) := by decide +kernel
def fX10_isNear (o : Nat) (v1 : Option Nat) (h : Hz) : Option (Int32 × Hz) := (b1 (gA 10 7 o h) fun a1 => (b1 (tg 3 a1 h) fun _ => (b2 (fX3_restart a1 h) fun _ s4 => b1 v1 fun a5 => (b1 (gI 5 2 a5 s4) fun x6 => (b1 (tg 10 o s4) fun _ => (b2 (fX10_addRoots o x6 s4) fun _ s9 => (b1 (gA 10 7 o s9) fun a10 => (b1 (tg 3 a10 s9) fun _ => (b2 (fX3_spread a10 s9) fun _ s13 => (b1 (gA 10 7 o s13) fun a14 => (b1 (tg 3 a14 s13) fun _ => (b2 (fX3_has a14 (some a5) s13) fun x16 s17 => rz x16 s17))))))))))))
set_option maxHeartbeats 4000000 in
set_option maxRecDepth 100000 in
theorem wX10_isNear_0 {r0 : Int32} {h0 : Hz} (X : zX A D cy p s m args c cX10_isNear RX10 2) (hlk : meth.locks = false) (hr : meth.sig.returnType = (some .boolean)) (o : Nat) (v1 : Option Nat) (h : Hz) (H : Heap) (locs : List Loc) (ls : Array Slot) (hl : lv_has ls 2 [(0, .ref o), (1, va_rf v1)]) (hW : zW A cy D h H) (hS : va_S A s.heap H locs) (h : fX10_isNear o v1 h = some (r0, h0)) : W p l e ({ frames := 4, cells := 0, slots := 0, locals := 87 } : Room) s m args below meth c H locs 0 0 (MQ below (va_Qi (fun r1 u => r1 = r0 ∧ u = h0) (zB A D cy) A) args s 0 0 A) (F0 m 0 ls []) := by
  obtain ⟨hx, hb, hts, hown, hK9, hml, hN9, hA9⟩ := id X
  unfold fX10_isNear at h
  refine lv_aload_n hx hb dX10_isNear_0 rfl (lv_at hl 0 rfl) ?_
  replace h := b1_some h
  obtain ⟨a1, ga1, h⟩ := h
  refine z_getA X hW ga1 kX10 (by decide) (by decide) kf_X10_49 dX10_isNear_1 ?_
  replace h := b1_some h
  obtain ⟨q2, gq2, h⟩ := h
  replace h := b2_some h
  obtain ⟨_ur3, s4, gs4, h⟩ := h
  refine z_callVv (rest := []) X hW hS (cX3_restart_met gs4) kb_X3_restart kv_X3_restart kl_X10_305 (it_v gq2).1 kX3 rfl rfl ⟨Nat.le_of_ble_eq_true rfl, Nat.le_of_ble_eq_true rfl⟩ rfl rfl (by decide) hl.1 dX10_isNear_4 ⟨(by decide), (by decide)⟩ (fun H locs hW hS => ?_)
  refine lv_aload_n hx hb dX10_isNear_7 rfl (lv_at hl 0 rfl) ?_
  refine z_aload_n hx hb dX10_isNear_8 rfl (lv_at hl 1 rfl) ?_
  replace h := b1_some h
  obtain ⟨a5, ea5, h⟩ := h
  subst ea5
  replace h := b1_some h
  obtain ⟨x6, gx6, h⟩ := h
  refine z_getI X hW gx6 kX5 (by decide) (by decide) kf_X10_109 dX10_isNear_9 ?_
  replace h := b1_some h
  obtain ⟨q7, gq7, h⟩ := h
  replace h := b2_some h
  obtain ⟨_ur8, s9, gs9, h⟩ := h
  refine z_callVv (rest := []) X hW hS (cX10_addRoots_met gs9) kb_X10_addRoots kv_X10_addRoots kl_X10_308 (it_v gq7).1 kX10 rfl rfl ⟨Nat.le_of_ble_eq_true rfl, Nat.le_of_ble_eq_true rfl⟩ rfl rfl (by decide) hl.1 dX10_isNear_12 ⟨(by decide), (by decide)⟩ (fun H locs hW hS => ?_)
  refine lv_aload_n hx hb dX10_isNear_15 rfl (lv_at hl 0 rfl) ?_
  replace h := b1_some h
  obtain ⟨a10, ga10, h⟩ := h
  refine z_getA X hW ga10 kX10 (by decide) (by decide) kf_X10_49 dX10_isNear_16 ?_
  replace h := b1_some h
  obtain ⟨q11, gq11, h⟩ := h
  replace h := b2_some h
  obtain ⟨_ur12, s13, gs13, h⟩ := h
  refine z_callVv (rest := []) X hW hS (cX3_spread_met gs13) kb_X3_spread kv_X3_spread kl_X10_311 (it_v gq11).1 kX3 rfl rfl ⟨Nat.le_of_ble_eq_true rfl, Nat.le_of_ble_eq_true rfl⟩ rfl rfl (by decide) hl.1 dX10_isNear_19 ⟨(by decide), (by decide)⟩ (fun H locs hW hS => ?_)
  refine lv_aload_n hx hb dX10_isNear_22 rfl (lv_at hl 0 rfl) ?_
  replace h := b1_some h
  obtain ⟨a14, ga14, h⟩ := h
  refine z_getA X hW ga14 kX10 (by decide) (by decide) kf_X10_49 dX10_isNear_23 ?_
  refine lv_aload_n hx hb dX10_isNear_26 rfl (lv_at hl 1 rfl) ?_
  replace h := b1_some h
  obtain ⟨q15, gq15, h⟩ := h
  replace h := b2_some h
  obtain ⟨x16, s17, gs17, h⟩ := h
  refine z_callVi (rest := []) X hW hS (cX3_has_met gs17) kb_X3_has kv_X3_has kl_X10_244 (it_v gq15).1 kX3 rfl rfl ⟨Nat.le_of_ble_eq_true rfl, Nat.le_of_ble_eq_true rfl⟩ rfl rfl (by decide) hl.1 dX10_isNear_27 ⟨(by decide), (by decide)⟩ (fun H locs hW hS => ?_)
  exact z_etz X hlk hr hW hS h (by decide) (by decide) dX10_isNear_30

set_option maxHeartbeats 4000000 in
set_option maxRecDepth 100000 in
theorem cX10_isNear_met {l : Launch} {A : Nat → Prop} {D : va_G} {cy : Nat → ClassId} {r0 : Int32} {h0 : Hz} {o : Nat} {v1 : Option Nat} {h : Hz} (g : fX10_isNear o v1 h = some (r0, h0)) : Met l yX10_isNear (Cond.code yX10_isNear cX10_isNear 2 (some .boolean) :: wT) ({ frames := 4, cells := 0, slots := 0, locals := 87 } : Room) (va_Pc [.ref o, va_rf v1] (zS A D cy h)) (va_Qi (fun r1 u => r1 = r0 ∧ u = h0) (zB A D cy) A) 0 0 A := by
  refine Met.ofW (cc := cX10_isNear) (maxL := 2) (ret := (some .boolean)) (by decide) rfl ?_
  intro p e s m args below meth c s₁ B hml hv
  obtain ⟨rfl, hW, hK, hN, hA⟩ := hv
  have X : zX A D cy p s m _ c cX10_isNear RX10 2 := ⟨B.exec, B.bytes, fun w hw => atoms_spec (ws := Cond.code yX10_isNear cX10_isNear 2 (some .boolean) :: wT) B.pre w (List.mem_cons_of_mem _ hw), findClass_of_methodNamed B.named, hK, hml, hN, hA⟩
  cases v1 with
  | none =>
    have hl := lv_entry [.ref o, va_rf none] (n := 2) (Nat.le_of_ble_eq_true rfl)
    rw [lg_entry_eq]
    generalize (lg_sl [.ref o, va_rf none] ++ List.replicate (2 - (lg_sl [.ref o, va_rf none]).length) Slot.unset).toArray = ls at hl ⊢
    have hl : lv_has ls 2 [(0, .ref o), (1, va_rf none)] := hl
    exact wX10_isNear_0 X B.notSynchronized B.returns o none _ _ _ _ (lv_sub hl [0, 1] rfl) hW va_S.rf g
  | some v1 =>
    have hl := lv_entry [.ref o, va_rf (some v1)] (n := 2) (Nat.le_of_ble_eq_true rfl)
    rw [lg_entry_eq]
    generalize (lg_sl [.ref o, va_rf (some v1)] ++ List.replicate (2 - (lg_sl [.ref o, va_rf (some v1)]).length) Slot.unset).toArray = ls at hl ⊢
    have hl : lv_has ls 2 [(0, .ref o), (1, va_rf (some v1))] := hl
    exact wX10_isNear_0 X B.notSynchronized B.returns o (some v1) _ _ _ _ (lv_sub hl [0, 1] rfl) hW va_S.rf g

theorem dX10_leaf_0 : decode cX10_leaf 0 = .ok (.aload_n 0, 1) := by decide +kernel
theorem dX10_leaf_1 : decode cX10_leaf 1 = .ok (.getfield 10, 3) := by decide +kernel
theorem dX10_leaf_4 : decode cX10_leaf 4 = .ok (.iload_n 1, 1) := by decide +kernel
theorem dX10_leaf_5 : decode cX10_leaf 5 = .ok (.invokevirtual 94, 3) := by decide +kernel
theorem dX10_leaf_8 : decode cX10_leaf 8 = .ok (.astore 4, 2) := by decide +kernel
theorem dX10_leaf_10 : decode cX10_leaf 10 = .ok (.aload 4, 2) := by decide +kernel
theorem dX10_leaf_12 : decode cX10_leaf 12 = .ok (.ifnonnull 9, 3) := by decide +kernel
theorem dX10_leaf_15 : decode cX10_leaf 15 = .ok (.aload_n 0, 1) := by decide +kernel
theorem dX10_leaf_16 : decode cX10_leaf 16 = .ok (.iconst (-1), 1) := by decide +kernel
theorem dX10_leaf_17 : decode cX10_leaf 17 = .ok (.invokevirtual 77, 3) := by decide +kernel
theorem dX10_leaf_20 : decode cX10_leaf 20 = .ok (.ireturn, 1) := by decide +kernel
theorem dX10_leaf_21 : decode cX10_leaf 21 = .ok (.aload 4, 2) := by decide +kernel
theorem dX10_leaf_23 : decode cX10_leaf 23 = .ok (.invokevirtual 98, 3) := by decide +kernel
theorem dX10_leaf_26 : decode cX10_leaf 26 = .ok (.ifCond .ne 10, 3) := by decide +kernel
theorem dX10_leaf_29 : decode cX10_leaf 29 = .ok (.aload_n 0, 1) := by decide +kernel
theorem dX10_leaf_30 : decode cX10_leaf 30 = .ok (.bipush (-2), 2) := by decide +kernel
theorem dX10_leaf_32 : decode cX10_leaf 32 = .ok (.invokevirtual 77, 3) := by decide +kernel
theorem dX10_leaf_35 : decode cX10_leaf 35 = .ok (.ireturn, 1) := by decide +kernel
theorem dX10_leaf_36 : decode cX10_leaf 36 = .ok (.aload 4, 2) := by decide +kernel
theorem dX10_leaf_38 : decode cX10_leaf 38 = .ok (.iload_n 2, 1) := by decide +kernel
theorem dX10_leaf_39 : decode cX10_leaf 39 = .ok (.invokevirtual 102, 3) := by decide +kernel
theorem dX10_leaf_42 : decode cX10_leaf 42 = .ok (.ifCond .ne 10, 3) := by decide +kernel
theorem dX10_leaf_45 : decode cX10_leaf 45 = .ok (.aload_n 0, 1) := by decide +kernel
theorem dX10_leaf_46 : decode cX10_leaf 46 = .ok (.bipush (-3), 2) := by decide +kernel
theorem dX10_leaf_48 : decode cX10_leaf 48 = .ok (.invokevirtual 77, 3) := by decide +kernel
theorem dX10_leaf_51 : decode cX10_leaf 51 = .ok (.ireturn, 1) := by decide +kernel
theorem dX10_leaf_52 : decode cX10_leaf 52 = .ok (.aload_n 0, 1) := by decide +kernel
theorem dX10_leaf_53 : decode cX10_leaf 53 = .ok (.aload 4, 2) := by decide +kernel
theorem dX10_leaf_55 : decode cX10_leaf 55 = .ok (.invokevirtual 105, 3) := by decide +kernel
theorem dX10_leaf_58 : decode cX10_leaf 58 = .ok (.ifCond .ne 10, 3) := by decide +kernel
theorem dX10_leaf_61 : decode cX10_leaf 61 = .ok (.aload_n 0, 1) := by decide +kernel
theorem dX10_leaf_62 : decode cX10_leaf 62 = .ok (.bipush (-5), 2) := by decide +kernel
theorem dX10_leaf_64 : decode cX10_leaf 64 = .ok (.invokevirtual 77, 3) := by decide +kernel
theorem dX10_leaf_67 : decode cX10_leaf 67 = .ok (.ireturn, 1) := by decide +kernel
theorem dX10_leaf_68 : decode cX10_leaf 68 = .ok (.aload_n 0, 1) := by decide +kernel
theorem dX10_leaf_69 : decode cX10_leaf 69 = .ok (.getfield 10, 3) := by decide +kernel
theorem dX10_leaf_72 : decode cX10_leaf 72 = .ok (.iconst 0, 1) := by decide +kernel
theorem dX10_leaf_73 : decode cX10_leaf 73 = .ok (.aload 4, 2) := by decide +kernel
theorem dX10_leaf_75 : decode cX10_leaf 75 = .ok (.getfield 109, 3) := by decide +kernel
theorem dX10_leaf_78 : decode cX10_leaf 78 = .ok (.iconst 0, 1) := by decide +kernel
theorem dX10_leaf_79 : decode cX10_leaf 79 = .ok (.invokevirtual 81, 3) := by decide +kernel
theorem dX10_leaf_82 : decode cX10_leaf 82 = .ok (.astore 5, 2) := by decide +kernel
theorem dX10_leaf_84 : decode cX10_leaf 84 = .ok (.aload 5, 2) := by decide +kernel
theorem dX10_leaf_86 : decode cX10_leaf 86 = .ok (.ifnonnull 10, 3) := by decide +kernel
theorem dX10_leaf_89 : decode cX10_leaf 89 = .ok (.aload_n 0, 1) := by decide +kernel
theorem dX10_leaf_90 : decode cX10_leaf 90 = .ok (.bipush (-6), 2) := by decide +kernel
theorem dX10_leaf_92 : decode cX10_leaf 92 = .ok (.invokevirtual 77, 3) := by decide +kernel
theorem dX10_leaf_95 : decode cX10_leaf 95 = .ok (.ireturn, 1) := by decide +kernel
theorem dX10_leaf_96 : decode cX10_leaf 96 = .ok (.aload 5, 2) := by decide +kernel
theorem dX10_leaf_98 : decode cX10_leaf 98 = .ok (.iload_n 3, 1) := by decide +kernel
theorem dX10_leaf_99 : decode cX10_leaf 99 = .ok (.putfield 112, 3) := by decide +kernel
theorem dX10_leaf_102 : decode cX10_leaf 102 = .ok (.aload 4, 2) := by decide +kernel
theorem dX10_leaf_104 : decode cX10_leaf 104 = .ok (.iload_n 2, 1) := by decide +kernel
theorem dX10_leaf_105 : decode cX10_leaf 105 = .ok (.aload 5, 2) := by decide +kernel
theorem dX10_leaf_107 : decode cX10_leaf 107 = .ok (.invokevirtual 115, 3) := by decide +kernel
theorem dX10_leaf_110 : decode cX10_leaf 110 = .ok (.aload_n 0, 1) := by decide +kernel
theorem dX10_leaf_111 : decode cX10_leaf 111 = .ok (.aload 4, 2) := by decide +kernel
theorem dX10_leaf_113 : decode cX10_leaf 113 = .ok (.getfield 109, 3) := by decide +kernel
theorem dX10_leaf_116 : decode cX10_leaf 116 = .ok (.invokevirtual 85, 3) := by decide +kernel
theorem dX10_leaf_119 : decode cX10_leaf 119 = .ok (.aload 5, 2) := by decide +kernel
theorem dX10_leaf_121 : decode cX10_leaf 121 = .ok (.getfield 89, 3) := by decide +kernel
theorem dX10_leaf_124 : decode cX10_leaf 124 = .ok (.ireturn, 1) := by decide +kernel
def fX10_leaf (o : Nat) (v1 : Int32) (v2 : Int32) (v3 : Int32) (h : Hz) : Option (Int32 × Hz) := (b1 (gA 10 0 o h) fun a1 => (b1 (tg 6 a1 h) fun _ => (b2 (fX6_find a1 v1 h) fun r3 s4 => (oe r3 ((b1 (tg 10 o s4) fun _ => (b2 (fX10_refuse o (-1) s4) fun x7 s8 => some (x7, s8)))) fun a5 => (b1 (tg 5 a5 s4) fun _ => (b2 (fX5_hasPlaces a5 s4) fun x10 s11 => (if x10 = 0 then (b1 (tg 10 o s11) fun _ => (b2 (fX10_refuse o (-2) s11) fun x46 s47 => some (x46, s47))) else (b1 (tg 5 a5 s11) fun _ => (b2 (fX5_hasPlace a5 v2 s11) fun x14 s15 => (if x14 = 0 then (b1 (tg 10 o s15) fun _ => (b2 (fX10_refuse o (-3) s15) fun x43 s44 => some (x43, s44))) else (b1 (tg 10 o s15) fun _ => (b2 (fX10_isNear o (some a5) s15) fun x18 s19 => (if x18 = 0 then (b1 (tg 10 o s19) fun _ => (b2 (fX10_refuse o (-5) s19) fun x40 s41 => some (x40, s41))) else (b1 (gA 10 0 o s19) fun a21 => (b1 (gI 5 2 a5 s19) fun x22 => (b1 (tg 6 a21 s19) fun _ => (b2 (fX6_make a21 0 x22 0 s19) fun r24 s25 => (oe r24 ((b1 (tg 10 o s25) fun _ => (b2 (fX10_refuse o (-6) s25) fun x28 s29 => some (x28, s29)))) fun a26 => (b1 (pI 5 5 a26 v3 s25) fun s30 => (b1 (tg 5 a5 s30) fun _ => (b2 (fX5_holdThing a5 v2 (some a26) s30) fun _ s33 => (b1 (gI 5 2 a5 s33) fun x34 => (b1 (tg 10 o s33) fun _ => (b2 (fX10_touch o x34 s33) fun _ s37 => (b1 (gI 5 0 a26 s37) fun x38 => some (x38, s37))))))))))))))))))))))))))
set_option maxHeartbeats 4000000 in
set_option maxRecDepth 100000 in
theorem wX10_leaf_0 {r0 : Int32} {h0 : Hz} (X : zX A D cy p s m args c cX10_leaf RX10 6) (hlk : meth.locks = false) (hr : meth.sig.returnType = (some .int)) (o : Nat) (v1 : Int32) (v2 : Int32) (v3 : Int32) (h : Hz) (H : Heap) (locs : List Loc) (ls : Array Slot) (hl : lv_has ls 6 [(0, .ref o), (1, .int v1), (2, .int v2), (3, .int v3)]) (hW : zW A cy D h H) (hS : va_S A s.heap H locs) (h : fX10_leaf o v1 v2 v3 h = some (r0, h0)) : W p l e ({ frames := 5, cells := 3, slots := 27, locals := 108 } : Room) s m args below meth c H locs 0 0 (MQ below (va_Qi (fun r1 u => r1 = r0 ∧ u = h0) (zB A D cy) A) args s 3 27 A) (F0 m 0 ls []) := by
  obtain ⟨hx, hb, hts, hown, hK9, hml, hN9, hA9⟩ := id X
  unfold fX10_leaf at h
  refine lv_aload_n hx hb dX10_leaf_0 rfl (lv_at hl 0 rfl) ?_
  replace h := b1_some h
  obtain ⟨a1, ga1, h⟩ := h
  refine z_getA X hW ga1 kX10 (by decide) (by decide) kf_X10_10 dX10_leaf_1 ?_
  refine lv_iload_n hx hb dX10_leaf_4 rfl (lv_at hl 1 rfl) ?_
  replace h := b1_some h
  obtain ⟨q2, gq2, h⟩ := h
  replace h := b2_some h
  obtain ⟨r3, s4, gs4, h⟩ := h
  refine z_callVq (rest := []) X hW hS (cX6_find_met gs4) kb_X6_find kv_X6_find kl_X10_94 (it_v gq2).1 kX6 rfl rfl ⟨Nat.le_of_ble_eq_true rfl, Nat.le_of_ble_eq_true rfl⟩ rfl rfl (by decide) hl.1 dX10_leaf_5 ⟨(by decide), (by decide)⟩ (fun H locs hW hS => ?_)
  refine z_astore (lv' := [(4, va_rf r3), (0, .ref o), (1, .int v1), (2, .int v2), (3, .int v3)]) hx hb dX10_leaf_8 hl (by decide) rfl (fun ls hl => ?_)
  refine z_aload hx hb dX10_leaf_10 (lv_at hl 0 rfl) ?_
  cases r3 with
  | none =>
    replace h := oe_n h
    have hl : lv_has ls 6 [(4, .null), (0, .ref o), (1, .int v1), (2, .int v2), (3, .int v3)] := hl
    refine lv_ifnonnullN hx hb dX10_leaf_12 ?_
    refine lv_aload_n hx hb dX10_leaf_15 rfl (lv_at hl 1 rfl) ?_
    refine lv_iconst (v := (-1)) hx hb dX10_leaf_16 (by decide) ?_
    replace h := b1_some h
    obtain ⟨q6, gq6, h⟩ := h
    replace h := b2_some h
    obtain ⟨x7, s8, gs8, h⟩ := h
    refine z_callVi (rest := []) X hW hS (cX10_refuse_met gs8) kb_X10_refuse kv_X10_refuse kl_X10_77 (it_v gq6).1 kX10 rfl rfl ⟨Nat.le_of_ble_eq_true rfl, Nat.le_of_ble_eq_true rfl⟩ rfl rfl (by decide) hl.1 dX10_leaf_17 ⟨(by decide), (by decide)⟩ (fun H locs hW hS => ?_)
    exact z_eti X hlk hr hW hS h (by decide) (by decide) dX10_leaf_20
  | some a5 =>
    replace h := oe_s h
    have hl : lv_has ls 6 [(4, .ref a5), (0, .ref o), (1, .int v1), (2, .int v2), (3, .int v3)] := hl
    refine lv_ifnonnull (tgt := 21) hx hb dX10_leaf_12 (by decide) ?_
    refine lv_aload hx hb dX10_leaf_21 (lv_at hl 0 rfl) ?_
    replace h := b1_some h
    obtain ⟨q9, gq9, h⟩ := h
    replace h := b2_some h
    obtain ⟨x10, s11, gs11, h⟩ := h
    refine z_callVi (rest := []) X hW hS (cX5_hasPlaces_met gs11) kb_X5_hasPlaces kv_X5_hasPlaces kl_X10_98 (it_v gq9).1 kX5 rfl rfl ⟨Nat.le_of_ble_eq_true rfl, Nat.le_of_ble_eq_true rfl⟩ rfl rfl (by decide) hl.1 dX10_leaf_23 ⟨(by decide), (by decide)⟩ (fun H locs hW hS => ?_)
    refine lv_if_ne (tgt := 36) hx hb dX10_leaf_26 (by decide) (fun c12 => ?_) (fun c12 => ?_)
    · replace h := it_f h c12
      refine lv_aload hx hb dX10_leaf_36 (lv_at hl 0 rfl) ?_
      refine lv_iload_n hx hb dX10_leaf_38 rfl (lv_at hl 3 rfl) ?_
      replace h := b1_some h
      obtain ⟨q13, gq13, h⟩ := h
      replace h := b2_some h
      obtain ⟨x14, s15, gs15, h⟩ := h
      refine z_callVi (rest := []) X hW hS (cX5_hasPlace_met gs15) kb_X5_hasPlace kv_X5_hasPlace kl_X10_102 (it_v gq13).1 kX5 rfl rfl ⟨Nat.le_of_ble_eq_true rfl, Nat.le_of_ble_eq_true rfl⟩ rfl rfl (by decide) hl.1 dX10_leaf_39 ⟨(by decide), (by decide)⟩ (fun H locs hW hS => ?_)
      refine lv_if_ne (tgt := 52) hx hb dX10_leaf_42 (by decide) (fun c16 => ?_) (fun c16 => ?_)
      · replace h := it_f h c16
        refine lv_aload_n hx hb dX10_leaf_52 rfl (lv_at hl 1 rfl) ?_
        refine lv_aload hx hb dX10_leaf_53 (lv_at hl 0 rfl) ?_
        replace h := b1_some h
        obtain ⟨q17, gq17, h⟩ := h
        replace h := b2_some h
        obtain ⟨x18, s19, gs19, h⟩ := h
        refine z_callVi (rest := []) X hW hS (cX10_isNear_met gs19) kb_X10_isNear kv_X10_isNear kl_X10_105 (it_v gq17).1 kX10 rfl rfl ⟨Nat.le_of_ble_eq_true rfl, Nat.le_of_ble_eq_true rfl⟩ rfl rfl (by decide) hl.1 dX10_leaf_55 ⟨(by decide), (by decide)⟩ (fun H locs hW hS => ?_)
        refine lv_if_ne (tgt := 68) hx hb dX10_leaf_58 (by decide) (fun c20 => ?_) (fun c20 => ?_)
        · replace h := it_f h c20
          refine lv_aload_n hx hb dX10_leaf_68 rfl (lv_at hl 1 rfl) ?_
          replace h := b1_some h
          obtain ⟨a21, ga21, h⟩ := h
          refine z_getA X hW ga21 kX10 (by decide) (by decide) kf_X10_10 dX10_leaf_69 ?_
          refine lv_iconst (v := 0) hx hb dX10_leaf_72 (by decide) ?_
          refine lv_aload hx hb dX10_leaf_73 (lv_at hl 0 rfl) ?_
          replace h := b1_some h
          obtain ⟨x22, gx22, h⟩ := h
          refine z_getI X hW gx22 kX5 (by decide) (by decide) kf_X10_109 dX10_leaf_75 ?_
          refine lv_iconst (v := 0) hx hb dX10_leaf_78 (by decide) ?_
          replace h := b1_some h
          obtain ⟨q23, gq23, h⟩ := h
          replace h := b2_some h
          obtain ⟨r24, s25, gs25, h⟩ := h
          refine z_callVq (rest := []) X hW hS (cX6_make_met gs25) kb_X6_make kv_X6_make kl_X10_81 (it_v gq23).1 kX6 rfl rfl ⟨Nat.le_of_ble_eq_true rfl, Nat.le_of_ble_eq_true rfl⟩ rfl rfl (by decide) hl.1 dX10_leaf_79 ⟨(by decide), (by decide)⟩ (fun H locs hW hS => ?_)
          refine z_astore (lv' := [(5, va_rf r24), (4, .ref a5), (0, .ref o), (1, .int v1), (2, .int v2), (3, .int v3)]) hx hb dX10_leaf_82 hl (by decide) rfl (fun ls hl => ?_)
          refine z_aload hx hb dX10_leaf_84 (lv_at hl 0 rfl) ?_
          cases r24 with
          | none =>
            replace h := oe_n h
            have hl : lv_has ls 6 [(5, .null), (4, .ref a5), (0, .ref o), (1, .int v1), (2, .int v2), (3, .int v3)] := hl
            refine lv_ifnonnullN hx hb dX10_leaf_86 ?_
            refine lv_aload_n hx hb dX10_leaf_89 rfl (lv_at hl 2 rfl) ?_
            refine lv_bipush (v := (-6)) hx hb dX10_leaf_90 (by decide) ?_
            replace h := b1_some h
            obtain ⟨q27, gq27, h⟩ := h
            replace h := b2_some h
            obtain ⟨x28, s29, gs29, h⟩ := h
            refine z_callVi (rest := []) X hW hS (cX10_refuse_met gs29) kb_X10_refuse kv_X10_refuse kl_X10_77 (it_v gq27).1 kX10 rfl rfl ⟨Nat.le_of_ble_eq_true rfl, Nat.le_of_ble_eq_true rfl⟩ rfl rfl (by decide) hl.1 dX10_leaf_92 ⟨(by decide), (by decide)⟩ (fun H locs hW hS => ?_)
            exact z_eti X hlk hr hW hS h (by decide) (by decide) dX10_leaf_95
          | some a26 =>
            replace h := oe_s h
            have hl : lv_has ls 6 [(5, .ref a26), (4, .ref a5), (0, .ref o), (1, .int v1), (2, .int v2), (3, .int v3)] := hl
            refine lv_ifnonnull (tgt := 96) hx hb dX10_leaf_86 (by decide) ?_
            refine lv_aload hx hb dX10_leaf_96 (lv_at hl 0 rfl) ?_
            refine lv_iload_n hx hb dX10_leaf_98 rfl (lv_at hl 5 rfl) ?_
            replace h := b1_some h
            obtain ⟨s30, gs30, h⟩ := h
            refine z_putI X hW hS gs30 kX5 (by decide) (by decide) rfl (Or.inl rfl) kf_X10_112 dX10_leaf_99 (fun H locs hW hS => ?_)
            refine lv_aload hx hb dX10_leaf_102 (lv_at hl 1 rfl) ?_
            refine lv_iload_n hx hb dX10_leaf_104 rfl (lv_at hl 4 rfl) ?_
            refine lv_aload hx hb dX10_leaf_105 (lv_at hl 0 rfl) ?_
            replace h := b1_some h
            obtain ⟨q31, gq31, h⟩ := h
            replace h := b2_some h
            obtain ⟨_ur32, s33, gs33, h⟩ := h
            refine z_callVv (rest := []) X hW hS (cX5_holdThing_met gs33) kb_X5_holdThing kv_X5_holdThing kl_X10_115 (it_v gq31).1 kX5 rfl rfl ⟨Nat.le_of_ble_eq_true rfl, Nat.le_of_ble_eq_true rfl⟩ rfl rfl (by decide) hl.1 dX10_leaf_107 ⟨(by decide), (by decide)⟩ (fun H locs hW hS => ?_)
            refine lv_aload_n hx hb dX10_leaf_110 rfl (lv_at hl 2 rfl) ?_
            refine lv_aload hx hb dX10_leaf_111 (lv_at hl 1 rfl) ?_
            replace h := b1_some h
            obtain ⟨x34, gx34, h⟩ := h
            refine z_getI X hW gx34 kX5 (by decide) (by decide) kf_X10_109 dX10_leaf_113 ?_
            replace h := b1_some h
            obtain ⟨q35, gq35, h⟩ := h
            replace h := b2_some h
            obtain ⟨_ur36, s37, gs37, h⟩ := h
            refine z_callVv (rest := []) X hW hS (cX10_touch_met gs37) kb_X10_touch kv_X10_touch kl_X10_85 (it_v gq35).1 kX10 rfl rfl ⟨Nat.le_of_ble_eq_true rfl, Nat.le_of_ble_eq_true rfl⟩ rfl rfl (by decide) hl.1 dX10_leaf_116 ⟨(by decide), (by decide)⟩ (fun H locs hW hS => ?_)
            refine lv_aload hx hb dX10_leaf_119 (lv_at hl 0 rfl) ?_
            replace h := b1_some h
            obtain ⟨x38, gx38, h⟩ := h
            refine z_getI X hW gx38 kX5 (by decide) (by decide) kf_X10_89 dX10_leaf_121 ?_
            exact z_eti X hlk hr hW hS h (by decide) (by decide) dX10_leaf_124
        · replace h := it_t h c20
          refine lv_aload_n hx hb dX10_leaf_61 rfl (lv_at hl 1 rfl) ?_
          refine lv_bipush (v := (-5)) hx hb dX10_leaf_62 (by decide) ?_
          replace h := b1_some h
          obtain ⟨q39, gq39, h⟩ := h
          replace h := b2_some h
          obtain ⟨x40, s41, gs41, h⟩ := h
          refine z_callVi (rest := []) X hW hS (cX10_refuse_met gs41) kb_X10_refuse kv_X10_refuse kl_X10_77 (it_v gq39).1 kX10 rfl rfl ⟨Nat.le_of_ble_eq_true rfl, Nat.le_of_ble_eq_true rfl⟩ rfl rfl (by decide) hl.1 dX10_leaf_64 ⟨(by decide), (by decide)⟩ (fun H locs hW hS => ?_)
          exact z_eti X hlk hr hW hS h (by decide) (by decide) dX10_leaf_67
      · replace h := it_t h c16
        refine lv_aload_n hx hb dX10_leaf_45 rfl (lv_at hl 1 rfl) ?_
        refine lv_bipush (v := (-3)) hx hb dX10_leaf_46 (by decide) ?_
        replace h := b1_some h
        obtain ⟨q42, gq42, h⟩ := h
        replace h := b2_some h
        obtain ⟨x43, s44, gs44, h⟩ := h
        refine z_callVi (rest := []) X hW hS (cX10_refuse_met gs44) kb_X10_refuse kv_X10_refuse kl_X10_77 (it_v gq42).1 kX10 rfl rfl ⟨Nat.le_of_ble_eq_true rfl, Nat.le_of_ble_eq_true rfl⟩ rfl rfl (by decide) hl.1 dX10_leaf_48 ⟨(by decide), (by decide)⟩ (fun H locs hW hS => ?_)
        exact z_eti X hlk hr hW hS h (by decide) (by decide) dX10_leaf_51
    · replace h := it_t h c12
      refine lv_aload_n hx hb dX10_leaf_29 rfl (lv_at hl 1 rfl) ?_
      refine lv_bipush (v := (-2)) hx hb dX10_leaf_30 (by decide) ?_
      replace h := b1_some h
      obtain ⟨q45, gq45, h⟩ := h
      replace h := b2_some h
      obtain ⟨x46, s47, gs47, h⟩ := h
      refine z_callVi (rest := []) X hW hS (cX10_refuse_met gs47) kb_X10_refuse kv_X10_refuse kl_X10_77 (it_v gq45).1 kX10 rfl rfl ⟨Nat.le_of_ble_eq_true rfl, Nat.le_of_ble_eq_true rfl⟩ rfl rfl (by decide) hl.1 dX10_leaf_32 ⟨(by decide), (by decide)⟩ (fun H locs hW hS => ?_)
      exact z_eti X hlk hr hW hS h (by decide) (by decide) dX10_leaf_35

set_option maxHeartbeats 4000000 in
set_option maxRecDepth 100000 in
theorem cX10_leaf_met {l : Launch} {A : Nat → Prop} {D : va_G} {cy : Nat → ClassId} {r0 : Int32} {h0 : Hz} {o : Nat} {v1 : Int32} {v2 : Int32} {v3 : Int32} {h : Hz} (g : fX10_leaf o v1 v2 v3 h = some (r0, h0)) : Met l yX10_leaf (Cond.code yX10_leaf cX10_leaf 6 (some .int) :: wT) ({ frames := 5, cells := 3, slots := 27, locals := 108 } : Room) (va_Pc [.ref o, .int v1, .int v2, .int v3] (zS A D cy h)) (va_Qi (fun r1 u => r1 = r0 ∧ u = h0) (zB A D cy) A) 3 27 A := by
  refine Met.ofW (cc := cX10_leaf) (maxL := 6) (ret := (some .int)) (by decide) rfl ?_
  intro p e s m args below meth c s₁ B hml hv
  obtain ⟨rfl, hW, hK, hN, hA⟩ := hv
  have X : zX A D cy p s m _ c cX10_leaf RX10 6 := ⟨B.exec, B.bytes, fun w hw => atoms_spec (ws := Cond.code yX10_leaf cX10_leaf 6 (some .int) :: wT) B.pre w (List.mem_cons_of_mem _ hw), findClass_of_methodNamed B.named, hK, hml, hN, hA⟩
  have hl := lv_entry [.ref o, .int v1, .int v2, .int v3] (n := 6) (Nat.le_of_ble_eq_true rfl)
  rw [lg_entry_eq]
  generalize (lg_sl [.ref o, .int v1, .int v2, .int v3] ++ List.replicate (6 - (lg_sl [.ref o, .int v1, .int v2, .int v3]).length) Slot.unset).toArray = ls at hl ⊢
  have hl : lv_has ls 6 [(0, .ref o), (1, .int v1), (2, .int v2), (3, .int v3)] := hl
  exact wX10_leaf_0 X B.notSynchronized B.returns o v1 v2 v3 _ _ _ _ (lv_sub hl [0, 1, 2, 3] rfl) hW va_S.rf g

theorem dX10_box_0 : decode cX10_box 0 = .ok (.aload_n 0, 1) := by decide +kernel
theorem dX10_box_1 : decode cX10_box 1 = .ok (.getfield 10, 3) := by decide +kernel
theorem dX10_box_4 : decode cX10_box 4 = .ok (.iload_n 1, 1) := by decide +kernel
theorem dX10_box_5 : decode cX10_box 5 = .ok (.invokevirtual 94, 3) := by decide +kernel
theorem dX10_box_8 : decode cX10_box 8 = .ok (.astore 4, 2) := by decide +kernel
theorem dX10_box_10 : decode cX10_box 10 = .ok (.aload 4, 2) := by decide +kernel
theorem dX10_box_12 : decode cX10_box 12 = .ok (.ifnonnull 9, 3) := by decide +kernel
theorem dX10_box_15 : decode cX10_box 15 = .ok (.aload_n 0, 1) := by decide +kernel
theorem dX10_box_16 : decode cX10_box 16 = .ok (.iconst (-1), 1) := by decide +kernel
theorem dX10_box_17 : decode cX10_box 17 = .ok (.invokevirtual 77, 3) := by decide +kernel
theorem dX10_box_20 : decode cX10_box 20 = .ok (.ireturn, 1) := by decide +kernel
theorem dX10_box_21 : decode cX10_box 21 = .ok (.aload 4, 2) := by decide +kernel
theorem dX10_box_23 : decode cX10_box 23 = .ok (.invokevirtual 98, 3) := by decide +kernel
theorem dX10_box_26 : decode cX10_box 26 = .ok (.ifCond .ne 10, 3) := by decide +kernel
theorem dX10_box_29 : decode cX10_box 29 = .ok (.aload_n 0, 1) := by decide +kernel
theorem dX10_box_30 : decode cX10_box 30 = .ok (.bipush (-2), 2) := by decide +kernel
theorem dX10_box_32 : decode cX10_box 32 = .ok (.invokevirtual 77, 3) := by decide +kernel
theorem dX10_box_35 : decode cX10_box 35 = .ok (.ireturn, 1) := by decide +kernel
theorem dX10_box_36 : decode cX10_box 36 = .ok (.aload 4, 2) := by decide +kernel
theorem dX10_box_38 : decode cX10_box 38 = .ok (.iload_n 2, 1) := by decide +kernel
theorem dX10_box_39 : decode cX10_box 39 = .ok (.invokevirtual 102, 3) := by decide +kernel
theorem dX10_box_42 : decode cX10_box 42 = .ok (.ifCond .ne 10, 3) := by decide +kernel
theorem dX10_box_45 : decode cX10_box 45 = .ok (.aload_n 0, 1) := by decide +kernel
theorem dX10_box_46 : decode cX10_box 46 = .ok (.bipush (-3), 2) := by decide +kernel
theorem dX10_box_48 : decode cX10_box 48 = .ok (.invokevirtual 77, 3) := by decide +kernel
theorem dX10_box_51 : decode cX10_box 51 = .ok (.ireturn, 1) := by decide +kernel
theorem dX10_box_52 : decode cX10_box 52 = .ok (.iload_n 3, 1) := by decide +kernel
theorem dX10_box_53 : decode cX10_box 53 = .ok (.iconst 1, 1) := by decide +kernel
theorem dX10_box_54 : decode cX10_box 54 = .ok (.if_icmp .ge 10, 3) := by decide +kernel
theorem dX10_box_57 : decode cX10_box 57 = .ok (.aload_n 0, 1) := by decide +kernel
theorem dX10_box_58 : decode cX10_box 58 = .ok (.bipush (-4), 2) := by decide +kernel
theorem dX10_box_60 : decode cX10_box 60 = .ok (.invokevirtual 77, 3) := by decide +kernel
theorem dX10_box_63 : decode cX10_box 63 = .ok (.ireturn, 1) := by decide +kernel
theorem dX10_box_64 : decode cX10_box 64 = .ok (.aload_n 0, 1) := by decide +kernel
theorem dX10_box_65 : decode cX10_box 65 = .ok (.aload 4, 2) := by decide +kernel
theorem dX10_box_67 : decode cX10_box 67 = .ok (.invokevirtual 105, 3) := by decide +kernel
theorem dX10_box_70 : decode cX10_box 70 = .ok (.ifCond .ne 10, 3) := by decide +kernel
theorem dX10_box_73 : decode cX10_box 73 = .ok (.aload_n 0, 1) := by decide +kernel
theorem dX10_box_74 : decode cX10_box 74 = .ok (.bipush (-5), 2) := by decide +kernel
theorem dX10_box_76 : decode cX10_box 76 = .ok (.invokevirtual 77, 3) := by decide +kernel
theorem dX10_box_79 : decode cX10_box 79 = .ok (.ireturn, 1) := by decide +kernel
theorem dX10_box_80 : decode cX10_box 80 = .ok (.iload_n 3, 1) := by decide +kernel
theorem dX10_box_81 : decode cX10_box 81 = .ok (.bipush 8, 2) := by decide +kernel
theorem dX10_box_83 : decode cX10_box 83 = .ok (.if_icmp .le 10, 3) := by decide +kernel
theorem dX10_box_86 : decode cX10_box 86 = .ok (.aload_n 0, 1) := by decide +kernel
theorem dX10_box_87 : decode cX10_box 87 = .ok (.bipush (-6), 2) := by decide +kernel
theorem dX10_box_89 : decode cX10_box 89 = .ok (.invokevirtual 77, 3) := by decide +kernel
theorem dX10_box_92 : decode cX10_box 92 = .ok (.ireturn, 1) := by decide +kernel
theorem dX10_box_93 : decode cX10_box 93 = .ok (.aload_n 0, 1) := by decide +kernel
theorem dX10_box_94 : decode cX10_box 94 = .ok (.getfield 10, 3) := by decide +kernel
theorem dX10_box_97 : decode cX10_box 97 = .ok (.iconst 1, 1) := by decide +kernel
theorem dX10_box_98 : decode cX10_box 98 = .ok (.aload 4, 2) := by decide +kernel
theorem dX10_box_100 : decode cX10_box 100 = .ok (.getfield 109, 3) := by decide +kernel
theorem dX10_box_103 : decode cX10_box 103 = .ok (.iload_n 3, 1) := by decide +kernel
theorem dX10_box_104 : decode cX10_box 104 = .ok (.invokevirtual 81, 3) := by decide +kernel
theorem dX10_box_107 : decode cX10_box 107 = .ok (.astore 5, 2) := by decide +kernel
theorem dX10_box_109 : decode cX10_box 109 = .ok (.aload 5, 2) := by decide +kernel
theorem dX10_box_111 : decode cX10_box 111 = .ok (.ifnonnull 10, 3) := by decide +kernel
theorem dX10_box_114 : decode cX10_box 114 = .ok (.aload_n 0, 1) := by decide +kernel
theorem dX10_box_115 : decode cX10_box 115 = .ok (.bipush (-6), 2) := by decide +kernel
theorem dX10_box_117 : decode cX10_box 117 = .ok (.invokevirtual 77, 3) := by decide +kernel
theorem dX10_box_120 : decode cX10_box 120 = .ok (.ireturn, 1) := by decide +kernel
theorem dX10_box_121 : decode cX10_box 121 = .ok (.aload 4, 2) := by decide +kernel
theorem dX10_box_123 : decode cX10_box 123 = .ok (.iload_n 2, 1) := by decide +kernel
theorem dX10_box_124 : decode cX10_box 124 = .ok (.aload 5, 2) := by decide +kernel
theorem dX10_box_126 : decode cX10_box 126 = .ok (.invokevirtual 115, 3) := by decide +kernel
theorem dX10_box_129 : decode cX10_box 129 = .ok (.aload_n 0, 1) := by decide +kernel
theorem dX10_box_130 : decode cX10_box 130 = .ok (.aload 4, 2) := by decide +kernel
theorem dX10_box_132 : decode cX10_box 132 = .ok (.getfield 109, 3) := by decide +kernel
theorem dX10_box_135 : decode cX10_box 135 = .ok (.invokevirtual 85, 3) := by decide +kernel
theorem dX10_box_138 : decode cX10_box 138 = .ok (.aload 5, 2) := by decide +kernel
theorem dX10_box_140 : decode cX10_box 140 = .ok (.getfield 89, 3) := by decide +kernel
theorem dX10_box_143 : decode cX10_box 143 = .ok (.ireturn, 1) := by decide +kernel
def fX10_box (o : Nat) (v1 : Int32) (v2 : Int32) (v3 : Int32) (h : Hz) : Option (Int32 × Hz) := (b1 (gA 10 0 o h) fun a1 => (b1 (tg 6 a1 h) fun _ => (b2 (fX6_find a1 v1 h) fun r3 s4 => (oe r3 ((b1 (tg 10 o s4) fun _ => (b2 (fX10_refuse o (-1) s4) fun x7 s8 => some (x7, s8)))) fun a5 => (b1 (tg 5 a5 s4) fun _ => (b2 (fX5_hasPlaces a5 s4) fun x10 s11 => (if x10 = 0 then (b1 (tg 10 o s11) fun _ => (b2 (fX10_refuse o (-2) s11) fun x53 s54 => some (x53, s54))) else (b1 (tg 5 a5 s11) fun _ => (b2 (fX5_hasPlace a5 v2 s11) fun x14 s15 => (if x14 = 0 then (b1 (tg 10 o s15) fun _ => (b2 (fX10_refuse o (-3) s15) fun x50 s51 => some (x50, s51))) else (if 1 ≤ v3 then (b1 (tg 10 o s15) fun _ => (b2 (fX10_isNear o (some a5) s15) fun x19 s20 => (if x19 = 0 then (b1 (tg 10 o s20) fun _ => (b2 (fX10_refuse o (-5) s20) fun x44 s45 => some (x44, s45))) else (if v3 ≤ 8 then (b1 (gA 10 0 o s20) fun a23 => (b1 (gI 5 2 a5 s20) fun x24 => (b1 (tg 6 a23 s20) fun _ => (b2 (fX6_make a23 1 x24 v3 s20) fun r26 s27 => (oe r26 ((b1 (tg 10 o s27) fun _ => (b2 (fX10_refuse o (-6) s27) fun x30 s31 => some (x30, s31)))) fun a28 => (b1 (tg 5 a5 s27) fun _ => (b2 (fX5_holdThing a5 v2 (some a28) s27) fun _ s34 => (b1 (gI 5 2 a5 s34) fun x35 => (b1 (tg 10 o s34) fun _ => (b2 (fX10_touch o x35 s34) fun _ s38 => (b1 (gI 5 0 a28 s38) fun x39 => some (x39, s38)))))))))))) else (b1 (tg 10 o s20) fun _ => (b2 (fX10_refuse o (-6) s20) fun x41 s42 => some (x41, s42))))))) else (b1 (tg 10 o s15) fun _ => (b2 (fX10_refuse o (-4) s15) fun x47 s48 => some (x47, s48))))))))))))))
set_option maxHeartbeats 4000000 in
set_option maxRecDepth 100000 in
theorem wX10_box_0 {r0 : Int32} {h0 : Hz} (X : zX A D cy p s m args c cX10_box RX10 6) (hlk : meth.locks = false) (hr : meth.sig.returnType = (some .int)) (o : Nat) (v1 : Int32) (v2 : Int32) (v3 : Int32) (h : Hz) (H : Heap) (locs : List Loc) (ls : Array Slot) (hl : lv_has ls 6 [(0, .ref o), (1, .int v1), (2, .int v2), (3, .int v3)]) (hW : zW A cy D h H) (hS : va_S A s.heap H locs) (h : fX10_box o v1 v2 v3 h = some (r0, h0)) : W p l e ({ frames := 5, cells := 3, slots := 27, locals := 108 } : Room) s m args below meth c H locs 0 0 (MQ below (va_Qi (fun r1 u => r1 = r0 ∧ u = h0) (zB A D cy) A) args s 3 27 A) (F0 m 0 ls []) := by
  obtain ⟨hx, hb, hts, hown, hK9, hml, hN9, hA9⟩ := id X
  unfold fX10_box at h
  refine lv_aload_n hx hb dX10_box_0 rfl (lv_at hl 0 rfl) ?_
  replace h := b1_some h
  obtain ⟨a1, ga1, h⟩ := h
  refine z_getA X hW ga1 kX10 (by decide) (by decide) kf_X10_10 dX10_box_1 ?_
  refine lv_iload_n hx hb dX10_box_4 rfl (lv_at hl 1 rfl) ?_
  replace h := b1_some h
  obtain ⟨q2, gq2, h⟩ := h
  replace h := b2_some h
  obtain ⟨r3, s4, gs4, h⟩ := h
  refine z_callVq (rest := []) X hW hS (cX6_find_met gs4) kb_X6_find kv_X6_find kl_X10_94 (it_v gq2).1 kX6 rfl rfl ⟨Nat.le_of_ble_eq_true rfl, Nat.le_of_ble_eq_true rfl⟩ rfl rfl (by decide) hl.1 dX10_box_5 ⟨(by decide), (by decide)⟩ (fun H locs hW hS => ?_)
  refine z_astore (lv' := [(4, va_rf r3), (0, .ref o), (1, .int v1), (2, .int v2), (3, .int v3)]) hx hb dX10_box_8 hl (by decide) rfl (fun ls hl => ?_)
  refine z_aload hx hb dX10_box_10 (lv_at hl 0 rfl) ?_
  cases r3 with
  | none =>
    replace h := oe_n h
    have hl : lv_has ls 6 [(4, .null), (0, .ref o), (1, .int v1), (2, .int v2), (3, .int v3)] := hl
    refine lv_ifnonnullN hx hb dX10_box_12 ?_
    refine lv_aload_n hx hb dX10_box_15 rfl (lv_at hl 1 rfl) ?_
    refine lv_iconst (v := (-1)) hx hb dX10_box_16 (by decide) ?_
    replace h := b1_some h
    obtain ⟨q6, gq6, h⟩ := h
    replace h := b2_some h
    obtain ⟨x7, s8, gs8, h⟩ := h
    refine z_callVi (rest := []) X hW hS (cX10_refuse_met gs8) kb_X10_refuse kv_X10_refuse kl_X10_77 (it_v gq6).1 kX10 rfl rfl ⟨Nat.le_of_ble_eq_true rfl, Nat.le_of_ble_eq_true rfl⟩ rfl rfl (by decide) hl.1 dX10_box_17 ⟨(by decide), (by decide)⟩ (fun H locs hW hS => ?_)
    exact z_eti X hlk hr hW hS h (by decide) (by decide) dX10_box_20
  | some a5 =>
    replace h := oe_s h
    have hl : lv_has ls 6 [(4, .ref a5), (0, .ref o), (1, .int v1), (2, .int v2), (3, .int v3)] := hl
    refine lv_ifnonnull (tgt := 21) hx hb dX10_box_12 (by decide) ?_
    refine lv_aload hx hb dX10_box_21 (lv_at hl 0 rfl) ?_
    replace h := b1_some h
    obtain ⟨q9, gq9, h⟩ := h
    replace h := b2_some h
    obtain ⟨x10, s11, gs11, h⟩ := h
    refine z_callVi (rest := []) X hW hS (cX5_hasPlaces_met gs11) kb_X5_hasPlaces kv_X5_hasPlaces kl_X10_98 (it_v gq9).1 kX5 rfl rfl ⟨Nat.le_of_ble_eq_true rfl, Nat.le_of_ble_eq_true rfl⟩ rfl rfl (by decide) hl.1 dX10_box_23 ⟨(by decide), (by decide)⟩ (fun H locs hW hS => ?_)
    refine lv_if_ne (tgt := 36) hx hb dX10_box_26 (by decide) (fun c12 => ?_) (fun c12 => ?_)
    · replace h := it_f h c12
      refine lv_aload hx hb dX10_box_36 (lv_at hl 0 rfl) ?_
      refine lv_iload_n hx hb dX10_box_38 rfl (lv_at hl 3 rfl) ?_
      replace h := b1_some h
      obtain ⟨q13, gq13, h⟩ := h
      replace h := b2_some h
      obtain ⟨x14, s15, gs15, h⟩ := h
      refine z_callVi (rest := []) X hW hS (cX5_hasPlace_met gs15) kb_X5_hasPlace kv_X5_hasPlace kl_X10_102 (it_v gq13).1 kX5 rfl rfl ⟨Nat.le_of_ble_eq_true rfl, Nat.le_of_ble_eq_true rfl⟩ rfl rfl (by decide) hl.1 dX10_box_39 ⟨(by decide), (by decide)⟩ (fun H locs hW hS => ?_)
      refine lv_if_ne (tgt := 52) hx hb dX10_box_42 (by decide) (fun c16 => ?_) (fun c16 => ?_)
      · replace h := it_f h c16
        refine lv_iload_n hx hb dX10_box_52 rfl (lv_at hl 4 rfl) ?_
        refine lv_iconst (v := 1) hx hb dX10_box_53 (by decide) ?_
        refine lv_icmp_ge (tgt := 64) hx hb dX10_box_54 (by decide) (fun c17 => ?_) (fun c17 => ?_)
        · replace h := it_t h c17
          refine lv_aload_n hx hb dX10_box_64 rfl (lv_at hl 1 rfl) ?_
          refine lv_aload hx hb dX10_box_65 (lv_at hl 0 rfl) ?_
          replace h := b1_some h
          obtain ⟨q18, gq18, h⟩ := h
          replace h := b2_some h
          obtain ⟨x19, s20, gs20, h⟩ := h
          refine z_callVi (rest := []) X hW hS (cX10_isNear_met gs20) kb_X10_isNear kv_X10_isNear kl_X10_105 (it_v gq18).1 kX10 rfl rfl ⟨Nat.le_of_ble_eq_true rfl, Nat.le_of_ble_eq_true rfl⟩ rfl rfl (by decide) hl.1 dX10_box_67 ⟨(by decide), (by decide)⟩ (fun H locs hW hS => ?_)
          refine lv_if_ne (tgt := 80) hx hb dX10_box_70 (by decide) (fun c21 => ?_) (fun c21 => ?_)
          · replace h := it_f h c21
            refine lv_iload_n hx hb dX10_box_80 rfl (lv_at hl 4 rfl) ?_
            refine lv_bipush (v := 8) hx hb dX10_box_81 (by decide) ?_
            refine lv_icmp_le (tgt := 93) hx hb dX10_box_83 (by decide) (fun c22 => ?_) (fun c22 => ?_)
            · replace h := it_t h c22
              refine lv_aload_n hx hb dX10_box_93 rfl (lv_at hl 1 rfl) ?_
              replace h := b1_some h
              obtain ⟨a23, ga23, h⟩ := h
              refine z_getA X hW ga23 kX10 (by decide) (by decide) kf_X10_10 dX10_box_94 ?_
              refine lv_iconst (v := 1) hx hb dX10_box_97 (by decide) ?_
              refine lv_aload hx hb dX10_box_98 (lv_at hl 0 rfl) ?_
              replace h := b1_some h
              obtain ⟨x24, gx24, h⟩ := h
              refine z_getI X hW gx24 kX5 (by decide) (by decide) kf_X10_109 dX10_box_100 ?_
              refine lv_iload_n hx hb dX10_box_103 rfl (lv_at hl 4 rfl) ?_
              replace h := b1_some h
              obtain ⟨q25, gq25, h⟩ := h
              replace h := b2_some h
              obtain ⟨r26, s27, gs27, h⟩ := h
              refine z_callVq (rest := []) X hW hS (cX6_make_met gs27) kb_X6_make kv_X6_make kl_X10_81 (it_v gq25).1 kX6 rfl rfl ⟨Nat.le_of_ble_eq_true rfl, Nat.le_of_ble_eq_true rfl⟩ rfl rfl (by decide) hl.1 dX10_box_104 ⟨(by decide), (by decide)⟩ (fun H locs hW hS => ?_)
              refine z_astore (lv' := [(5, va_rf r26), (4, .ref a5), (0, .ref o), (1, .int v1), (2, .int v2), (3, .int v3)]) hx hb dX10_box_107 hl (by decide) rfl (fun ls hl => ?_)
              refine z_aload hx hb dX10_box_109 (lv_at hl 0 rfl) ?_
              cases r26 with
              | none =>
                replace h := oe_n h
                have hl : lv_has ls 6 [(5, .null), (4, .ref a5), (0, .ref o), (1, .int v1), (2, .int v2), (3, .int v3)] := hl
                refine lv_ifnonnullN hx hb dX10_box_111 ?_
                refine lv_aload_n hx hb dX10_box_114 rfl (lv_at hl 2 rfl) ?_
                refine lv_bipush (v := (-6)) hx hb dX10_box_115 (by decide) ?_
                replace h := b1_some h
                obtain ⟨q29, gq29, h⟩ := h
                replace h := b2_some h
                obtain ⟨x30, s31, gs31, h⟩ := h
                refine z_callVi (rest := []) X hW hS (cX10_refuse_met gs31) kb_X10_refuse kv_X10_refuse kl_X10_77 (it_v gq29).1 kX10 rfl rfl ⟨Nat.le_of_ble_eq_true rfl, Nat.le_of_ble_eq_true rfl⟩ rfl rfl (by decide) hl.1 dX10_box_117 ⟨(by decide), (by decide)⟩ (fun H locs hW hS => ?_)
                exact z_eti X hlk hr hW hS h (by decide) (by decide) dX10_box_120
              | some a28 =>
                replace h := oe_s h
                have hl : lv_has ls 6 [(5, .ref a28), (4, .ref a5), (0, .ref o), (1, .int v1), (2, .int v2), (3, .int v3)] := hl
                refine lv_ifnonnull (tgt := 121) hx hb dX10_box_111 (by decide) ?_
                refine lv_aload hx hb dX10_box_121 (lv_at hl 1 rfl) ?_
                refine lv_iload_n hx hb dX10_box_123 rfl (lv_at hl 4 rfl) ?_
                refine lv_aload hx hb dX10_box_124 (lv_at hl 0 rfl) ?_
                replace h := b1_some h
                obtain ⟨q32, gq32, h⟩ := h
                replace h := b2_some h
                obtain ⟨_ur33, s34, gs34, h⟩ := h
                refine z_callVv (rest := []) X hW hS (cX5_holdThing_met gs34) kb_X5_holdThing kv_X5_holdThing kl_X10_115 (it_v gq32).1 kX5 rfl rfl ⟨Nat.le_of_ble_eq_true rfl, Nat.le_of_ble_eq_true rfl⟩ rfl rfl (by decide) hl.1 dX10_box_126 ⟨(by decide), (by decide)⟩ (fun H locs hW hS => ?_)
                refine lv_aload_n hx hb dX10_box_129 rfl (lv_at hl 2 rfl) ?_
                refine lv_aload hx hb dX10_box_130 (lv_at hl 1 rfl) ?_
                replace h := b1_some h
                obtain ⟨x35, gx35, h⟩ := h
                refine z_getI X hW gx35 kX5 (by decide) (by decide) kf_X10_109 dX10_box_132 ?_
                replace h := b1_some h
                obtain ⟨q36, gq36, h⟩ := h
                replace h := b2_some h
                obtain ⟨_ur37, s38, gs38, h⟩ := h
                refine z_callVv (rest := []) X hW hS (cX10_touch_met gs38) kb_X10_touch kv_X10_touch kl_X10_85 (it_v gq36).1 kX10 rfl rfl ⟨Nat.le_of_ble_eq_true rfl, Nat.le_of_ble_eq_true rfl⟩ rfl rfl (by decide) hl.1 dX10_box_135 ⟨(by decide), (by decide)⟩ (fun H locs hW hS => ?_)
                refine lv_aload hx hb dX10_box_138 (lv_at hl 0 rfl) ?_
                replace h := b1_some h
                obtain ⟨x39, gx39, h⟩ := h
                refine z_getI X hW gx39 kX5 (by decide) (by decide) kf_X10_89 dX10_box_140 ?_
                exact z_eti X hlk hr hW hS h (by decide) (by decide) dX10_box_143
            · replace h := it_f h c22
              refine lv_aload_n hx hb dX10_box_86 rfl (lv_at hl 1 rfl) ?_
              refine lv_bipush (v := (-6)) hx hb dX10_box_87 (by decide) ?_
              replace h := b1_some h
              obtain ⟨q40, gq40, h⟩ := h
              replace h := b2_some h
              obtain ⟨x41, s42, gs42, h⟩ := h
              refine z_callVi (rest := []) X hW hS (cX10_refuse_met gs42) kb_X10_refuse kv_X10_refuse kl_X10_77 (it_v gq40).1 kX10 rfl rfl ⟨Nat.le_of_ble_eq_true rfl, Nat.le_of_ble_eq_true rfl⟩ rfl rfl (by decide) hl.1 dX10_box_89 ⟨(by decide), (by decide)⟩ (fun H locs hW hS => ?_)
              exact z_eti X hlk hr hW hS h (by decide) (by decide) dX10_box_92
          · replace h := it_t h c21
            refine lv_aload_n hx hb dX10_box_73 rfl (lv_at hl 1 rfl) ?_
            refine lv_bipush (v := (-5)) hx hb dX10_box_74 (by decide) ?_
            replace h := b1_some h
            obtain ⟨q43, gq43, h⟩ := h
            replace h := b2_some h
            obtain ⟨x44, s45, gs45, h⟩ := h
            refine z_callVi (rest := []) X hW hS (cX10_refuse_met gs45) kb_X10_refuse kv_X10_refuse kl_X10_77 (it_v gq43).1 kX10 rfl rfl ⟨Nat.le_of_ble_eq_true rfl, Nat.le_of_ble_eq_true rfl⟩ rfl rfl (by decide) hl.1 dX10_box_76 ⟨(by decide), (by decide)⟩ (fun H locs hW hS => ?_)
            exact z_eti X hlk hr hW hS h (by decide) (by decide) dX10_box_79
        · replace h := it_f h c17
          refine lv_aload_n hx hb dX10_box_57 rfl (lv_at hl 1 rfl) ?_
          refine lv_bipush (v := (-4)) hx hb dX10_box_58 (by decide) ?_
          replace h := b1_some h
          obtain ⟨q46, gq46, h⟩ := h
          replace h := b2_some h
          obtain ⟨x47, s48, gs48, h⟩ := h
          refine z_callVi (rest := []) X hW hS (cX10_refuse_met gs48) kb_X10_refuse kv_X10_refuse kl_X10_77 (it_v gq46).1 kX10 rfl rfl ⟨Nat.le_of_ble_eq_true rfl, Nat.le_of_ble_eq_true rfl⟩ rfl rfl (by decide) hl.1 dX10_box_60 ⟨(by decide), (by decide)⟩ (fun H locs hW hS => ?_)
          exact z_eti X hlk hr hW hS h (by decide) (by decide) dX10_box_63
      · replace h := it_t h c16
        refine lv_aload_n hx hb dX10_box_45 rfl (lv_at hl 1 rfl) ?_
        refine lv_bipush (v := (-3)) hx hb dX10_box_46 (by decide) ?_
        replace h := b1_some h
        obtain ⟨q49, gq49, h⟩ := h
        replace h := b2_some h
        obtain ⟨x50, s51, gs51, h⟩ := h
        refine z_callVi (rest := []) X hW hS (cX10_refuse_met gs51) kb_X10_refuse kv_X10_refuse kl_X10_77 (it_v gq49).1 kX10 rfl rfl ⟨Nat.le_of_ble_eq_true rfl, Nat.le_of_ble_eq_true rfl⟩ rfl rfl (by decide) hl.1 dX10_box_48 ⟨(by decide), (by decide)⟩ (fun H locs hW hS => ?_)
        exact z_eti X hlk hr hW hS h (by decide) (by decide) dX10_box_51
    · replace h := it_t h c12
      refine lv_aload_n hx hb dX10_box_29 rfl (lv_at hl 1 rfl) ?_
      refine lv_bipush (v := (-2)) hx hb dX10_box_30 (by decide) ?_
      replace h := b1_some h
      obtain ⟨q52, gq52, h⟩ := h
      replace h := b2_some h
      obtain ⟨x53, s54, gs54, h⟩ := h
      refine z_callVi (rest := []) X hW hS (cX10_refuse_met gs54) kb_X10_refuse kv_X10_refuse kl_X10_77 (it_v gq52).1 kX10 rfl rfl ⟨Nat.le_of_ble_eq_true rfl, Nat.le_of_ble_eq_true rfl⟩ rfl rfl (by decide) hl.1 dX10_box_32 ⟨(by decide), (by decide)⟩ (fun H locs hW hS => ?_)
      exact z_eti X hlk hr hW hS h (by decide) (by decide) dX10_box_35

set_option maxHeartbeats 4000000 in
set_option maxRecDepth 100000 in
theorem cX10_box_met {l : Launch} {A : Nat → Prop} {D : va_G} {cy : Nat → ClassId} {r0 : Int32} {h0 : Hz} {o : Nat} {v1 : Int32} {v2 : Int32} {v3 : Int32} {h : Hz} (g : fX10_box o v1 v2 v3 h = some (r0, h0)) : Met l yX10_box (Cond.code yX10_box cX10_box 6 (some .int) :: wT) ({ frames := 5, cells := 3, slots := 27, locals := 108 } : Room) (va_Pc [.ref o, .int v1, .int v2, .int v3] (zS A D cy h)) (va_Qi (fun r1 u => r1 = r0 ∧ u = h0) (zB A D cy) A) 3 27 A := by
  refine Met.ofW (cc := cX10_box) (maxL := 6) (ret := (some .int)) (by decide) rfl ?_
  intro p e s m args below meth c s₁ B hml hv
  obtain ⟨rfl, hW, hK, hN, hA⟩ := hv
  have X : zX A D cy p s m _ c cX10_box RX10 6 := ⟨B.exec, B.bytes, fun w hw => atoms_spec (ws := Cond.code yX10_box cX10_box 6 (some .int) :: wT) B.pre w (List.mem_cons_of_mem _ hw), findClass_of_methodNamed B.named, hK, hml, hN, hA⟩
  have hl := lv_entry [.ref o, .int v1, .int v2, .int v3] (n := 6) (Nat.le_of_ble_eq_true rfl)
  rw [lg_entry_eq]
  generalize (lg_sl [.ref o, .int v1, .int v2, .int v3] ++ List.replicate (6 - (lg_sl [.ref o, .int v1, .int v2, .int v3]).length) Slot.unset).toArray = ls at hl ⊢
  have hl : lv_has ls 6 [(0, .ref o), (1, .int v1), (2, .int v2), (3, .int v3)] := hl
  exact wX10_box_0 X B.notSynchronized B.returns o v1 v2 v3 _ _ _ _ (lv_sub hl [0, 1, 2, 3] rfl) hW va_S.rf g

theorem dX10_put_0 : decode cX10_put 0 = .ok (.aload_n 0, 1) := by decide +kernel
theorem dX10_put_1 : decode cX10_put 1 = .ok (.getfield 10, 3) := by decide +kernel
theorem dX10_put_4 : decode cX10_put 4 = .ok (.iload_n 1, 1) := by decide +kernel
theorem dX10_put_5 : decode cX10_put 5 = .ok (.invokevirtual 94, 3) := by decide +kernel
theorem dX10_put_8 : decode cX10_put 8 = .ok (.astore 4, 2) := by decide +kernel
theorem dX10_put_10 : decode cX10_put 10 = .ok (.aload_n 0, 1) := by decide +kernel
theorem dX10_put_11 : decode cX10_put 11 = .ok (.getfield 10, 3) := by decide +kernel
theorem dX10_put_14 : decode cX10_put 14 = .ok (.iload_n 3, 1) := by decide +kernel
theorem dX10_put_15 : decode cX10_put 15 = .ok (.invokevirtual 94, 3) := by decide +kernel
theorem dX10_put_18 : decode cX10_put 18 = .ok (.astore 5, 2) := by decide +kernel
theorem dX10_put_20 : decode cX10_put 20 = .ok (.aload 4, 2) := by decide +kernel
theorem dX10_put_22 : decode cX10_put 22 = .ok (.ifnull 8, 3) := by decide +kernel
theorem dX10_put_25 : decode cX10_put 25 = .ok (.aload 5, 2) := by decide +kernel
theorem dX10_put_27 : decode cX10_put 27 = .ok (.ifnonnull 9, 3) := by decide +kernel
theorem dX10_put_30 : decode cX10_put 30 = .ok (.aload_n 0, 1) := by decide +kernel
theorem dX10_put_31 : decode cX10_put 31 = .ok (.iconst (-1), 1) := by decide +kernel
theorem dX10_put_32 : decode cX10_put 32 = .ok (.invokevirtual 77, 3) := by decide +kernel
theorem dX10_put_35 : decode cX10_put 35 = .ok (.ireturn, 1) := by decide +kernel
theorem dX10_put_36 : decode cX10_put 36 = .ok (.aload 4, 2) := by decide +kernel
theorem dX10_put_38 : decode cX10_put 38 = .ok (.invokevirtual 98, 3) := by decide +kernel
theorem dX10_put_41 : decode cX10_put 41 = .ok (.ifCond .ne 10, 3) := by decide +kernel
theorem dX10_put_44 : decode cX10_put 44 = .ok (.aload_n 0, 1) := by decide +kernel
theorem dX10_put_45 : decode cX10_put 45 = .ok (.bipush (-2), 2) := by decide +kernel
theorem dX10_put_47 : decode cX10_put 47 = .ok (.invokevirtual 77, 3) := by decide +kernel
theorem dX10_put_50 : decode cX10_put 50 = .ok (.ireturn, 1) := by decide +kernel
theorem dX10_put_51 : decode cX10_put 51 = .ok (.aload 4, 2) := by decide +kernel
theorem dX10_put_53 : decode cX10_put 53 = .ok (.iload_n 2, 1) := by decide +kernel
theorem dX10_put_54 : decode cX10_put 54 = .ok (.invokevirtual 102, 3) := by decide +kernel
theorem dX10_put_57 : decode cX10_put 57 = .ok (.ifCond .ne 10, 3) := by decide +kernel
theorem dX10_put_60 : decode cX10_put 60 = .ok (.aload_n 0, 1) := by decide +kernel
theorem dX10_put_61 : decode cX10_put 61 = .ok (.bipush (-3), 2) := by decide +kernel
theorem dX10_put_63 : decode cX10_put 63 = .ok (.invokevirtual 77, 3) := by decide +kernel
theorem dX10_put_66 : decode cX10_put 66 = .ok (.ireturn, 1) := by decide +kernel
theorem dX10_put_67 : decode cX10_put 67 = .ok (.aload 4, 2) := by decide +kernel
theorem dX10_put_69 : decode cX10_put 69 = .ok (.getfield 109, 3) := by decide +kernel
theorem dX10_put_72 : decode cX10_put 72 = .ok (.aload 5, 2) := by decide +kernel
theorem dX10_put_74 : decode cX10_put 74 = .ok (.getfield 109, 3) := by decide +kernel
theorem dX10_put_77 : decode cX10_put 77 = .ok (.if_icmp .eq 10, 3) := by decide +kernel
theorem dX10_put_80 : decode cX10_put 80 = .ok (.aload_n 0, 1) := by decide +kernel
theorem dX10_put_81 : decode cX10_put 81 = .ok (.bipush (-5), 2) := by decide +kernel
theorem dX10_put_83 : decode cX10_put 83 = .ok (.invokevirtual 77, 3) := by decide +kernel
theorem dX10_put_86 : decode cX10_put 86 = .ok (.ireturn, 1) := by decide +kernel
theorem dX10_put_87 : decode cX10_put 87 = .ok (.aload_n 0, 1) := by decide +kernel
theorem dX10_put_88 : decode cX10_put 88 = .ok (.aload 4, 2) := by decide +kernel
theorem dX10_put_90 : decode cX10_put 90 = .ok (.invokevirtual 105, 3) := by decide +kernel
theorem dX10_put_93 : decode cX10_put 93 = .ok (.ifCond .eq 12, 3) := by decide +kernel
theorem dX10_put_96 : decode cX10_put 96 = .ok (.aload_n 0, 1) := by decide +kernel
theorem dX10_put_97 : decode cX10_put 97 = .ok (.aload 5, 2) := by decide +kernel
theorem dX10_put_99 : decode cX10_put 99 = .ok (.invokevirtual 105, 3) := by decide +kernel
theorem dX10_put_102 : decode cX10_put 102 = .ok (.ifCond .ne 10, 3) := by decide +kernel
theorem dX10_put_105 : decode cX10_put 105 = .ok (.aload_n 0, 1) := by decide +kernel
theorem dX10_put_106 : decode cX10_put 106 = .ok (.bipush (-5), 2) := by decide +kernel
theorem dX10_put_108 : decode cX10_put 108 = .ok (.invokevirtual 77, 3) := by decide +kernel
theorem dX10_put_111 : decode cX10_put 111 = .ok (.ireturn, 1) := by decide +kernel
theorem dX10_put_112 : decode cX10_put 112 = .ok (.aload 4, 2) := by decide +kernel
theorem dX10_put_114 : decode cX10_put 114 = .ok (.iload_n 2, 1) := by decide +kernel
theorem dX10_put_115 : decode cX10_put 115 = .ok (.aload 5, 2) := by decide +kernel
theorem dX10_put_117 : decode cX10_put 117 = .ok (.invokevirtual 115, 3) := by decide +kernel
theorem dX10_put_120 : decode cX10_put 120 = .ok (.aload_n 0, 1) := by decide +kernel
theorem dX10_put_121 : decode cX10_put 121 = .ok (.aload 4, 2) := by decide +kernel
theorem dX10_put_123 : decode cX10_put 123 = .ok (.getfield 109, 3) := by decide +kernel
theorem dX10_put_126 : decode cX10_put 126 = .ok (.invokevirtual 85, 3) := by decide +kernel
theorem dX10_put_129 : decode cX10_put 129 = .ok (.iconst 1, 1) := by decide +kernel
theorem dX10_put_130 : decode cX10_put 130 = .ok (.ireturn, 1) := by decide +kernel
def fX10_put_30 (o : Nat) (h : Hz) : Option (Int32 × Hz) := (b1 (tg 10 o h) fun _ => (b2 (fX10_refuse o (-1) h) fun x2 s3 => some (x2, s3)))
set_option maxHeartbeats 4000000 in
set_option maxRecDepth 100000 in
theorem wX10_put_30 {r0 : Int32} {h0 : Hz} (X : zX A D cy p s m args c cX10_put RX10 6) (hlk : meth.locks = false) (hr : meth.sig.returnType = (some .int)) (o : Nat) (h : Hz) (H : Heap) (locs : List Loc) (ls : Array Slot) (hl : lv_has ls 6 [(0, .ref o)]) (hW : zW A cy D h H) (hS : va_S A s.heap H locs) (h : fX10_put_30 o h = some (r0, h0)) : W p l e ({ frames := 5, cells := 0, slots := 0, locals := 108 } : Room) s m args below meth c H locs 0 0 (MQ below (va_Qi (fun r1 u => r1 = r0 ∧ u = h0) (zB A D cy) A) args s 0 0 A) (F0 m 30 ls []) := by
  obtain ⟨hx, hb, hts, hown, hK9, hml, hN9, hA9⟩ := id X
  unfold fX10_put_30 at h
  refine lv_aload_n hx hb dX10_put_30 rfl (lv_at hl 0 rfl) ?_
  refine lv_iconst (v := (-1)) hx hb dX10_put_31 (by decide) ?_
  replace h := b1_some h
  obtain ⟨q1, gq1, h⟩ := h
  replace h := b2_some h
  obtain ⟨x2, s3, gs3, h⟩ := h
  refine z_callVi (rest := []) X hW hS (cX10_refuse_met gs3) kb_X10_refuse kv_X10_refuse kl_X10_77 (it_v gq1).1 kX10 rfl rfl ⟨Nat.le_of_ble_eq_true rfl, Nat.le_of_ble_eq_true rfl⟩ rfl rfl (by decide) hl.1 dX10_put_32 ⟨(by decide), (by decide)⟩ (fun H locs hW hS => ?_)
  exact z_eti X hlk hr hW hS h (by decide) (by decide) dX10_put_35

def fX10_put_105 (o : Nat) (h : Hz) : Option (Int32 × Hz) := (b1 (tg 10 o h) fun _ => (b2 (fX10_refuse o (-5) h) fun x2 s3 => some (x2, s3)))
set_option maxHeartbeats 4000000 in
set_option maxRecDepth 100000 in
theorem wX10_put_105 {r0 : Int32} {h0 : Hz} (X : zX A D cy p s m args c cX10_put RX10 6) (hlk : meth.locks = false) (hr : meth.sig.returnType = (some .int)) (o : Nat) (h : Hz) (H : Heap) (locs : List Loc) (ls : Array Slot) (hl : lv_has ls 6 [(0, .ref o)]) (hW : zW A cy D h H) (hS : va_S A s.heap H locs) (h : fX10_put_105 o h = some (r0, h0)) : W p l e ({ frames := 5, cells := 0, slots := 0, locals := 108 } : Room) s m args below meth c H locs 0 0 (MQ below (va_Qi (fun r1 u => r1 = r0 ∧ u = h0) (zB A D cy) A) args s 0 0 A) (F0 m 105 ls []) := by
  obtain ⟨hx, hb, hts, hown, hK9, hml, hN9, hA9⟩ := id X
  unfold fX10_put_105 at h
  refine lv_aload_n hx hb dX10_put_105 rfl (lv_at hl 0 rfl) ?_
  refine lv_bipush (v := (-5)) hx hb dX10_put_106 (by decide) ?_
  replace h := b1_some h
  obtain ⟨q1, gq1, h⟩ := h
  replace h := b2_some h
  obtain ⟨x2, s3, gs3, h⟩ := h
  refine z_callVi (rest := []) X hW hS (cX10_refuse_met gs3) kb_X10_refuse kv_X10_refuse kl_X10_77 (it_v gq1).1 kX10 rfl rfl ⟨Nat.le_of_ble_eq_true rfl, Nat.le_of_ble_eq_true rfl⟩ rfl rfl (by decide) hl.1 dX10_put_108 ⟨(by decide), (by decide)⟩ (fun H locs hW hS => ?_)
  exact z_eti X hlk hr hW hS h (by decide) (by decide) dX10_put_111

def fX10_put (o : Nat) (v1 : Int32) (v2 : Int32) (v3 : Int32) (h : Hz) : Option (Int32 × Hz) := (b1 (gA 10 0 o h) fun a1 => (b1 (tg 6 a1 h) fun _ => (b2 (fX6_find a1 v1 h) fun r3 s4 => (b1 (gA 10 0 o s4) fun a5 => (b1 (tg 6 a5 s4) fun _ => (b2 (fX6_find a5 v3 s4) fun r7 s8 => (oe r3 (fX10_put_30 o s8) fun a9 => (oe r7 (fX10_put_30 o s8) fun a10 => (b1 (tg 5 a9 s8) fun _ => (b2 (fX5_hasPlaces a9 s8) fun x12 s13 => (if x12 = 0 then (b1 (tg 10 o s13) fun _ => (b2 (fX10_refuse o (-2) s13) fun x44 s45 => some (x44, s45))) else (b1 (tg 5 a9 s13) fun _ => (b2 (fX5_hasPlace a9 v2 s13) fun x16 s17 => (if x16 = 0 then (b1 (tg 10 o s17) fun _ => (b2 (fX10_refuse o (-3) s17) fun x41 s42 => some (x41, s42))) else (b1 (gI 5 2 a9 s17) fun x19 => (b1 (gI 5 2 a10 s17) fun x20 => (if x19 = x20 then (b1 (tg 10 o s17) fun _ => (b2 (fX10_isNear o (some a9) s17) fun x23 s24 => (if x23 = 0 then fX10_put_105 o s24 else (b1 (tg 10 o s24) fun _ => (b2 (fX10_isNear o (some a10) s24) fun x27 s28 => (if x27 = 0 then fX10_put_105 o s28 else (b1 (tg 5 a9 s28) fun _ => (b2 (fX5_holdThing a9 v2 (some a10) s28) fun _ s32 => (b1 (gI 5 2 a9 s32) fun x33 => (b1 (tg 10 o s32) fun _ => (b2 (fX10_touch o x33 s32) fun _ s36 => some (1, s36)))))))))))) else (b1 (tg 10 o s17) fun _ => (b2 (fX10_refuse o (-5) s17) fun x38 s39 => some (x38, s39))))))))))))))))))))
set_option maxHeartbeats 4000000 in
set_option maxRecDepth 100000 in
theorem wX10_put_0 {r0 : Int32} {h0 : Hz} (X : zX A D cy p s m args c cX10_put RX10 6) (hlk : meth.locks = false) (hr : meth.sig.returnType = (some .int)) (o : Nat) (v1 : Int32) (v2 : Int32) (v3 : Int32) (h : Hz) (H : Heap) (locs : List Loc) (ls : Array Slot) (hl : lv_has ls 6 [(0, .ref o), (1, .int v1), (2, .int v2), (3, .int v3)]) (hW : zW A cy D h H) (hS : va_S A s.heap H locs) (h : fX10_put o v1 v2 v3 h = some (r0, h0)) : W p l e ({ frames := 5, cells := 0, slots := 0, locals := 108 } : Room) s m args below meth c H locs 0 0 (MQ below (va_Qi (fun r1 u => r1 = r0 ∧ u = h0) (zB A D cy) A) args s 0 0 A) (F0 m 0 ls []) := by
  obtain ⟨hx, hb, hts, hown, hK9, hml, hN9, hA9⟩ := id X
  unfold fX10_put at h
  refine lv_aload_n hx hb dX10_put_0 rfl (lv_at hl 0 rfl) ?_
  replace h := b1_some h
  obtain ⟨a1, ga1, h⟩ := h
  refine z_getA X hW ga1 kX10 (by decide) (by decide) kf_X10_10 dX10_put_1 ?_
  refine lv_iload_n hx hb dX10_put_4 rfl (lv_at hl 1 rfl) ?_
  replace h := b1_some h
  obtain ⟨q2, gq2, h⟩ := h
  replace h := b2_some h
  obtain ⟨r3, s4, gs4, h⟩ := h
  refine z_callVq (rest := []) X hW hS (cX6_find_met gs4) kb_X6_find kv_X6_find kl_X10_94 (it_v gq2).1 kX6 rfl rfl ⟨Nat.le_of_ble_eq_true rfl, Nat.le_of_ble_eq_true rfl⟩ rfl rfl (by decide) hl.1 dX10_put_5 ⟨(by decide), (by decide)⟩ (fun H locs hW hS => ?_)
  refine z_astore (lv' := [(4, va_rf r3), (0, .ref o), (1, .int v1), (2, .int v2), (3, .int v3)]) hx hb dX10_put_8 hl (by decide) rfl (fun ls hl => ?_)
  refine lv_aload_n hx hb dX10_put_10 rfl (lv_at hl 1 rfl) ?_
  replace h := b1_some h
  obtain ⟨a5, ga5, h⟩ := h
  refine z_getA X hW ga5 kX10 (by decide) (by decide) kf_X10_10 dX10_put_11 ?_
  refine lv_iload_n hx hb dX10_put_14 rfl (lv_at hl 4 rfl) ?_
  replace h := b1_some h
  obtain ⟨q6, gq6, h⟩ := h
  replace h := b2_some h
  obtain ⟨r7, s8, gs8, h⟩ := h
  refine z_callVq (rest := []) X hW hS (cX6_find_met gs8) kb_X6_find kv_X6_find kl_X10_94 (it_v gq6).1 kX6 rfl rfl ⟨Nat.le_of_ble_eq_true rfl, Nat.le_of_ble_eq_true rfl⟩ rfl rfl (by decide) hl.1 dX10_put_15 ⟨(by decide), (by decide)⟩ (fun H locs hW hS => ?_)
  refine z_astore (lv' := [(5, va_rf r7), (4, va_rf r3), (0, .ref o), (1, .int v1), (2, .int v2), (3, .int v3)]) hx hb dX10_put_18 hl (by decide) (by cases r3 <;> rfl) (fun ls hl => ?_)
  refine z_aload hx hb dX10_put_20 (lv_at hl 1 rfl) ?_
  cases r3 with
  | none =>
    replace h := oe_n h
    have hl : lv_has ls 6 [(5, va_rf r7), (4, .null), (0, .ref o), (1, .int v1), (2, .int v2), (3, .int v3)] := hl
    refine lv_ifnullN (tgt := 30) hx hb dX10_put_22 (by decide) ?_
    exact wX10_put_30 X hlk hr o _ _ _ _ (lv_sub hl [2] rfl) hW hS h
  | some a9 =>
    replace h := oe_s h
    have hl : lv_has ls 6 [(5, va_rf r7), (4, .ref a9), (0, .ref o), (1, .int v1), (2, .int v2), (3, .int v3)] := hl
    refine lv_ifnull hx hb dX10_put_22 ?_
    refine z_aload hx hb dX10_put_25 (lv_at hl 0 rfl) ?_
    cases r7 with
    | none =>
      replace h := oe_n h
      have hl : lv_has ls 6 [(5, .null), (4, .ref a9), (0, .ref o), (1, .int v1), (2, .int v2), (3, .int v3)] := hl
      refine lv_ifnonnullN hx hb dX10_put_27 ?_
      exact wX10_put_30 X hlk hr o _ _ _ _ (lv_sub hl [2] rfl) hW hS h
    | some a10 =>
      replace h := oe_s h
      have hl : lv_has ls 6 [(5, .ref a10), (4, .ref a9), (0, .ref o), (1, .int v1), (2, .int v2), (3, .int v3)] := hl
      refine lv_ifnonnull (tgt := 36) hx hb dX10_put_27 (by decide) ?_
      refine lv_aload hx hb dX10_put_36 (lv_at hl 1 rfl) ?_
      replace h := b1_some h
      obtain ⟨q11, gq11, h⟩ := h
      replace h := b2_some h
      obtain ⟨x12, s13, gs13, h⟩ := h
      refine z_callVi (rest := []) X hW hS (cX5_hasPlaces_met gs13) kb_X5_hasPlaces kv_X5_hasPlaces kl_X10_98 (it_v gq11).1 kX5 rfl rfl ⟨Nat.le_of_ble_eq_true rfl, Nat.le_of_ble_eq_true rfl⟩ rfl rfl (by decide) hl.1 dX10_put_38 ⟨(by decide), (by decide)⟩ (fun H locs hW hS => ?_)
      refine lv_if_ne (tgt := 51) hx hb dX10_put_41 (by decide) (fun c14 => ?_) (fun c14 => ?_)
      · replace h := it_f h c14
        refine lv_aload hx hb dX10_put_51 (lv_at hl 1 rfl) ?_
        refine lv_iload_n hx hb dX10_put_53 rfl (lv_at hl 4 rfl) ?_
        replace h := b1_some h
        obtain ⟨q15, gq15, h⟩ := h
        replace h := b2_some h
        obtain ⟨x16, s17, gs17, h⟩ := h
        refine z_callVi (rest := []) X hW hS (cX5_hasPlace_met gs17) kb_X5_hasPlace kv_X5_hasPlace kl_X10_102 (it_v gq15).1 kX5 rfl rfl ⟨Nat.le_of_ble_eq_true rfl, Nat.le_of_ble_eq_true rfl⟩ rfl rfl (by decide) hl.1 dX10_put_54 ⟨(by decide), (by decide)⟩ (fun H locs hW hS => ?_)
        refine lv_if_ne (tgt := 67) hx hb dX10_put_57 (by decide) (fun c18 => ?_) (fun c18 => ?_)
        · replace h := it_f h c18
          refine lv_aload hx hb dX10_put_67 (lv_at hl 1 rfl) ?_
          replace h := b1_some h
          obtain ⟨x19, gx19, h⟩ := h
          refine z_getI X hW gx19 kX5 (by decide) (by decide) kf_X10_109 dX10_put_69 ?_
          refine lv_aload hx hb dX10_put_72 (lv_at hl 0 rfl) ?_
          replace h := b1_some h
          obtain ⟨x20, gx20, h⟩ := h
          refine z_getI X hW gx20 kX5 (by decide) (by decide) kf_X10_109 dX10_put_74 ?_
          refine lv_icmp_eq (tgt := 87) hx hb dX10_put_77 (by decide) (fun c21 => ?_) (fun c21 => ?_)
          · replace h := it_t h c21
            refine lv_aload_n hx hb dX10_put_87 rfl (lv_at hl 2 rfl) ?_
            refine lv_aload hx hb dX10_put_88 (lv_at hl 1 rfl) ?_
            replace h := b1_some h
            obtain ⟨q22, gq22, h⟩ := h
            replace h := b2_some h
            obtain ⟨x23, s24, gs24, h⟩ := h
            refine z_callVi (rest := []) X hW hS (cX10_isNear_met gs24) kb_X10_isNear kv_X10_isNear kl_X10_105 (it_v gq22).1 kX10 rfl rfl ⟨Nat.le_of_ble_eq_true rfl, Nat.le_of_ble_eq_true rfl⟩ rfl rfl (by decide) hl.1 dX10_put_90 ⟨(by decide), (by decide)⟩ (fun H locs hW hS => ?_)
            refine lv_if_eq (tgt := 105) hx hb dX10_put_93 (by decide) (fun c25 => ?_) (fun c25 => ?_)
            · replace h := it_t h c25
              exact wX10_put_105 X hlk hr o _ _ _ _ (lv_sub hl [2] rfl) hW hS h
            · replace h := it_f h c25
              refine lv_aload_n hx hb dX10_put_96 rfl (lv_at hl 2 rfl) ?_
              refine lv_aload hx hb dX10_put_97 (lv_at hl 0 rfl) ?_
              replace h := b1_some h
              obtain ⟨q26, gq26, h⟩ := h
              replace h := b2_some h
              obtain ⟨x27, s28, gs28, h⟩ := h
              refine z_callVi (rest := []) X hW hS (cX10_isNear_met gs28) kb_X10_isNear kv_X10_isNear kl_X10_105 (it_v gq26).1 kX10 rfl rfl ⟨Nat.le_of_ble_eq_true rfl, Nat.le_of_ble_eq_true rfl⟩ rfl rfl (by decide) hl.1 dX10_put_99 ⟨(by decide), (by decide)⟩ (fun H locs hW hS => ?_)
              refine lv_if_ne (tgt := 112) hx hb dX10_put_102 (by decide) (fun c29 => ?_) (fun c29 => ?_)
              · replace h := it_f h c29
                refine lv_aload hx hb dX10_put_112 (lv_at hl 1 rfl) ?_
                refine lv_iload_n hx hb dX10_put_114 rfl (lv_at hl 4 rfl) ?_
                refine lv_aload hx hb dX10_put_115 (lv_at hl 0 rfl) ?_
                replace h := b1_some h
                obtain ⟨q30, gq30, h⟩ := h
                replace h := b2_some h
                obtain ⟨_ur31, s32, gs32, h⟩ := h
                refine z_callVv (rest := []) X hW hS (cX5_holdThing_met gs32) kb_X5_holdThing kv_X5_holdThing kl_X10_115 (it_v gq30).1 kX5 rfl rfl ⟨Nat.le_of_ble_eq_true rfl, Nat.le_of_ble_eq_true rfl⟩ rfl rfl (by decide) hl.1 dX10_put_117 ⟨(by decide), (by decide)⟩ (fun H locs hW hS => ?_)
                refine lv_aload_n hx hb dX10_put_120 rfl (lv_at hl 2 rfl) ?_
                refine lv_aload hx hb dX10_put_121 (lv_at hl 1 rfl) ?_
                replace h := b1_some h
                obtain ⟨x33, gx33, h⟩ := h
                refine z_getI X hW gx33 kX5 (by decide) (by decide) kf_X10_109 dX10_put_123 ?_
                replace h := b1_some h
                obtain ⟨q34, gq34, h⟩ := h
                replace h := b2_some h
                obtain ⟨_ur35, s36, gs36, h⟩ := h
                refine z_callVv (rest := []) X hW hS (cX10_touch_met gs36) kb_X10_touch kv_X10_touch kl_X10_85 (it_v gq34).1 kX10 rfl rfl ⟨Nat.le_of_ble_eq_true rfl, Nat.le_of_ble_eq_true rfl⟩ rfl rfl (by decide) hl.1 dX10_put_126 ⟨(by decide), (by decide)⟩ (fun H locs hW hS => ?_)
                refine lv_iconst (v := 1) hx hb dX10_put_129 (by decide) ?_
                exact z_eti X hlk hr hW hS h (by decide) (by decide) dX10_put_130
              · replace h := it_t h c29
                exact wX10_put_105 X hlk hr o _ _ _ _ (lv_sub hl [2] rfl) hW hS h
          · replace h := it_f h c21
            refine lv_aload_n hx hb dX10_put_80 rfl (lv_at hl 2 rfl) ?_
            refine lv_bipush (v := (-5)) hx hb dX10_put_81 (by decide) ?_
            replace h := b1_some h
            obtain ⟨q37, gq37, h⟩ := h
            replace h := b2_some h
            obtain ⟨x38, s39, gs39, h⟩ := h
            refine z_callVi (rest := []) X hW hS (cX10_refuse_met gs39) kb_X10_refuse kv_X10_refuse kl_X10_77 (it_v gq37).1 kX10 rfl rfl ⟨Nat.le_of_ble_eq_true rfl, Nat.le_of_ble_eq_true rfl⟩ rfl rfl (by decide) hl.1 dX10_put_83 ⟨(by decide), (by decide)⟩ (fun H locs hW hS => ?_)
            exact z_eti X hlk hr hW hS h (by decide) (by decide) dX10_put_86
        · replace h := it_t h c18
          refine lv_aload_n hx hb dX10_put_60 rfl (lv_at hl 2 rfl) ?_
          refine lv_bipush (v := (-3)) hx hb dX10_put_61 (by decide) ?_
          replace h := b1_some h
          obtain ⟨q40, gq40, h⟩ := h
          replace h := b2_some h
          obtain ⟨x41, s42, gs42, h⟩ := h
          refine z_callVi (rest := []) X hW hS (cX10_refuse_met gs42) kb_X10_refuse kv_X10_refuse kl_X10_77 (it_v gq40).1 kX10 rfl rfl ⟨Nat.le_of_ble_eq_true rfl, Nat.le_of_ble_eq_true rfl⟩ rfl rfl (by decide) hl.1 dX10_put_63 ⟨(by decide), (by decide)⟩ (fun H locs hW hS => ?_)
          exact z_eti X hlk hr hW hS h (by decide) (by decide) dX10_put_66
      · replace h := it_t h c14
        refine lv_aload_n hx hb dX10_put_44 rfl (lv_at hl 2 rfl) ?_
        refine lv_bipush (v := (-2)) hx hb dX10_put_45 (by decide) ?_
        replace h := b1_some h
        obtain ⟨q43, gq43, h⟩ := h
        replace h := b2_some h
        obtain ⟨x44, s45, gs45, h⟩ := h
        refine z_callVi (rest := []) X hW hS (cX10_refuse_met gs45) kb_X10_refuse kv_X10_refuse kl_X10_77 (it_v gq43).1 kX10 rfl rfl ⟨Nat.le_of_ble_eq_true rfl, Nat.le_of_ble_eq_true rfl⟩ rfl rfl (by decide) hl.1 dX10_put_47 ⟨(by decide), (by decide)⟩ (fun H locs hW hS => ?_)
        exact z_eti X hlk hr hW hS h (by decide) (by decide) dX10_put_50

set_option maxHeartbeats 4000000 in
set_option maxRecDepth 100000 in
theorem cX10_put_met {l : Launch} {A : Nat → Prop} {D : va_G} {cy : Nat → ClassId} {r0 : Int32} {h0 : Hz} {o : Nat} {v1 : Int32} {v2 : Int32} {v3 : Int32} {h : Hz} (g : fX10_put o v1 v2 v3 h = some (r0, h0)) : Met l yX10_put (Cond.code yX10_put cX10_put 6 (some .int) :: wT) ({ frames := 5, cells := 0, slots := 0, locals := 108 } : Room) (va_Pc [.ref o, .int v1, .int v2, .int v3] (zS A D cy h)) (va_Qi (fun r1 u => r1 = r0 ∧ u = h0) (zB A D cy) A) 0 0 A := by
  refine Met.ofW (cc := cX10_put) (maxL := 6) (ret := (some .int)) (by decide) rfl ?_
  intro p e s m args below meth c s₁ B hml hv
  obtain ⟨rfl, hW, hK, hN, hA⟩ := hv
  have X : zX A D cy p s m _ c cX10_put RX10 6 := ⟨B.exec, B.bytes, fun w hw => atoms_spec (ws := Cond.code yX10_put cX10_put 6 (some .int) :: wT) B.pre w (List.mem_cons_of_mem _ hw), findClass_of_methodNamed B.named, hK, hml, hN, hA⟩
  have hl := lv_entry [.ref o, .int v1, .int v2, .int v3] (n := 6) (Nat.le_of_ble_eq_true rfl)
  rw [lg_entry_eq]
  generalize (lg_sl [.ref o, .int v1, .int v2, .int v3] ++ List.replicate (6 - (lg_sl [.ref o, .int v1, .int v2, .int v3]).length) Slot.unset).toArray = ls at hl ⊢
  have hl : lv_has ls 6 [(0, .ref o), (1, .int v1), (2, .int v2), (3, .int v3)] := hl
  exact wX10_put_0 X B.notSynchronized B.returns o v1 v2 v3 _ _ _ _ (lv_sub hl [0, 1, 2, 3] rfl) hW va_S.rf g

theorem dX10_clear_0 : decode cX10_clear 0 = .ok (.aload_n 0, 1) := by decide +kernel
theorem dX10_clear_1 : decode cX10_clear 1 = .ok (.getfield 10, 3) := by decide +kernel
theorem dX10_clear_4 : decode cX10_clear 4 = .ok (.iload_n 1, 1) := by decide +kernel
theorem dX10_clear_5 : decode cX10_clear 5 = .ok (.invokevirtual 94, 3) := by decide +kernel
theorem dX10_clear_8 : decode cX10_clear 8 = .ok (.astore_n 3, 1) := by decide +kernel
theorem dX10_clear_9 : decode cX10_clear 9 = .ok (.aload_n 3, 1) := by decide +kernel
theorem dX10_clear_10 : decode cX10_clear 10 = .ok (.ifnonnull 9, 3) := by decide +kernel
theorem dX10_clear_13 : decode cX10_clear 13 = .ok (.aload_n 0, 1) := by decide +kernel
theorem dX10_clear_14 : decode cX10_clear 14 = .ok (.iconst (-1), 1) := by decide +kernel
theorem dX10_clear_15 : decode cX10_clear 15 = .ok (.invokevirtual 77, 3) := by decide +kernel
theorem dX10_clear_18 : decode cX10_clear 18 = .ok (.ireturn, 1) := by decide +kernel
theorem dX10_clear_19 : decode cX10_clear 19 = .ok (.aload_n 3, 1) := by decide +kernel
theorem dX10_clear_20 : decode cX10_clear 20 = .ok (.invokevirtual 98, 3) := by decide +kernel
theorem dX10_clear_23 : decode cX10_clear 23 = .ok (.ifCond .ne 10, 3) := by decide +kernel
theorem dX10_clear_26 : decode cX10_clear 26 = .ok (.aload_n 0, 1) := by decide +kernel
theorem dX10_clear_27 : decode cX10_clear 27 = .ok (.bipush (-2), 2) := by decide +kernel
theorem dX10_clear_29 : decode cX10_clear 29 = .ok (.invokevirtual 77, 3) := by decide +kernel
theorem dX10_clear_32 : decode cX10_clear 32 = .ok (.ireturn, 1) := by decide +kernel
theorem dX10_clear_33 : decode cX10_clear 33 = .ok (.aload_n 3, 1) := by decide +kernel
theorem dX10_clear_34 : decode cX10_clear 34 = .ok (.iload_n 2, 1) := by decide +kernel
theorem dX10_clear_35 : decode cX10_clear 35 = .ok (.invokevirtual 102, 3) := by decide +kernel
theorem dX10_clear_38 : decode cX10_clear 38 = .ok (.ifCond .ne 10, 3) := by decide +kernel
theorem dX10_clear_41 : decode cX10_clear 41 = .ok (.aload_n 0, 1) := by decide +kernel
theorem dX10_clear_42 : decode cX10_clear 42 = .ok (.bipush (-3), 2) := by decide +kernel
theorem dX10_clear_44 : decode cX10_clear 44 = .ok (.invokevirtual 77, 3) := by decide +kernel
theorem dX10_clear_47 : decode cX10_clear 47 = .ok (.ireturn, 1) := by decide +kernel
theorem dX10_clear_48 : decode cX10_clear 48 = .ok (.aload_n 0, 1) := by decide +kernel
theorem dX10_clear_49 : decode cX10_clear 49 = .ok (.aload_n 3, 1) := by decide +kernel
theorem dX10_clear_50 : decode cX10_clear 50 = .ok (.invokevirtual 105, 3) := by decide +kernel
theorem dX10_clear_53 : decode cX10_clear 53 = .ok (.ifCond .ne 10, 3) := by decide +kernel
theorem dX10_clear_56 : decode cX10_clear 56 = .ok (.aload_n 0, 1) := by decide +kernel
theorem dX10_clear_57 : decode cX10_clear 57 = .ok (.bipush (-5), 2) := by decide +kernel
theorem dX10_clear_59 : decode cX10_clear 59 = .ok (.invokevirtual 77, 3) := by decide +kernel
theorem dX10_clear_62 : decode cX10_clear 62 = .ok (.ireturn, 1) := by decide +kernel
theorem dX10_clear_63 : decode cX10_clear 63 = .ok (.aload_n 3, 1) := by decide +kernel
theorem dX10_clear_64 : decode cX10_clear 64 = .ok (.iload_n 2, 1) := by decide +kernel
theorem dX10_clear_65 : decode cX10_clear 65 = .ok (.invokevirtual 119, 3) := by decide +kernel
theorem dX10_clear_68 : decode cX10_clear 68 = .ok (.ifCond .eq 10, 3) := by decide +kernel
theorem dX10_clear_71 : decode cX10_clear 71 = .ok (.aload_n 0, 1) := by decide +kernel
theorem dX10_clear_72 : decode cX10_clear 72 = .ok (.bipush (-7), 2) := by decide +kernel
theorem dX10_clear_74 : decode cX10_clear 74 = .ok (.invokevirtual 77, 3) := by decide +kernel
theorem dX10_clear_77 : decode cX10_clear 77 = .ok (.ireturn, 1) := by decide +kernel
theorem dX10_clear_78 : decode cX10_clear 78 = .ok (.aload_n 3, 1) := by decide +kernel
theorem dX10_clear_79 : decode cX10_clear 79 = .ok (.iload_n 2, 1) := by decide +kernel
theorem dX10_clear_80 : decode cX10_clear 80 = .ok (.aconst_null, 1) := by decide +kernel
theorem dX10_clear_81 : decode cX10_clear 81 = .ok (.invokevirtual 115, 3) := by decide +kernel
theorem dX10_clear_84 : decode cX10_clear 84 = .ok (.aload_n 0, 1) := by decide +kernel
theorem dX10_clear_85 : decode cX10_clear 85 = .ok (.aload_n 3, 1) := by decide +kernel
theorem dX10_clear_86 : decode cX10_clear 86 = .ok (.getfield 109, 3) := by decide +kernel
theorem dX10_clear_89 : decode cX10_clear 89 = .ok (.invokevirtual 85, 3) := by decide +kernel
theorem dX10_clear_92 : decode cX10_clear 92 = .ok (.iconst 1, 1) := by decide +kernel
theorem dX10_clear_93 : decode cX10_clear 93 = .ok (.ireturn, 1) := by decide +kernel
def fX10_clear (o : Nat) (v1 : Int32) (v2 : Int32) (h : Hz) : Option (Int32 × Hz) := (b1 (gA 10 0 o h) fun a1 => (b1 (tg 6 a1 h) fun _ => (b2 (fX6_find a1 v1 h) fun r3 s4 => (oe r3 ((b1 (tg 10 o s4) fun _ => (b2 (fX10_refuse o (-1) s4) fun x7 s8 => some (x7, s8)))) fun a5 => (b1 (tg 5 a5 s4) fun _ => (b2 (fX5_hasPlaces a5 s4) fun x10 s11 => (if x10 = 0 then (b1 (tg 10 o s11) fun _ => (b2 (fX10_refuse o (-2) s11) fun x42 s43 => some (x42, s43))) else (b1 (tg 5 a5 s11) fun _ => (b2 (fX5_hasPlace a5 v2 s11) fun x14 s15 => (if x14 = 0 then (b1 (tg 10 o s15) fun _ => (b2 (fX10_refuse o (-3) s15) fun x39 s40 => some (x39, s40))) else (b1 (tg 10 o s15) fun _ => (b2 (fX10_isNear o (some a5) s15) fun x18 s19 => (if x18 = 0 then (b1 (tg 10 o s19) fun _ => (b2 (fX10_refuse o (-5) s19) fun x36 s37 => some (x36, s37))) else (b1 (tg 5 a5 s19) fun _ => (b2 (fX5_holdsNothing a5 v2 s19) fun x22 s23 => (if x22 = 0 then (b1 (tg 5 a5 s23) fun _ => (b2 (fX5_holdThing a5 v2 none s23) fun _ s27 => (b1 (gI 5 2 a5 s27) fun x28 => (b1 (tg 10 o s27) fun _ => (b2 (fX10_touch o x28 s27) fun _ s31 => some (1, s31)))))) else (b1 (tg 10 o s23) fun _ => (b2 (fX10_refuse o (-7) s23) fun x33 s34 => some (x33, s34)))))))))))))))))))
set_option maxHeartbeats 4000000 in
set_option maxRecDepth 100000 in
theorem wX10_clear_0 {r0 : Int32} {h0 : Hz} (X : zX A D cy p s m args c cX10_clear RX10 4) (hlk : meth.locks = false) (hr : meth.sig.returnType = (some .int)) (o : Nat) (v1 : Int32) (v2 : Int32) (h : Hz) (H : Heap) (locs : List Loc) (ls : Array Slot) (hl : lv_has ls 4 [(0, .ref o), (1, .int v1), (2, .int v2)]) (hW : zW A cy D h H) (hS : va_S A s.heap H locs) (h : fX10_clear o v1 v2 h = some (r0, h0)) : W p l e ({ frames := 5, cells := 0, slots := 0, locals := 108 } : Room) s m args below meth c H locs 0 0 (MQ below (va_Qi (fun r1 u => r1 = r0 ∧ u = h0) (zB A D cy) A) args s 0 0 A) (F0 m 0 ls []) := by
  obtain ⟨hx, hb, hts, hown, hK9, hml, hN9, hA9⟩ := id X
  unfold fX10_clear at h
  refine lv_aload_n hx hb dX10_clear_0 rfl (lv_at hl 0 rfl) ?_
  replace h := b1_some h
  obtain ⟨a1, ga1, h⟩ := h
  refine z_getA X hW ga1 kX10 (by decide) (by decide) kf_X10_10 dX10_clear_1 ?_
  refine lv_iload_n hx hb dX10_clear_4 rfl (lv_at hl 1 rfl) ?_
  replace h := b1_some h
  obtain ⟨q2, gq2, h⟩ := h
  replace h := b2_some h
  obtain ⟨r3, s4, gs4, h⟩ := h
  refine z_callVq (rest := []) X hW hS (cX6_find_met gs4) kb_X6_find kv_X6_find kl_X10_94 (it_v gq2).1 kX6 rfl rfl ⟨Nat.le_of_ble_eq_true rfl, Nat.le_of_ble_eq_true rfl⟩ rfl rfl (by decide) hl.1 dX10_clear_5 ⟨(by decide), (by decide)⟩ (fun H locs hW hS => ?_)
  refine z_astore_n (lv' := [(3, va_rf r3), (0, .ref o), (1, .int v1), (2, .int v2)]) hx hb dX10_clear_8 rfl hl (by decide) rfl (fun ls hl => ?_)
  refine z_aload_n hx hb dX10_clear_9 rfl (lv_at hl 0 rfl) ?_
  cases r3 with
  | none =>
    replace h := oe_n h
    have hl : lv_has ls 4 [(3, .null), (0, .ref o), (1, .int v1), (2, .int v2)] := hl
    refine lv_ifnonnullN hx hb dX10_clear_10 ?_
    refine lv_aload_n hx hb dX10_clear_13 rfl (lv_at hl 1 rfl) ?_
    refine lv_iconst (v := (-1)) hx hb dX10_clear_14 (by decide) ?_
    replace h := b1_some h
    obtain ⟨q6, gq6, h⟩ := h
    replace h := b2_some h
    obtain ⟨x7, s8, gs8, h⟩ := h
    refine z_callVi (rest := []) X hW hS (cX10_refuse_met gs8) kb_X10_refuse kv_X10_refuse kl_X10_77 (it_v gq6).1 kX10 rfl rfl ⟨Nat.le_of_ble_eq_true rfl, Nat.le_of_ble_eq_true rfl⟩ rfl rfl (by decide) hl.1 dX10_clear_15 ⟨(by decide), (by decide)⟩ (fun H locs hW hS => ?_)
    exact z_eti X hlk hr hW hS h (by decide) (by decide) dX10_clear_18
  | some a5 =>
    replace h := oe_s h
    have hl : lv_has ls 4 [(3, .ref a5), (0, .ref o), (1, .int v1), (2, .int v2)] := hl
    refine lv_ifnonnull (tgt := 19) hx hb dX10_clear_10 (by decide) ?_
    refine lv_aload_n hx hb dX10_clear_19 rfl (lv_at hl 0 rfl) ?_
    replace h := b1_some h
    obtain ⟨q9, gq9, h⟩ := h
    replace h := b2_some h
    obtain ⟨x10, s11, gs11, h⟩ := h
    refine z_callVi (rest := []) X hW hS (cX5_hasPlaces_met gs11) kb_X5_hasPlaces kv_X5_hasPlaces kl_X10_98 (it_v gq9).1 kX5 rfl rfl ⟨Nat.le_of_ble_eq_true rfl, Nat.le_of_ble_eq_true rfl⟩ rfl rfl (by decide) hl.1 dX10_clear_20 ⟨(by decide), (by decide)⟩ (fun H locs hW hS => ?_)
    refine lv_if_ne (tgt := 33) hx hb dX10_clear_23 (by decide) (fun c12 => ?_) (fun c12 => ?_)
    · replace h := it_f h c12
      refine lv_aload_n hx hb dX10_clear_33 rfl (lv_at hl 0 rfl) ?_
      refine lv_iload_n hx hb dX10_clear_34 rfl (lv_at hl 3 rfl) ?_
      replace h := b1_some h
      obtain ⟨q13, gq13, h⟩ := h
      replace h := b2_some h
      obtain ⟨x14, s15, gs15, h⟩ := h
      refine z_callVi (rest := []) X hW hS (cX5_hasPlace_met gs15) kb_X5_hasPlace kv_X5_hasPlace kl_X10_102 (it_v gq13).1 kX5 rfl rfl ⟨Nat.le_of_ble_eq_true rfl, Nat.le_of_ble_eq_true rfl⟩ rfl rfl (by decide) hl.1 dX10_clear_35 ⟨(by decide), (by decide)⟩ (fun H locs hW hS => ?_)
      refine lv_if_ne (tgt := 48) hx hb dX10_clear_38 (by decide) (fun c16 => ?_) (fun c16 => ?_)
      · replace h := it_f h c16
        refine lv_aload_n hx hb dX10_clear_48 rfl (lv_at hl 1 rfl) ?_
        refine lv_aload_n hx hb dX10_clear_49 rfl (lv_at hl 0 rfl) ?_
        replace h := b1_some h
        obtain ⟨q17, gq17, h⟩ := h
        replace h := b2_some h
        obtain ⟨x18, s19, gs19, h⟩ := h
        refine z_callVi (rest := []) X hW hS (cX10_isNear_met gs19) kb_X10_isNear kv_X10_isNear kl_X10_105 (it_v gq17).1 kX10 rfl rfl ⟨Nat.le_of_ble_eq_true rfl, Nat.le_of_ble_eq_true rfl⟩ rfl rfl (by decide) hl.1 dX10_clear_50 ⟨(by decide), (by decide)⟩ (fun H locs hW hS => ?_)
        refine lv_if_ne (tgt := 63) hx hb dX10_clear_53 (by decide) (fun c20 => ?_) (fun c20 => ?_)
        · replace h := it_f h c20
          refine lv_aload_n hx hb dX10_clear_63 rfl (lv_at hl 0 rfl) ?_
          refine lv_iload_n hx hb dX10_clear_64 rfl (lv_at hl 3 rfl) ?_
          replace h := b1_some h
          obtain ⟨q21, gq21, h⟩ := h
          replace h := b2_some h
          obtain ⟨x22, s23, gs23, h⟩ := h
          refine z_callVi (rest := []) X hW hS (cX5_holdsNothing_met gs23) kb_X5_holdsNothing kv_X5_holdsNothing kl_X10_119 (it_v gq21).1 kX5 rfl rfl ⟨Nat.le_of_ble_eq_true rfl, Nat.le_of_ble_eq_true rfl⟩ rfl rfl (by decide) hl.1 dX10_clear_65 ⟨(by decide), (by decide)⟩ (fun H locs hW hS => ?_)
          refine lv_if_eq (tgt := 78) hx hb dX10_clear_68 (by decide) (fun c24 => ?_) (fun c24 => ?_)
          · replace h := it_t h c24
            refine lv_aload_n hx hb dX10_clear_78 rfl (lv_at hl 0 rfl) ?_
            refine lv_iload_n hx hb dX10_clear_79 rfl (lv_at hl 3 rfl) ?_
            refine lv_null hx hb dX10_clear_80 ?_
            replace h := b1_some h
            obtain ⟨q25, gq25, h⟩ := h
            replace h := b2_some h
            obtain ⟨_ur26, s27, gs27, h⟩ := h
            refine z_callVv (rest := []) X hW hS (cX5_holdThing_met gs27) kb_X5_holdThing kv_X5_holdThing kl_X10_115 (it_v gq25).1 kX5 rfl rfl ⟨Nat.le_of_ble_eq_true rfl, Nat.le_of_ble_eq_true rfl⟩ rfl rfl (by decide) hl.1 dX10_clear_81 ⟨(by decide), (by decide)⟩ (fun H locs hW hS => ?_)
            refine lv_aload_n hx hb dX10_clear_84 rfl (lv_at hl 1 rfl) ?_
            refine lv_aload_n hx hb dX10_clear_85 rfl (lv_at hl 0 rfl) ?_
            replace h := b1_some h
            obtain ⟨x28, gx28, h⟩ := h
            refine z_getI X hW gx28 kX5 (by decide) (by decide) kf_X10_109 dX10_clear_86 ?_
            replace h := b1_some h
            obtain ⟨q29, gq29, h⟩ := h
            replace h := b2_some h
            obtain ⟨_ur30, s31, gs31, h⟩ := h
            refine z_callVv (rest := []) X hW hS (cX10_touch_met gs31) kb_X10_touch kv_X10_touch kl_X10_85 (it_v gq29).1 kX10 rfl rfl ⟨Nat.le_of_ble_eq_true rfl, Nat.le_of_ble_eq_true rfl⟩ rfl rfl (by decide) hl.1 dX10_clear_89 ⟨(by decide), (by decide)⟩ (fun H locs hW hS => ?_)
            refine lv_iconst (v := 1) hx hb dX10_clear_92 (by decide) ?_
            exact z_eti X hlk hr hW hS h (by decide) (by decide) dX10_clear_93
          · replace h := it_f h c24
            refine lv_aload_n hx hb dX10_clear_71 rfl (lv_at hl 1 rfl) ?_
            refine lv_bipush (v := (-7)) hx hb dX10_clear_72 (by decide) ?_
            replace h := b1_some h
            obtain ⟨q32, gq32, h⟩ := h
            replace h := b2_some h
            obtain ⟨x33, s34, gs34, h⟩ := h
            refine z_callVi (rest := []) X hW hS (cX10_refuse_met gs34) kb_X10_refuse kv_X10_refuse kl_X10_77 (it_v gq32).1 kX10 rfl rfl ⟨Nat.le_of_ble_eq_true rfl, Nat.le_of_ble_eq_true rfl⟩ rfl rfl (by decide) hl.1 dX10_clear_74 ⟨(by decide), (by decide)⟩ (fun H locs hW hS => ?_)
            exact z_eti X hlk hr hW hS h (by decide) (by decide) dX10_clear_77
        · replace h := it_t h c20
          refine lv_aload_n hx hb dX10_clear_56 rfl (lv_at hl 1 rfl) ?_
          refine lv_bipush (v := (-5)) hx hb dX10_clear_57 (by decide) ?_
          replace h := b1_some h
          obtain ⟨q35, gq35, h⟩ := h
          replace h := b2_some h
          obtain ⟨x36, s37, gs37, h⟩ := h
          refine z_callVi (rest := []) X hW hS (cX10_refuse_met gs37) kb_X10_refuse kv_X10_refuse kl_X10_77 (it_v gq35).1 kX10 rfl rfl ⟨Nat.le_of_ble_eq_true rfl, Nat.le_of_ble_eq_true rfl⟩ rfl rfl (by decide) hl.1 dX10_clear_59 ⟨(by decide), (by decide)⟩ (fun H locs hW hS => ?_)
          exact z_eti X hlk hr hW hS h (by decide) (by decide) dX10_clear_62
      · replace h := it_t h c16
        refine lv_aload_n hx hb dX10_clear_41 rfl (lv_at hl 1 rfl) ?_
        refine lv_bipush (v := (-3)) hx hb dX10_clear_42 (by decide) ?_
        replace h := b1_some h
        obtain ⟨q38, gq38, h⟩ := h
        replace h := b2_some h
        obtain ⟨x39, s40, gs40, h⟩ := h
        refine z_callVi (rest := []) X hW hS (cX10_refuse_met gs40) kb_X10_refuse kv_X10_refuse kl_X10_77 (it_v gq38).1 kX10 rfl rfl ⟨Nat.le_of_ble_eq_true rfl, Nat.le_of_ble_eq_true rfl⟩ rfl rfl (by decide) hl.1 dX10_clear_44 ⟨(by decide), (by decide)⟩ (fun H locs hW hS => ?_)
        exact z_eti X hlk hr hW hS h (by decide) (by decide) dX10_clear_47
    · replace h := it_t h c12
      refine lv_aload_n hx hb dX10_clear_26 rfl (lv_at hl 1 rfl) ?_
      refine lv_bipush (v := (-2)) hx hb dX10_clear_27 (by decide) ?_
      replace h := b1_some h
      obtain ⟨q41, gq41, h⟩ := h
      replace h := b2_some h
      obtain ⟨x42, s43, gs43, h⟩ := h
      refine z_callVi (rest := []) X hW hS (cX10_refuse_met gs43) kb_X10_refuse kv_X10_refuse kl_X10_77 (it_v gq41).1 kX10 rfl rfl ⟨Nat.le_of_ble_eq_true rfl, Nat.le_of_ble_eq_true rfl⟩ rfl rfl (by decide) hl.1 dX10_clear_29 ⟨(by decide), (by decide)⟩ (fun H locs hW hS => ?_)
      exact z_eti X hlk hr hW hS h (by decide) (by decide) dX10_clear_32

set_option maxHeartbeats 4000000 in
set_option maxRecDepth 100000 in
theorem cX10_clear_met {l : Launch} {A : Nat → Prop} {D : va_G} {cy : Nat → ClassId} {r0 : Int32} {h0 : Hz} {o : Nat} {v1 : Int32} {v2 : Int32} {h : Hz} (g : fX10_clear o v1 v2 h = some (r0, h0)) : Met l yX10_clear (Cond.code yX10_clear cX10_clear 4 (some .int) :: wT) ({ frames := 5, cells := 0, slots := 0, locals := 108 } : Room) (va_Pc [.ref o, .int v1, .int v2] (zS A D cy h)) (va_Qi (fun r1 u => r1 = r0 ∧ u = h0) (zB A D cy) A) 0 0 A := by
  refine Met.ofW (cc := cX10_clear) (maxL := 4) (ret := (some .int)) (by decide) rfl ?_
  intro p e s m args below meth c s₁ B hml hv
  obtain ⟨rfl, hW, hK, hN, hA⟩ := hv
  have X : zX A D cy p s m _ c cX10_clear RX10 4 := ⟨B.exec, B.bytes, fun w hw => atoms_spec (ws := Cond.code yX10_clear cX10_clear 4 (some .int) :: wT) B.pre w (List.mem_cons_of_mem _ hw), findClass_of_methodNamed B.named, hK, hml, hN, hA⟩
  have hl := lv_entry [.ref o, .int v1, .int v2] (n := 4) (Nat.le_of_ble_eq_true rfl)
  rw [lg_entry_eq]
  generalize (lg_sl [.ref o, .int v1, .int v2] ++ List.replicate (4 - (lg_sl [.ref o, .int v1, .int v2]).length) Slot.unset).toArray = ls at hl ⊢
  have hl : lv_has ls 4 [(0, .ref o), (1, .int v1), (2, .int v2)] := hl
  exact wX10_clear_0 X B.notSynchronized B.returns o v1 v2 _ _ _ _ (lv_sub hl [0, 1, 2] rfl) hW va_S.rf g

theorem dX10_row_0 : decode cX10_row 0 = .ok (.aload_n 0, 1) := by decide +kernel
theorem dX10_row_1 : decode cX10_row 1 = .ok (.getfield 10, 3) := by decide +kernel
theorem dX10_row_4 : decode cX10_row 4 = .ok (.iload_n 1, 1) := by decide +kernel
theorem dX10_row_5 : decode cX10_row 5 = .ok (.invokevirtual 94, 3) := by decide +kernel
theorem dX10_row_8 : decode cX10_row 8 = .ok (.astore 5, 2) := by decide +kernel
theorem dX10_row_10 : decode cX10_row 10 = .ok (.aload 5, 2) := by decide +kernel
theorem dX10_row_12 : decode cX10_row 12 = .ok (.ifnonnull 9, 3) := by decide +kernel
theorem dX10_row_15 : decode cX10_row 15 = .ok (.aload_n 0, 1) := by decide +kernel
theorem dX10_row_16 : decode cX10_row 16 = .ok (.iconst (-1), 1) := by decide +kernel
theorem dX10_row_17 : decode cX10_row 17 = .ok (.invokevirtual 77, 3) := by decide +kernel
theorem dX10_row_20 : decode cX10_row 20 = .ok (.ireturn, 1) := by decide +kernel
theorem dX10_row_21 : decode cX10_row 21 = .ok (.aload 5, 2) := by decide +kernel
theorem dX10_row_23 : decode cX10_row 23 = .ok (.invokevirtual 98, 3) := by decide +kernel
theorem dX10_row_26 : decode cX10_row 26 = .ok (.ifCond .eq 12, 3) := by decide +kernel
theorem dX10_row_29 : decode cX10_row 29 = .ok (.iload_n 3, 1) := by decide +kernel
theorem dX10_row_30 : decode cX10_row 30 = .ok (.ifCond .lt 8, 3) := by decide +kernel
theorem dX10_row_33 : decode cX10_row 33 = .ok (.iload_n 3, 1) := by decide +kernel
theorem dX10_row_34 : decode cX10_row 34 = .ok (.iconst 3, 1) := by decide +kernel
theorem dX10_row_35 : decode cX10_row 35 = .ok (.if_icmp .le 10, 3) := by decide +kernel
theorem dX10_row_38 : decode cX10_row 38 = .ok (.aload_n 0, 1) := by decide +kernel
theorem dX10_row_39 : decode cX10_row 39 = .ok (.bipush (-2), 2) := by decide +kernel
theorem dX10_row_41 : decode cX10_row 41 = .ok (.invokevirtual 77, 3) := by decide +kernel
theorem dX10_row_44 : decode cX10_row 44 = .ok (.ireturn, 1) := by decide +kernel
theorem dX10_row_45 : decode cX10_row 45 = .ok (.aload 5, 2) := by decide +kernel
theorem dX10_row_47 : decode cX10_row 47 = .ok (.iload_n 2, 1) := by decide +kernel
theorem dX10_row_48 : decode cX10_row 48 = .ok (.invokevirtual 102, 3) := by decide +kernel
theorem dX10_row_51 : decode cX10_row 51 = .ok (.ifCond .ne 10, 3) := by decide +kernel
theorem dX10_row_54 : decode cX10_row 54 = .ok (.aload_n 0, 1) := by decide +kernel
theorem dX10_row_55 : decode cX10_row 55 = .ok (.bipush (-3), 2) := by decide +kernel
theorem dX10_row_57 : decode cX10_row 57 = .ok (.invokevirtual 77, 3) := by decide +kernel
theorem dX10_row_60 : decode cX10_row 60 = .ok (.ireturn, 1) := by decide +kernel
theorem dX10_row_61 : decode cX10_row 61 = .ok (.iload 4, 2) := by decide +kernel
theorem dX10_row_63 : decode cX10_row 63 = .ok (.ifCond .ge 10, 3) := by decide +kernel
theorem dX10_row_66 : decode cX10_row 66 = .ok (.aload_n 0, 1) := by decide +kernel
theorem dX10_row_67 : decode cX10_row 67 = .ok (.bipush (-4), 2) := by decide +kernel
theorem dX10_row_69 : decode cX10_row 69 = .ok (.invokevirtual 77, 3) := by decide +kernel
theorem dX10_row_72 : decode cX10_row 72 = .ok (.ireturn, 1) := by decide +kernel
theorem dX10_row_73 : decode cX10_row 73 = .ok (.aload_n 0, 1) := by decide +kernel
theorem dX10_row_74 : decode cX10_row 74 = .ok (.aload 5, 2) := by decide +kernel
theorem dX10_row_76 : decode cX10_row 76 = .ok (.invokevirtual 105, 3) := by decide +kernel
theorem dX10_row_79 : decode cX10_row 79 = .ok (.ifCond .ne 10, 3) := by decide +kernel
theorem dX10_row_82 : decode cX10_row 82 = .ok (.aload_n 0, 1) := by decide +kernel
theorem dX10_row_83 : decode cX10_row 83 = .ok (.bipush (-5), 2) := by decide +kernel
theorem dX10_row_85 : decode cX10_row 85 = .ok (.invokevirtual 77, 3) := by decide +kernel
theorem dX10_row_88 : decode cX10_row 88 = .ok (.ireturn, 1) := by decide +kernel
theorem dX10_row_89 : decode cX10_row 89 = .ok (.iload 4, 2) := by decide +kernel
theorem dX10_row_91 : decode cX10_row 91 = .ok (.bipush 32, 2) := by decide +kernel
theorem dX10_row_93 : decode cX10_row 93 = .ok (.if_icmp .le 10, 3) := by decide +kernel
theorem dX10_row_96 : decode cX10_row 96 = .ok (.aload_n 0, 1) := by decide +kernel
theorem dX10_row_97 : decode cX10_row 97 = .ok (.bipush (-6), 2) := by decide +kernel
theorem dX10_row_99 : decode cX10_row 99 = .ok (.invokevirtual 77, 3) := by decide +kernel
theorem dX10_row_102 : decode cX10_row 102 = .ok (.ireturn, 1) := by decide +kernel
theorem dX10_row_103 : decode cX10_row 103 = .ok (.aload 5, 2) := by decide +kernel
theorem dX10_row_105 : decode cX10_row 105 = .ok (.iload_n 2, 1) := by decide +kernel
theorem dX10_row_106 : decode cX10_row 106 = .ok (.new 122, 3) := by decide +kernel
theorem dX10_row_109 : decode cX10_row 109 = .ok (.dup, 1) := by decide +kernel
theorem dX10_row_110 : decode cX10_row 110 = .ok (.iload_n 3, 1) := by decide +kernel
theorem dX10_row_111 : decode cX10_row 111 = .ok (.iload 4, 2) := by decide +kernel
theorem dX10_row_113 : decode cX10_row 113 = .ok (.invokespecial 124, 3) := by decide +kernel
theorem dX10_row_116 : decode cX10_row 116 = .ok (.invokevirtual 127, 3) := by decide +kernel
theorem dX10_row_119 : decode cX10_row 119 = .ok (.aload_n 0, 1) := by decide +kernel
theorem dX10_row_120 : decode cX10_row 120 = .ok (.aload 5, 2) := by decide +kernel
theorem dX10_row_122 : decode cX10_row 122 = .ok (.getfield 109, 3) := by decide +kernel
theorem dX10_row_125 : decode cX10_row 125 = .ok (.invokevirtual 85, 3) := by decide +kernel
theorem dX10_row_128 : decode cX10_row 128 = .ok (.iconst 1, 1) := by decide +kernel
theorem dX10_row_129 : decode cX10_row 129 = .ok (.ireturn, 1) := by decide +kernel
def fX10_row_38 (o : Nat) (h : Hz) : Option (Int32 × Hz) := (b1 (tg 10 o h) fun _ => (b2 (fX10_refuse o (-2) h) fun x2 s3 => some (x2, s3)))
set_option maxHeartbeats 4000000 in
set_option maxRecDepth 100000 in
theorem wX10_row_38 {r0 : Int32} {h0 : Hz} (X : zX A D cy p s m args c cX10_row RX10 6) (hlk : meth.locks = false) (hr : meth.sig.returnType = (some .int)) (o : Nat) (h : Hz) (H : Heap) (locs : List Loc) (ls : Array Slot) (hl : lv_has ls 6 [(0, .ref o)]) (hW : zW A cy D h H) (hS : va_S A s.heap H locs) (h : fX10_row_38 o h = some (r0, h0)) : W p l e ({ frames := 5, cells := 2, slots := 34, locals := 108 } : Room) s m args below meth c H locs 0 0 (MQ below (va_Qi (fun r1 u => r1 = r0 ∧ u = h0) (zB A D cy) A) args s 2 34 A) (F0 m 38 ls []) := by
  obtain ⟨hx, hb, hts, hown, hK9, hml, hN9, hA9⟩ := id X
  unfold fX10_row_38 at h
  refine lv_aload_n hx hb dX10_row_38 rfl (lv_at hl 0 rfl) ?_
  refine lv_bipush (v := (-2)) hx hb dX10_row_39 (by decide) ?_
  replace h := b1_some h
  obtain ⟨q1, gq1, h⟩ := h
  replace h := b2_some h
  obtain ⟨x2, s3, gs3, h⟩ := h
  refine z_callVi (rest := []) X hW hS (cX10_refuse_met gs3) kb_X10_refuse kv_X10_refuse kl_X10_77 (it_v gq1).1 kX10 rfl rfl ⟨Nat.le_of_ble_eq_true rfl, Nat.le_of_ble_eq_true rfl⟩ rfl rfl (by decide) hl.1 dX10_row_41 ⟨(by decide), (by decide)⟩ (fun H locs hW hS => ?_)
  exact z_eti X hlk hr hW hS h (by decide) (by decide) dX10_row_44

def fX10_row (o : Nat) (v1 : Int32) (v2 : Int32) (v3 : Int32) (v4 : Int32) (h : Hz) : Option (Int32 × Hz) := (b1 (gA 10 0 o h) fun a1 => (b1 (tg 6 a1 h) fun _ => (b2 (fX6_find a1 v1 h) fun r3 s4 => (oe r3 ((b1 (tg 10 o s4) fun _ => (b2 (fX10_refuse o (-1) s4) fun x7 s8 => some (x7, s8)))) fun a5 => (b1 (tg 5 a5 s4) fun _ => (b2 (fX5_hasPlaces a5 s4) fun x10 s11 => (if x10 = 0 then fX10_row_38 o s11 else (if v3 < 0 then fX10_row_38 o s11 else (if v3 ≤ 3 then (b1 (tg 5 a5 s11) fun _ => (b2 (fX5_hasPlace a5 v2 s11) fun x16 s17 => (if x16 = 0 then (b1 (tg 10 o s17) fun _ => (b2 (fX10_refuse o (-3) s17) fun x46 s47 => some (x46, s47))) else (if 0 ≤ v4 then (b1 (tg 10 o s17) fun _ => (b2 (fX10_isNear o (some a5) s17) fun x21 s22 => (if x21 = 0 then (b1 (tg 10 o s22) fun _ => (b2 (fX10_refuse o (-5) s22) fun x40 s41 => some (x40, s41))) else (if v4 ≤ 32 then (b2 (nO 4 s22) fun a25 s26 => (b2 (fX4_init a25 v3 v4 s26) fun _ s28 => (b1 (tg 5 a5 s28) fun _ => (b2 (fX5_holdRow a5 v2 (some a25) s28) fun _ s31 => (b1 (gI 5 2 a5 s31) fun x32 => (b1 (tg 10 o s31) fun _ => (b2 (fX10_touch o x32 s31) fun _ s35 => some (1, s35)))))))) else (b1 (tg 10 o s22) fun _ => (b2 (fX10_refuse o (-6) s22) fun x37 s38 => some (x37, s38))))))) else (b1 (tg 10 o s17) fun _ => (b2 (fX10_refuse o (-4) s17) fun x43 s44 => some (x43, s44))))))) else fX10_row_38 o s11)))))))))
set_option maxHeartbeats 4000000 in
set_option maxRecDepth 100000 in
theorem wX10_row_0 {r0 : Int32} {h0 : Hz} (X : zX A D cy p s m args c cX10_row RX10 6) (hlk : meth.locks = false) (hr : meth.sig.returnType = (some .int)) (o : Nat) (v1 : Int32) (v2 : Int32) (v3 : Int32) (v4 : Int32) (h : Hz) (H : Heap) (locs : List Loc) (ls : Array Slot) (hl : lv_has ls 6 [(0, .ref o), (1, .int v1), (2, .int v2), (3, .int v3), (4, .int v4)]) (hW : zW A cy D h H) (hS : va_S A s.heap H locs) (h : fX10_row o v1 v2 v3 v4 h = some (r0, h0)) : W p l e ({ frames := 5, cells := 2, slots := 34, locals := 108 } : Room) s m args below meth c H locs 0 0 (MQ below (va_Qi (fun r1 u => r1 = r0 ∧ u = h0) (zB A D cy) A) args s 2 34 A) (F0 m 0 ls []) := by
  obtain ⟨hx, hb, hts, hown, hK9, hml, hN9, hA9⟩ := id X
  unfold fX10_row at h
  refine lv_aload_n hx hb dX10_row_0 rfl (lv_at hl 0 rfl) ?_
  replace h := b1_some h
  obtain ⟨a1, ga1, h⟩ := h
  refine z_getA X hW ga1 kX10 (by decide) (by decide) kf_X10_10 dX10_row_1 ?_
  refine lv_iload_n hx hb dX10_row_4 rfl (lv_at hl 1 rfl) ?_
  replace h := b1_some h
  obtain ⟨q2, gq2, h⟩ := h
  replace h := b2_some h
  obtain ⟨r3, s4, gs4, h⟩ := h
  refine z_callVq (rest := []) X hW hS (cX6_find_met gs4) kb_X6_find kv_X6_find kl_X10_94 (it_v gq2).1 kX6 rfl rfl ⟨Nat.le_of_ble_eq_true rfl, Nat.le_of_ble_eq_true rfl⟩ rfl rfl (by decide) hl.1 dX10_row_5 ⟨(by decide), (by decide)⟩ (fun H locs hW hS => ?_)
  refine z_astore (lv' := [(5, va_rf r3), (0, .ref o), (1, .int v1), (2, .int v2), (3, .int v3), (4, .int v4)]) hx hb dX10_row_8 hl (by decide) rfl (fun ls hl => ?_)
  refine z_aload hx hb dX10_row_10 (lv_at hl 0 rfl) ?_
  cases r3 with
  | none =>
    replace h := oe_n h
    have hl : lv_has ls 6 [(5, .null), (0, .ref o), (1, .int v1), (2, .int v2), (3, .int v3), (4, .int v4)] := hl
    refine lv_ifnonnullN hx hb dX10_row_12 ?_
    refine lv_aload_n hx hb dX10_row_15 rfl (lv_at hl 1 rfl) ?_
    refine lv_iconst (v := (-1)) hx hb dX10_row_16 (by decide) ?_
    replace h := b1_some h
    obtain ⟨q6, gq6, h⟩ := h
    replace h := b2_some h
    obtain ⟨x7, s8, gs8, h⟩ := h
    refine z_callVi (rest := []) X hW hS (cX10_refuse_met gs8) kb_X10_refuse kv_X10_refuse kl_X10_77 (it_v gq6).1 kX10 rfl rfl ⟨Nat.le_of_ble_eq_true rfl, Nat.le_of_ble_eq_true rfl⟩ rfl rfl (by decide) hl.1 dX10_row_17 ⟨(by decide), (by decide)⟩ (fun H locs hW hS => ?_)
    exact z_eti X hlk hr hW hS h (by decide) (by decide) dX10_row_20
  | some a5 =>
    replace h := oe_s h
    have hl : lv_has ls 6 [(5, .ref a5), (0, .ref o), (1, .int v1), (2, .int v2), (3, .int v3), (4, .int v4)] := hl
    refine lv_ifnonnull (tgt := 21) hx hb dX10_row_12 (by decide) ?_
    refine lv_aload hx hb dX10_row_21 (lv_at hl 0 rfl) ?_
    replace h := b1_some h
    obtain ⟨q9, gq9, h⟩ := h
    replace h := b2_some h
    obtain ⟨x10, s11, gs11, h⟩ := h
    refine z_callVi (rest := []) X hW hS (cX5_hasPlaces_met gs11) kb_X5_hasPlaces kv_X5_hasPlaces kl_X10_98 (it_v gq9).1 kX5 rfl rfl ⟨Nat.le_of_ble_eq_true rfl, Nat.le_of_ble_eq_true rfl⟩ rfl rfl (by decide) hl.1 dX10_row_23 ⟨(by decide), (by decide)⟩ (fun H locs hW hS => ?_)
    refine lv_if_eq (tgt := 38) hx hb dX10_row_26 (by decide) (fun c12 => ?_) (fun c12 => ?_)
    · replace h := it_t h c12
      exact wX10_row_38 X hlk hr o _ _ _ _ (lv_sub hl [1] rfl) hW hS h
    · replace h := it_f h c12
      refine lv_iload_n hx hb dX10_row_29 rfl (lv_at hl 4 rfl) ?_
      refine lv_if_lt (tgt := 38) hx hb dX10_row_30 (by decide) (fun c13 => ?_) (fun c13 => ?_)
      · replace h := it_t h c13
        exact wX10_row_38 X hlk hr o _ _ _ _ (lv_sub hl [1] rfl) hW hS h
      · replace h := it_f h c13
        refine lv_iload_n hx hb dX10_row_33 rfl (lv_at hl 4 rfl) ?_
        refine lv_iconst (v := 3) hx hb dX10_row_34 (by decide) ?_
        refine lv_icmp_le (tgt := 45) hx hb dX10_row_35 (by decide) (fun c14 => ?_) (fun c14 => ?_)
        · replace h := it_t h c14
          refine lv_aload hx hb dX10_row_45 (lv_at hl 0 rfl) ?_
          refine lv_iload_n hx hb dX10_row_47 rfl (lv_at hl 3 rfl) ?_
          replace h := b1_some h
          obtain ⟨q15, gq15, h⟩ := h
          replace h := b2_some h
          obtain ⟨x16, s17, gs17, h⟩ := h
          refine z_callVi (rest := []) X hW hS (cX5_hasPlace_met gs17) kb_X5_hasPlace kv_X5_hasPlace kl_X10_102 (it_v gq15).1 kX5 rfl rfl ⟨Nat.le_of_ble_eq_true rfl, Nat.le_of_ble_eq_true rfl⟩ rfl rfl (by decide) hl.1 dX10_row_48 ⟨(by decide), (by decide)⟩ (fun H locs hW hS => ?_)
          refine lv_if_ne (tgt := 61) hx hb dX10_row_51 (by decide) (fun c18 => ?_) (fun c18 => ?_)
          · replace h := it_f h c18
            refine lv_iload hx hb dX10_row_61 (lv_at hl 5 rfl) ?_
            refine lv_if_ge (tgt := 73) hx hb dX10_row_63 (by decide) (fun c19 => ?_) (fun c19 => ?_)
            · replace h := it_t h c19
              refine lv_aload_n hx hb dX10_row_73 rfl (lv_at hl 1 rfl) ?_
              refine lv_aload hx hb dX10_row_74 (lv_at hl 0 rfl) ?_
              replace h := b1_some h
              obtain ⟨q20, gq20, h⟩ := h
              replace h := b2_some h
              obtain ⟨x21, s22, gs22, h⟩ := h
              refine z_callVi (rest := []) X hW hS (cX10_isNear_met gs22) kb_X10_isNear kv_X10_isNear kl_X10_105 (it_v gq20).1 kX10 rfl rfl ⟨Nat.le_of_ble_eq_true rfl, Nat.le_of_ble_eq_true rfl⟩ rfl rfl (by decide) hl.1 dX10_row_76 ⟨(by decide), (by decide)⟩ (fun H locs hW hS => ?_)
              refine lv_if_ne (tgt := 89) hx hb dX10_row_79 (by decide) (fun c23 => ?_) (fun c23 => ?_)
              · replace h := it_f h c23
                refine lv_iload hx hb dX10_row_89 (lv_at hl 5 rfl) ?_
                refine lv_bipush (v := 32) hx hb dX10_row_91 (by decide) ?_
                refine lv_icmp_le (tgt := 103) hx hb dX10_row_93 (by decide) (fun c24 => ?_) (fun c24 => ?_)
                · replace h := it_t h c24
                  refine lv_aload hx hb dX10_row_103 (lv_at hl 0 rfl) ?_
                  refine lv_iload_n hx hb dX10_row_105 rfl (lv_at hl 3 rfl) ?_
                  replace h := b2_some h
                  obtain ⟨a25, s26, ga25, h⟩ := h
                  refine z_new X hW hS ga25 kX4 kd_X4 kc_X10_122 kn_X4 ki_10 dX10_row_106 (by decide) (by decide) (fun H hW hS => ?_)
                  refine lv_dup hx hb dX10_row_109 rfl ?_
                  refine lv_iload_n hx hb dX10_row_110 rfl (lv_at hl 4 rfl) ?_
                  refine lv_iload hx hb dX10_row_111 (lv_at hl 5 rfl) ?_
                  replace h := b2_some h
                  obtain ⟨_ur27, s28, gs28, h⟩ := h
                  refine z_callIv (rest := [.ref a25, .int v2, .ref a5]) X hW hS (cX4_init_met gs28) kb_X4_init km_X4_init rfl kl_X10_124 rfl rfl ⟨Nat.le_of_ble_eq_true rfl, Nat.le_of_ble_eq_true rfl⟩ rfl rfl (Nat.le_of_ble_eq_true rfl) hl.1 dX10_row_113 ⟨(by decide), (by decide)⟩ (fun H locs hW hS => ?_)
                  replace h := b1_some h
                  obtain ⟨q29, gq29, h⟩ := h
                  replace h := b2_some h
                  obtain ⟨_ur30, s31, gs31, h⟩ := h
                  refine z_callVv (rest := []) X hW hS (cX5_holdRow_met gs31) kb_X5_holdRow kv_X5_holdRow kl_X10_127 (it_v gq29).1 kX5 rfl rfl ⟨Nat.le_of_ble_eq_true rfl, Nat.le_of_ble_eq_true rfl⟩ rfl rfl (by decide) hl.1 dX10_row_116 ⟨(by decide), (by decide)⟩ (fun H locs hW hS => ?_)
                  refine lv_aload_n hx hb dX10_row_119 rfl (lv_at hl 1 rfl) ?_
                  refine lv_aload hx hb dX10_row_120 (lv_at hl 0 rfl) ?_
                  replace h := b1_some h
                  obtain ⟨x32, gx32, h⟩ := h
                  refine z_getI X hW gx32 kX5 (by decide) (by decide) kf_X10_109 dX10_row_122 ?_
                  replace h := b1_some h
                  obtain ⟨q33, gq33, h⟩ := h
                  replace h := b2_some h
                  obtain ⟨_ur34, s35, gs35, h⟩ := h
                  refine z_callVv (rest := []) X hW hS (cX10_touch_met gs35) kb_X10_touch kv_X10_touch kl_X10_85 (it_v gq33).1 kX10 rfl rfl ⟨Nat.le_of_ble_eq_true rfl, Nat.le_of_ble_eq_true rfl⟩ rfl rfl (by decide) hl.1 dX10_row_125 ⟨(by decide), (by decide)⟩ (fun H locs hW hS => ?_)
                  refine lv_iconst (v := 1) hx hb dX10_row_128 (by decide) ?_
                  exact z_eti X hlk hr hW hS h (by decide) (by decide) dX10_row_129
                · replace h := it_f h c24
                  refine lv_aload_n hx hb dX10_row_96 rfl (lv_at hl 1 rfl) ?_
                  refine lv_bipush (v := (-6)) hx hb dX10_row_97 (by decide) ?_
                  replace h := b1_some h
                  obtain ⟨q36, gq36, h⟩ := h
                  replace h := b2_some h
                  obtain ⟨x37, s38, gs38, h⟩ := h
                  refine z_callVi (rest := []) X hW hS (cX10_refuse_met gs38) kb_X10_refuse kv_X10_refuse kl_X10_77 (it_v gq36).1 kX10 rfl rfl ⟨Nat.le_of_ble_eq_true rfl, Nat.le_of_ble_eq_true rfl⟩ rfl rfl (by decide) hl.1 dX10_row_99 ⟨(by decide), (by decide)⟩ (fun H locs hW hS => ?_)
                  exact z_eti X hlk hr hW hS h (by decide) (by decide) dX10_row_102
              · replace h := it_t h c23
                refine lv_aload_n hx hb dX10_row_82 rfl (lv_at hl 1 rfl) ?_
                refine lv_bipush (v := (-5)) hx hb dX10_row_83 (by decide) ?_
                replace h := b1_some h
                obtain ⟨q39, gq39, h⟩ := h
                replace h := b2_some h
                obtain ⟨x40, s41, gs41, h⟩ := h
                refine z_callVi (rest := []) X hW hS (cX10_refuse_met gs41) kb_X10_refuse kv_X10_refuse kl_X10_77 (it_v gq39).1 kX10 rfl rfl ⟨Nat.le_of_ble_eq_true rfl, Nat.le_of_ble_eq_true rfl⟩ rfl rfl (by decide) hl.1 dX10_row_85 ⟨(by decide), (by decide)⟩ (fun H locs hW hS => ?_)
                exact z_eti X hlk hr hW hS h (by decide) (by decide) dX10_row_88
            · replace h := it_f h c19
              refine lv_aload_n hx hb dX10_row_66 rfl (lv_at hl 1 rfl) ?_
              refine lv_bipush (v := (-4)) hx hb dX10_row_67 (by decide) ?_
              replace h := b1_some h
              obtain ⟨q42, gq42, h⟩ := h
              replace h := b2_some h
              obtain ⟨x43, s44, gs44, h⟩ := h
              refine z_callVi (rest := []) X hW hS (cX10_refuse_met gs44) kb_X10_refuse kv_X10_refuse kl_X10_77 (it_v gq42).1 kX10 rfl rfl ⟨Nat.le_of_ble_eq_true rfl, Nat.le_of_ble_eq_true rfl⟩ rfl rfl (by decide) hl.1 dX10_row_69 ⟨(by decide), (by decide)⟩ (fun H locs hW hS => ?_)
              exact z_eti X hlk hr hW hS h (by decide) (by decide) dX10_row_72
          · replace h := it_t h c18
            refine lv_aload_n hx hb dX10_row_54 rfl (lv_at hl 1 rfl) ?_
            refine lv_bipush (v := (-3)) hx hb dX10_row_55 (by decide) ?_
            replace h := b1_some h
            obtain ⟨q45, gq45, h⟩ := h
            replace h := b2_some h
            obtain ⟨x46, s47, gs47, h⟩ := h
            refine z_callVi (rest := []) X hW hS (cX10_refuse_met gs47) kb_X10_refuse kv_X10_refuse kl_X10_77 (it_v gq45).1 kX10 rfl rfl ⟨Nat.le_of_ble_eq_true rfl, Nat.le_of_ble_eq_true rfl⟩ rfl rfl (by decide) hl.1 dX10_row_57 ⟨(by decide), (by decide)⟩ (fun H locs hW hS => ?_)
            exact z_eti X hlk hr hW hS h (by decide) (by decide) dX10_row_60
        · replace h := it_f h c14
          exact wX10_row_38 X hlk hr o _ _ _ _ (lv_sub hl [1] rfl) hW hS h

set_option maxHeartbeats 4000000 in
set_option maxRecDepth 100000 in
theorem cX10_row_met {l : Launch} {A : Nat → Prop} {D : va_G} {cy : Nat → ClassId} {r0 : Int32} {h0 : Hz} {o : Nat} {v1 : Int32} {v2 : Int32} {v3 : Int32} {v4 : Int32} {h : Hz} (g : fX10_row o v1 v2 v3 v4 h = some (r0, h0)) : Met l yX10_row (Cond.code yX10_row cX10_row 6 (some .int) :: wT) ({ frames := 5, cells := 2, slots := 34, locals := 108 } : Room) (va_Pc [.ref o, .int v1, .int v2, .int v3, .int v4] (zS A D cy h)) (va_Qi (fun r1 u => r1 = r0 ∧ u = h0) (zB A D cy) A) 2 34 A := by
  refine Met.ofW (cc := cX10_row) (maxL := 6) (ret := (some .int)) (by decide) rfl ?_
  intro p e s m args below meth c s₁ B hml hv
  obtain ⟨rfl, hW, hK, hN, hA⟩ := hv
  have X : zX A D cy p s m _ c cX10_row RX10 6 := ⟨B.exec, B.bytes, fun w hw => atoms_spec (ws := Cond.code yX10_row cX10_row 6 (some .int) :: wT) B.pre w (List.mem_cons_of_mem _ hw), findClass_of_methodNamed B.named, hK, hml, hN, hA⟩
  have hl := lv_entry [.ref o, .int v1, .int v2, .int v3, .int v4] (n := 6) (Nat.le_of_ble_eq_true rfl)
  rw [lg_entry_eq]
  generalize (lg_sl [.ref o, .int v1, .int v2, .int v3, .int v4] ++ List.replicate (6 - (lg_sl [.ref o, .int v1, .int v2, .int v3, .int v4]).length) Slot.unset).toArray = ls at hl ⊢
  have hl : lv_has ls 6 [(0, .ref o), (1, .int v1), (2, .int v2), (3, .int v3), (4, .int v4)] := hl
  exact wX10_row_0 X B.notSynchronized B.returns o v1 v2 v3 v4 _ _ _ _ (lv_sub hl [0, 1, 2, 3, 4] rfl) hW va_S.rf g

theorem dX10_set_0 : decode cX10_set 0 = .ok (.aload_n 0, 1) := by decide +kernel
theorem dX10_set_1 : decode cX10_set 1 = .ok (.getfield 10, 3) := by decide +kernel
theorem dX10_set_4 : decode cX10_set 4 = .ok (.iload_n 1, 1) := by decide +kernel
theorem dX10_set_5 : decode cX10_set 5 = .ok (.invokevirtual 94, 3) := by decide +kernel
theorem dX10_set_8 : decode cX10_set 8 = .ok (.astore 6, 2) := by decide +kernel
theorem dX10_set_10 : decode cX10_set 10 = .ok (.aload 6, 2) := by decide +kernel
theorem dX10_set_12 : decode cX10_set 12 = .ok (.ifnonnull 9, 3) := by decide +kernel
theorem dX10_set_15 : decode cX10_set 15 = .ok (.aload_n 0, 1) := by decide +kernel
theorem dX10_set_16 : decode cX10_set 16 = .ok (.iconst (-1), 1) := by decide +kernel
theorem dX10_set_17 : decode cX10_set 17 = .ok (.invokevirtual 77, 3) := by decide +kernel
theorem dX10_set_20 : decode cX10_set 20 = .ok (.ireturn, 1) := by decide +kernel
theorem dX10_set_21 : decode cX10_set 21 = .ok (.aload 6, 2) := by decide +kernel
theorem dX10_set_23 : decode cX10_set 23 = .ok (.invokevirtual 98, 3) := by decide +kernel
theorem dX10_set_26 : decode cX10_set 26 = .ok (.ifCond .eq 12, 3) := by decide +kernel
theorem dX10_set_29 : decode cX10_set 29 = .ok (.aload 6, 2) := by decide +kernel
theorem dX10_set_31 : decode cX10_set 31 = .ok (.iload_n 2, 1) := by decide +kernel
theorem dX10_set_32 : decode cX10_set 32 = .ok (.invokevirtual 131, 3) := by decide +kernel
theorem dX10_set_35 : decode cX10_set 35 = .ok (.ifnull 10, 3) := by decide +kernel
theorem dX10_set_38 : decode cX10_set 38 = .ok (.aload_n 0, 1) := by decide +kernel
theorem dX10_set_39 : decode cX10_set 39 = .ok (.bipush (-2), 2) := by decide +kernel
theorem dX10_set_41 : decode cX10_set 41 = .ok (.invokevirtual 77, 3) := by decide +kernel
theorem dX10_set_44 : decode cX10_set 44 = .ok (.ireturn, 1) := by decide +kernel
theorem dX10_set_45 : decode cX10_set 45 = .ok (.aload 6, 2) := by decide +kernel
theorem dX10_set_47 : decode cX10_set 47 = .ok (.iload_n 2, 1) := by decide +kernel
theorem dX10_set_48 : decode cX10_set 48 = .ok (.invokevirtual 102, 3) := by decide +kernel
theorem dX10_set_51 : decode cX10_set 51 = .ok (.ifCond .ne 10, 3) := by decide +kernel
theorem dX10_set_54 : decode cX10_set 54 = .ok (.aload_n 0, 1) := by decide +kernel
theorem dX10_set_55 : decode cX10_set 55 = .ok (.bipush (-3), 2) := by decide +kernel
theorem dX10_set_57 : decode cX10_set 57 = .ok (.invokevirtual 77, 3) := by decide +kernel
theorem dX10_set_60 : decode cX10_set 60 = .ok (.ireturn, 1) := by decide +kernel
theorem dX10_set_61 : decode cX10_set 61 = .ok (.aload 6, 2) := by decide +kernel
theorem dX10_set_63 : decode cX10_set 63 = .ok (.iload_n 2, 1) := by decide +kernel
theorem dX10_set_64 : decode cX10_set 64 = .ok (.invokevirtual 134, 3) := by decide +kernel
theorem dX10_set_67 : decode cX10_set 67 = .ok (.astore 7, 2) := by decide +kernel
theorem dX10_set_69 : decode cX10_set 69 = .ok (.aload 7, 2) := by decide +kernel
theorem dX10_set_71 : decode cX10_set 71 = .ok (.ifnull 19, 3) := by decide +kernel
theorem dX10_set_74 : decode cX10_set 74 = .ok (.aload 7, 2) := by decide +kernel
theorem dX10_set_76 : decode cX10_set 76 = .ok (.iload_n 3, 1) := by decide +kernel
theorem dX10_set_77 : decode cX10_set 77 = .ok (.invokevirtual 138, 3) := by decide +kernel
theorem dX10_set_80 : decode cX10_set 80 = .ok (.ifCond .ne 10, 3) := by decide +kernel
theorem dX10_set_83 : decode cX10_set 83 = .ok (.aload_n 0, 1) := by decide +kernel
theorem dX10_set_84 : decode cX10_set 84 = .ok (.bipush (-3), 2) := by decide +kernel
theorem dX10_set_86 : decode cX10_set 86 = .ok (.invokevirtual 77, 3) := by decide +kernel
theorem dX10_set_89 : decode cX10_set 89 = .ok (.ireturn, 1) := by decide +kernel
theorem dX10_set_90 : decode cX10_set 90 = .ok (.aload_n 0, 1) := by decide +kernel
theorem dX10_set_91 : decode cX10_set 91 = .ok (.aload 6, 2) := by decide +kernel
theorem dX10_set_93 : decode cX10_set 93 = .ok (.invokevirtual 105, 3) := by decide +kernel
theorem dX10_set_96 : decode cX10_set 96 = .ok (.ifCond .ne 10, 3) := by decide +kernel
theorem dX10_set_99 : decode cX10_set 99 = .ok (.aload_n 0, 1) := by decide +kernel
theorem dX10_set_100 : decode cX10_set 100 = .ok (.bipush (-5), 2) := by decide +kernel
theorem dX10_set_102 : decode cX10_set 102 = .ok (.invokevirtual 77, 3) := by decide +kernel
theorem dX10_set_105 : decode cX10_set 105 = .ok (.ireturn, 1) := by decide +kernel
theorem dX10_set_106 : decode cX10_set 106 = .ok (.aload 7, 2) := by decide +kernel
theorem dX10_set_108 : decode cX10_set 108 = .ok (.ifnonnull 10, 3) := by decide +kernel
theorem dX10_set_111 : decode cX10_set 111 = .ok (.aload_n 0, 1) := by decide +kernel
theorem dX10_set_112 : decode cX10_set 112 = .ok (.bipush (-7), 2) := by decide +kernel
theorem dX10_set_114 : decode cX10_set 114 = .ok (.invokevirtual 77, 3) := by decide +kernel
theorem dX10_set_117 : decode cX10_set 117 = .ok (.ireturn, 1) := by decide +kernel
theorem dX10_set_118 : decode cX10_set 118 = .ok (.aload 7, 2) := by decide +kernel
theorem dX10_set_120 : decode cX10_set 120 = .ok (.iload_n 3, 1) := by decide +kernel
theorem dX10_set_121 : decode cX10_set 121 = .ok (.lload 4, 2) := by decide +kernel
theorem dX10_set_123 : decode cX10_set 123 = .ok (.invokevirtual 141, 3) := by decide +kernel
theorem dX10_set_126 : decode cX10_set 126 = .ok (.aload_n 0, 1) := by decide +kernel
theorem dX10_set_127 : decode cX10_set 127 = .ok (.aload 6, 2) := by decide +kernel
theorem dX10_set_129 : decode cX10_set 129 = .ok (.getfield 109, 3) := by decide +kernel
theorem dX10_set_132 : decode cX10_set 132 = .ok (.invokevirtual 85, 3) := by decide +kernel
theorem dX10_set_135 : decode cX10_set 135 = .ok (.iconst 1, 1) := by decide +kernel
theorem dX10_set_136 : decode cX10_set 136 = .ok (.ireturn, 1) := by decide +kernel
def fX10_set_38 (o : Nat) (h : Hz) : Option (Int32 × Hz) := (b1 (tg 10 o h) fun _ => (b2 (fX10_refuse o (-2) h) fun x2 s3 => some (x2, s3)))
set_option maxHeartbeats 4000000 in
set_option maxRecDepth 100000 in
theorem wX10_set_38 {r0 : Int32} {h0 : Hz} (X : zX A D cy p s m args c cX10_set RX10 8) (hlk : meth.locks = false) (hr : meth.sig.returnType = (some .int)) (o : Nat) (h : Hz) (H : Heap) (locs : List Loc) (ls : Array Slot) (hl : lv_has ls 8 [(0, .ref o)]) (hW : zW A cy D h H) (hS : va_S A s.heap H locs) (h : fX10_set_38 o h = some (r0, h0)) : W p l e ({ frames := 5, cells := 0, slots := 0, locals := 108 } : Room) s m args below meth c H locs 0 0 (MQ below (va_Qi (fun r1 u => r1 = r0 ∧ u = h0) (zB A D cy) A) args s 0 0 A) (F0 m 38 ls []) := by
  obtain ⟨hx, hb, hts, hown, hK9, hml, hN9, hA9⟩ := id X
  unfold fX10_set_38 at h
  refine lv_aload_n hx hb dX10_set_38 rfl (lv_at hl 0 rfl) ?_
  refine lv_bipush (v := (-2)) hx hb dX10_set_39 (by decide) ?_
  replace h := b1_some h
  obtain ⟨q1, gq1, h⟩ := h
  replace h := b2_some h
  obtain ⟨x2, s3, gs3, h⟩ := h
  refine z_callVi (rest := []) X hW hS (cX10_refuse_met gs3) kb_X10_refuse kv_X10_refuse kl_X10_77 (it_v gq1).1 kX10 rfl rfl ⟨Nat.le_of_ble_eq_true rfl, Nat.le_of_ble_eq_true rfl⟩ rfl rfl (by decide) hl.1 dX10_set_41 ⟨(by decide), (by decide)⟩ (fun H locs hW hS => ?_)
  exact z_eti X hlk hr hW hS h (by decide) (by decide) dX10_set_44

def fX10_set_90 (o : Nat) (v3 : Int32) (v4 : Int64) (v6 : Nat) (v7 : Option Nat) (h : Hz) : Option (Int32 × Hz) := (b1 (tg 10 o h) fun _ => (b2 (fX10_isNear o (some v6) h) fun x2 s3 => (if x2 = 0 then (b1 (tg 10 o s3) fun _ => (b2 (fX10_refuse o (-5) s3) fun x17 s18 => some (x17, s18))) else (oe v7 ((b1 (tg 10 o s3) fun _ => (b2 (fX10_refuse o (-7) s3) fun x7 s8 => some (x7, s8)))) fun a5 => (b1 (tg 4 a5 s3) fun _ => (b2 (fX4_write a5 v3 v4 s3) fun _ s11 => (b1 (gI 5 2 v6 s11) fun x12 => (b1 (tg 10 o s11) fun _ => (b2 (fX10_touch o x12 s11) fun _ s15 => some (1, s15))))))))))
set_option maxHeartbeats 4000000 in
set_option maxRecDepth 100000 in
theorem wX10_set_90 {r0 : Int32} {h0 : Hz} (X : zX A D cy p s m args c cX10_set RX10 8) (hlk : meth.locks = false) (hr : meth.sig.returnType = (some .int)) (o : Nat) (v3 : Int32) (v4 : Int64) (v6 : Nat) (v7 : Option Nat) (h : Hz) (H : Heap) (locs : List Loc) (ls : Array Slot) (hl : lv_has ls 8 [(0, .ref o), (3, .int v3), (4, .long v4), (6, .ref v6), (7, va_rf v7)]) (hW : zW A cy D h H) (hS : va_S A s.heap H locs) (h : fX10_set_90 o v3 v4 v6 v7 h = some (r0, h0)) : W p l e ({ frames := 5, cells := 0, slots := 0, locals := 108 } : Room) s m args below meth c H locs 0 0 (MQ below (va_Qi (fun r1 u => r1 = r0 ∧ u = h0) (zB A D cy) A) args s 0 0 A) (F0 m 90 ls []) := by
  obtain ⟨hx, hb, hts, hown, hK9, hml, hN9, hA9⟩ := id X
  unfold fX10_set_90 at h
  refine lv_aload_n hx hb dX10_set_90 rfl (lv_at hl 0 rfl) ?_
  refine lv_aload hx hb dX10_set_91 (lv_at hl 3 rfl) ?_
  replace h := b1_some h
  obtain ⟨q1, gq1, h⟩ := h
  replace h := b2_some h
  obtain ⟨x2, s3, gs3, h⟩ := h
  refine z_callVi (rest := []) X hW hS (cX10_isNear_met gs3) kb_X10_isNear kv_X10_isNear kl_X10_105 (it_v gq1).1 kX10 rfl rfl ⟨Nat.le_of_ble_eq_true rfl, Nat.le_of_ble_eq_true rfl⟩ rfl rfl (by decide) hl.1 dX10_set_93 ⟨(by decide), (by decide)⟩ (fun H locs hW hS => ?_)
  refine lv_if_ne (tgt := 106) hx hb dX10_set_96 (by decide) (fun c4 => ?_) (fun c4 => ?_)
  · replace h := it_f h c4
    refine z_aload hx hb dX10_set_106 (lv_at hl 4 rfl) ?_
    cases v7 with
    | none =>
      replace h := oe_n h
      have hl : lv_has ls 8 [(0, .ref o), (3, .int v3), (4, .long v4), (6, .ref v6), (7, .null)] := hl
      refine lv_ifnonnullN hx hb dX10_set_108 ?_
      refine lv_aload_n hx hb dX10_set_111 rfl (lv_at hl 0 rfl) ?_
      refine lv_bipush (v := (-7)) hx hb dX10_set_112 (by decide) ?_
      replace h := b1_some h
      obtain ⟨q6, gq6, h⟩ := h
      replace h := b2_some h
      obtain ⟨x7, s8, gs8, h⟩ := h
      refine z_callVi (rest := []) X hW hS (cX10_refuse_met gs8) kb_X10_refuse kv_X10_refuse kl_X10_77 (it_v gq6).1 kX10 rfl rfl ⟨Nat.le_of_ble_eq_true rfl, Nat.le_of_ble_eq_true rfl⟩ rfl rfl (by decide) hl.1 dX10_set_114 ⟨(by decide), (by decide)⟩ (fun H locs hW hS => ?_)
      exact z_eti X hlk hr hW hS h (by decide) (by decide) dX10_set_117
    | some a5 =>
      replace h := oe_s h
      have hl : lv_has ls 8 [(0, .ref o), (3, .int v3), (4, .long v4), (6, .ref v6), (7, .ref a5)] := hl
      refine lv_ifnonnull (tgt := 118) hx hb dX10_set_108 (by decide) ?_
      refine lv_aload hx hb dX10_set_118 (lv_at hl 4 rfl) ?_
      refine lv_iload_n hx hb dX10_set_120 rfl (lv_at hl 1 rfl) ?_
      refine lv_lload hx hb dX10_set_121 (lv_at hl 2 rfl) ?_
      replace h := b1_some h
      obtain ⟨q9, gq9, h⟩ := h
      replace h := b2_some h
      obtain ⟨_ur10, s11, gs11, h⟩ := h
      refine z_callVv (rest := []) X hW hS (cX4_write_met gs11) kb_X4_write kv_X4_write kl_X10_141 (it_v gq9).1 kX4 rfl rfl ⟨Nat.le_of_ble_eq_true rfl, Nat.le_of_ble_eq_true rfl⟩ rfl rfl (by decide) hl.1 dX10_set_123 ⟨(by decide), (by decide)⟩ (fun H locs hW hS => ?_)
      refine lv_aload_n hx hb dX10_set_126 rfl (lv_at hl 0 rfl) ?_
      refine lv_aload hx hb dX10_set_127 (lv_at hl 3 rfl) ?_
      replace h := b1_some h
      obtain ⟨x12, gx12, h⟩ := h
      refine z_getI X hW gx12 kX5 (by decide) (by decide) kf_X10_109 dX10_set_129 ?_
      replace h := b1_some h
      obtain ⟨q13, gq13, h⟩ := h
      replace h := b2_some h
      obtain ⟨_ur14, s15, gs15, h⟩ := h
      refine z_callVv (rest := []) X hW hS (cX10_touch_met gs15) kb_X10_touch kv_X10_touch kl_X10_85 (it_v gq13).1 kX10 rfl rfl ⟨Nat.le_of_ble_eq_true rfl, Nat.le_of_ble_eq_true rfl⟩ rfl rfl (by decide) hl.1 dX10_set_132 ⟨(by decide), (by decide)⟩ (fun H locs hW hS => ?_)
      refine lv_iconst (v := 1) hx hb dX10_set_135 (by decide) ?_
      exact z_eti X hlk hr hW hS h (by decide) (by decide) dX10_set_136
  · replace h := it_t h c4
    refine lv_aload_n hx hb dX10_set_99 rfl (lv_at hl 0 rfl) ?_
    refine lv_bipush (v := (-5)) hx hb dX10_set_100 (by decide) ?_
    replace h := b1_some h
    obtain ⟨q16, gq16, h⟩ := h
    replace h := b2_some h
    obtain ⟨x17, s18, gs18, h⟩ := h
    refine z_callVi (rest := []) X hW hS (cX10_refuse_met gs18) kb_X10_refuse kv_X10_refuse kl_X10_77 (it_v gq16).1 kX10 rfl rfl ⟨Nat.le_of_ble_eq_true rfl, Nat.le_of_ble_eq_true rfl⟩ rfl rfl (by decide) hl.1 dX10_set_102 ⟨(by decide), (by decide)⟩ (fun H locs hW hS => ?_)
    exact z_eti X hlk hr hW hS h (by decide) (by decide) dX10_set_105

def fX10_set (o : Nat) (v1 : Int32) (v2 : Int32) (v3 : Int32) (v4 : Int64) (h : Hz) : Option (Int32 × Hz) := (b1 (gA 10 0 o h) fun a1 => (b1 (tg 6 a1 h) fun _ => (b2 (fX6_find a1 v1 h) fun r3 s4 => (oe r3 ((b1 (tg 10 o s4) fun _ => (b2 (fX10_refuse o (-1) s4) fun x7 s8 => some (x7, s8)))) fun a5 => (b1 (tg 5 a5 s4) fun _ => (b2 (fX5_hasPlaces a5 s4) fun x10 s11 => (if x10 = 0 then fX10_set_38 o s11 else (b1 (tg 5 a5 s11) fun _ => (b2 (fX5_thingAt a5 v2 s11) fun r14 s15 => (oe r14 ((b1 (tg 5 a5 s15) fun _ => (b2 (fX5_hasPlace a5 v2 s15) fun x18 s19 => (if x18 = 0 then (b1 (tg 10 o s19) fun _ => (b2 (fX10_refuse o (-3) s19) fun x33 s34 => some (x33, s34))) else (b1 (tg 5 a5 s19) fun _ => (b2 (fX5_rowAt a5 v2 s19) fun r22 s23 => (oe r22 (fX10_set_90 o v3 v4 a5 none s23) fun a24 => (b1 (tg 4 a24 s23) fun _ => (b2 (fX4_hasElement a24 v3 s23) fun x26 s27 => (if x26 = 0 then (b1 (tg 10 o s27) fun _ => (b2 (fX10_refuse o (-3) s27) fun x30 s31 => some (x30, s31))) else fX10_set_90 o v3 v4 a5 (some a24) s27)))))))))) fun a16 => fX10_set_38 o s15))))))))))
set_option maxHeartbeats 4000000 in
set_option maxRecDepth 100000 in
theorem wX10_set_0 {r0 : Int32} {h0 : Hz} (X : zX A D cy p s m args c cX10_set RX10 8) (hlk : meth.locks = false) (hr : meth.sig.returnType = (some .int)) (o : Nat) (v1 : Int32) (v2 : Int32) (v3 : Int32) (v4 : Int64) (h : Hz) (H : Heap) (locs : List Loc) (ls : Array Slot) (hl : lv_has ls 8 [(0, .ref o), (1, .int v1), (2, .int v2), (3, .int v3), (4, .long v4)]) (hW : zW A cy D h H) (hS : va_S A s.heap H locs) (h : fX10_set o v1 v2 v3 v4 h = some (r0, h0)) : W p l e ({ frames := 5, cells := 0, slots := 0, locals := 108 } : Room) s m args below meth c H locs 0 0 (MQ below (va_Qi (fun r1 u => r1 = r0 ∧ u = h0) (zB A D cy) A) args s 0 0 A) (F0 m 0 ls []) := by
  obtain ⟨hx, hb, hts, hown, hK9, hml, hN9, hA9⟩ := id X
  unfold fX10_set at h
  refine lv_aload_n hx hb dX10_set_0 rfl (lv_at hl 0 rfl) ?_
  replace h := b1_some h
  obtain ⟨a1, ga1, h⟩ := h
  refine z_getA X hW ga1 kX10 (by decide) (by decide) kf_X10_10 dX10_set_1 ?_
  refine lv_iload_n hx hb dX10_set_4 rfl (lv_at hl 1 rfl) ?_
  replace h := b1_some h
  obtain ⟨q2, gq2, h⟩ := h
  replace h := b2_some h
  obtain ⟨r3, s4, gs4, h⟩ := h
  refine z_callVq (rest := []) X hW hS (cX6_find_met gs4) kb_X6_find kv_X6_find kl_X10_94 (it_v gq2).1 kX6 rfl rfl ⟨Nat.le_of_ble_eq_true rfl, Nat.le_of_ble_eq_true rfl⟩ rfl rfl (by decide) hl.1 dX10_set_5 ⟨(by decide), (by decide)⟩ (fun H locs hW hS => ?_)
  refine z_astore (lv' := [(6, va_rf r3), (0, .ref o), (1, .int v1), (2, .int v2), (3, .int v3), (4, .long v4)]) hx hb dX10_set_8 hl (by decide) rfl (fun ls hl => ?_)
  refine z_aload hx hb dX10_set_10 (lv_at hl 0 rfl) ?_
  cases r3 with
  | none =>
    replace h := oe_n h
    have hl : lv_has ls 8 [(6, .null), (0, .ref o), (1, .int v1), (2, .int v2), (3, .int v3), (4, .long v4)] := hl
    refine lv_ifnonnullN hx hb dX10_set_12 ?_
    refine lv_aload_n hx hb dX10_set_15 rfl (lv_at hl 1 rfl) ?_
    refine lv_iconst (v := (-1)) hx hb dX10_set_16 (by decide) ?_
    replace h := b1_some h
    obtain ⟨q6, gq6, h⟩ := h
    replace h := b2_some h
    obtain ⟨x7, s8, gs8, h⟩ := h
    refine z_callVi (rest := []) X hW hS (cX10_refuse_met gs8) kb_X10_refuse kv_X10_refuse kl_X10_77 (it_v gq6).1 kX10 rfl rfl ⟨Nat.le_of_ble_eq_true rfl, Nat.le_of_ble_eq_true rfl⟩ rfl rfl (by decide) hl.1 dX10_set_17 ⟨(by decide), (by decide)⟩ (fun H locs hW hS => ?_)
    exact z_eti X hlk hr hW hS h (by decide) (by decide) dX10_set_20
  | some a5 =>
    replace h := oe_s h
    have hl : lv_has ls 8 [(6, .ref a5), (0, .ref o), (1, .int v1), (2, .int v2), (3, .int v3), (4, .long v4)] := hl
    refine lv_ifnonnull (tgt := 21) hx hb dX10_set_12 (by decide) ?_
    refine lv_aload hx hb dX10_set_21 (lv_at hl 0 rfl) ?_
    replace h := b1_some h
    obtain ⟨q9, gq9, h⟩ := h
    replace h := b2_some h
    obtain ⟨x10, s11, gs11, h⟩ := h
    refine z_callVi (rest := []) X hW hS (cX5_hasPlaces_met gs11) kb_X5_hasPlaces kv_X5_hasPlaces kl_X10_98 (it_v gq9).1 kX5 rfl rfl ⟨Nat.le_of_ble_eq_true rfl, Nat.le_of_ble_eq_true rfl⟩ rfl rfl (by decide) hl.1 dX10_set_23 ⟨(by decide), (by decide)⟩ (fun H locs hW hS => ?_)
    refine lv_if_eq (tgt := 38) hx hb dX10_set_26 (by decide) (fun c12 => ?_) (fun c12 => ?_)
    · replace h := it_t h c12
      exact wX10_set_38 X hlk hr o _ _ _ _ (lv_sub hl [1] rfl) hW hS h
    · replace h := it_f h c12
      refine lv_aload hx hb dX10_set_29 (lv_at hl 0 rfl) ?_
      refine lv_iload_n hx hb dX10_set_31 rfl (lv_at hl 3 rfl) ?_
      replace h := b1_some h
      obtain ⟨q13, gq13, h⟩ := h
      replace h := b2_some h
      obtain ⟨r14, s15, gs15, h⟩ := h
      refine z_callVq (rest := []) X hW hS (cX5_thingAt_met gs15) kb_X5_thingAt kv_X5_thingAt kl_X10_131 (it_v gq13).1 kX5 rfl rfl ⟨Nat.le_of_ble_eq_true rfl, Nat.le_of_ble_eq_true rfl⟩ rfl rfl (by decide) hl.1 dX10_set_32 ⟨(by decide), (by decide)⟩ (fun H locs hW hS => ?_)
      cases r14 with
      | none =>
        replace h := oe_n h
        have hl : lv_has ls 8 [(6, .ref a5), (0, .ref o), (1, .int v1), (2, .int v2), (3, .int v3), (4, .long v4)] := hl
        refine lv_ifnullN (tgt := 45) hx hb dX10_set_35 (by decide) ?_
        refine lv_aload hx hb dX10_set_45 (lv_at hl 0 rfl) ?_
        refine lv_iload_n hx hb dX10_set_47 rfl (lv_at hl 3 rfl) ?_
        replace h := b1_some h
        obtain ⟨q17, gq17, h⟩ := h
        replace h := b2_some h
        obtain ⟨x18, s19, gs19, h⟩ := h
        refine z_callVi (rest := []) X hW hS (cX5_hasPlace_met gs19) kb_X5_hasPlace kv_X5_hasPlace kl_X10_102 (it_v gq17).1 kX5 rfl rfl ⟨Nat.le_of_ble_eq_true rfl, Nat.le_of_ble_eq_true rfl⟩ rfl rfl (by decide) hl.1 dX10_set_48 ⟨(by decide), (by decide)⟩ (fun H locs hW hS => ?_)
        refine lv_if_ne (tgt := 61) hx hb dX10_set_51 (by decide) (fun c20 => ?_) (fun c20 => ?_)
        · replace h := it_f h c20
          refine lv_aload hx hb dX10_set_61 (lv_at hl 0 rfl) ?_
          refine lv_iload_n hx hb dX10_set_63 rfl (lv_at hl 3 rfl) ?_
          replace h := b1_some h
          obtain ⟨q21, gq21, h⟩ := h
          replace h := b2_some h
          obtain ⟨r22, s23, gs23, h⟩ := h
          refine z_callVq (rest := []) X hW hS (cX5_rowAt_met gs23) kb_X5_rowAt kv_X5_rowAt kl_X10_134 (it_v gq21).1 kX5 rfl rfl ⟨Nat.le_of_ble_eq_true rfl, Nat.le_of_ble_eq_true rfl⟩ rfl rfl (by decide) hl.1 dX10_set_64 ⟨(by decide), (by decide)⟩ (fun H locs hW hS => ?_)
          refine z_astore (lv' := [(7, va_rf r22), (6, .ref a5), (0, .ref o), (1, .int v1), (2, .int v2), (3, .int v3), (4, .long v4)]) hx hb dX10_set_67 hl (by decide) rfl (fun ls hl => ?_)
          refine z_aload hx hb dX10_set_69 (lv_at hl 0 rfl) ?_
          cases r22 with
          | none =>
            replace h := oe_n h
            have hl : lv_has ls 8 [(7, .null), (6, .ref a5), (0, .ref o), (1, .int v1), (2, .int v2), (3, .int v3), (4, .long v4)] := hl
            refine lv_ifnullN (tgt := 90) hx hb dX10_set_71 (by decide) ?_
            exact wX10_set_90 X hlk hr o v3 v4 a5 none _ _ _ _ (lv_sub hl [2, 5, 6, 1, 0] rfl) hW hS h
          | some a24 =>
            replace h := oe_s h
            have hl : lv_has ls 8 [(7, .ref a24), (6, .ref a5), (0, .ref o), (1, .int v1), (2, .int v2), (3, .int v3), (4, .long v4)] := hl
            refine lv_ifnull hx hb dX10_set_71 ?_
            refine lv_aload hx hb dX10_set_74 (lv_at hl 0 rfl) ?_
            refine lv_iload_n hx hb dX10_set_76 rfl (lv_at hl 5 rfl) ?_
            replace h := b1_some h
            obtain ⟨q25, gq25, h⟩ := h
            replace h := b2_some h
            obtain ⟨x26, s27, gs27, h⟩ := h
            refine z_callVi (rest := []) X hW hS (cX4_hasElement_met gs27) kb_X4_hasElement kv_X4_hasElement kl_X10_138 (it_v gq25).1 kX4 rfl rfl ⟨Nat.le_of_ble_eq_true rfl, Nat.le_of_ble_eq_true rfl⟩ rfl rfl (by decide) hl.1 dX10_set_77 ⟨(by decide), (by decide)⟩ (fun H locs hW hS => ?_)
            refine lv_if_ne (tgt := 90) hx hb dX10_set_80 (by decide) (fun c28 => ?_) (fun c28 => ?_)
            · replace h := it_f h c28
              exact wX10_set_90 X hlk hr o v3 v4 a5 (some a24) _ _ _ _ (lv_sub hl [2, 5, 6, 1, 0] rfl) hW hS h
            · replace h := it_t h c28
              refine lv_aload_n hx hb dX10_set_83 rfl (lv_at hl 2 rfl) ?_
              refine lv_bipush (v := (-3)) hx hb dX10_set_84 (by decide) ?_
              replace h := b1_some h
              obtain ⟨q29, gq29, h⟩ := h
              replace h := b2_some h
              obtain ⟨x30, s31, gs31, h⟩ := h
              refine z_callVi (rest := []) X hW hS (cX10_refuse_met gs31) kb_X10_refuse kv_X10_refuse kl_X10_77 (it_v gq29).1 kX10 rfl rfl ⟨Nat.le_of_ble_eq_true rfl, Nat.le_of_ble_eq_true rfl⟩ rfl rfl (by decide) hl.1 dX10_set_86 ⟨(by decide), (by decide)⟩ (fun H locs hW hS => ?_)
              exact z_eti X hlk hr hW hS h (by decide) (by decide) dX10_set_89
        · replace h := it_t h c20
          refine lv_aload_n hx hb dX10_set_54 rfl (lv_at hl 1 rfl) ?_
          refine lv_bipush (v := (-3)) hx hb dX10_set_55 (by decide) ?_
          replace h := b1_some h
          obtain ⟨q32, gq32, h⟩ := h
          replace h := b2_some h
          obtain ⟨x33, s34, gs34, h⟩ := h
          refine z_callVi (rest := []) X hW hS (cX10_refuse_met gs34) kb_X10_refuse kv_X10_refuse kl_X10_77 (it_v gq32).1 kX10 rfl rfl ⟨Nat.le_of_ble_eq_true rfl, Nat.le_of_ble_eq_true rfl⟩ rfl rfl (by decide) hl.1 dX10_set_57 ⟨(by decide), (by decide)⟩ (fun H locs hW hS => ?_)
          exact z_eti X hlk hr hW hS h (by decide) (by decide) dX10_set_60
      | some a16 =>
        replace h := oe_s h
        have hl : lv_has ls 8 [(6, .ref a5), (0, .ref o), (1, .int v1), (2, .int v2), (3, .int v3), (4, .long v4)] := hl
        refine lv_ifnull hx hb dX10_set_35 ?_
        exact wX10_set_38 X hlk hr o _ _ _ _ (lv_sub hl [1] rfl) hW hS h

set_option maxHeartbeats 4000000 in
set_option maxRecDepth 100000 in
theorem cX10_set_met {l : Launch} {A : Nat → Prop} {D : va_G} {cy : Nat → ClassId} {r0 : Int32} {h0 : Hz} {o : Nat} {v1 : Int32} {v2 : Int32} {v3 : Int32} {v4 : Int64} {h : Hz} (g : fX10_set o v1 v2 v3 v4 h = some (r0, h0)) : Met l yX10_set (Cond.code yX10_set cX10_set 8 (some .int) :: wT) ({ frames := 5, cells := 0, slots := 0, locals := 108 } : Room) (va_Pc [.ref o, .int v1, .int v2, .int v3, .long v4] (zS A D cy h)) (va_Qi (fun r1 u => r1 = r0 ∧ u = h0) (zB A D cy) A) 0 0 A := by
  refine Met.ofW (cc := cX10_set) (maxL := 8) (ret := (some .int)) (by decide) rfl ?_
  intro p e s m args below meth c s₁ B hml hv
  obtain ⟨rfl, hW, hK, hN, hA⟩ := hv
  have X : zX A D cy p s m _ c cX10_set RX10 8 := ⟨B.exec, B.bytes, fun w hw => atoms_spec (ws := Cond.code yX10_set cX10_set 8 (some .int) :: wT) B.pre w (List.mem_cons_of_mem _ hw), findClass_of_methodNamed B.named, hK, hml, hN, hA⟩
  have hl := lv_entry [.ref o, .int v1, .int v2, .int v3, .long v4] (n := 8) (Nat.le_of_ble_eq_true rfl)
  rw [lg_entry_eq]
  generalize (lg_sl [.ref o, .int v1, .int v2, .int v3, .long v4] ++ List.replicate (8 - (lg_sl [.ref o, .int v1, .int v2, .int v3, .long v4]).length) Slot.unset).toArray = ls at hl ⊢
  have hl : lv_has ls 8 [(0, .ref o), (1, .int v1), (2, .int v2), (3, .int v3), (4, .long v4)] := hl
  exact wX10_set_0 X B.notSynchronized B.returns o v1 v2 v3 v4 _ _ _ _ (lv_sub hl [0, 1, 2, 3, 4] rfl) hW va_S.rf g

theorem dX10_copy_0 : decode cX10_copy 0 = .ok (.aload_n 0, 1) := by decide +kernel
theorem dX10_copy_1 : decode cX10_copy 1 = .ok (.getfield 10, 3) := by decide +kernel
theorem dX10_copy_4 : decode cX10_copy 4 = .ok (.iload_n 1, 1) := by decide +kernel
theorem dX10_copy_5 : decode cX10_copy 5 = .ok (.invokevirtual 94, 3) := by decide +kernel
theorem dX10_copy_8 : decode cX10_copy 8 = .ok (.astore 6, 2) := by decide +kernel
theorem dX10_copy_10 : decode cX10_copy 10 = .ok (.aload 6, 2) := by decide +kernel
theorem dX10_copy_12 : decode cX10_copy 12 = .ok (.ifnonnull 9, 3) := by decide +kernel
theorem dX10_copy_15 : decode cX10_copy 15 = .ok (.aload_n 0, 1) := by decide +kernel
theorem dX10_copy_16 : decode cX10_copy 16 = .ok (.iconst (-1), 1) := by decide +kernel
theorem dX10_copy_17 : decode cX10_copy 17 = .ok (.invokevirtual 77, 3) := by decide +kernel
theorem dX10_copy_20 : decode cX10_copy 20 = .ok (.ireturn, 1) := by decide +kernel
theorem dX10_copy_21 : decode cX10_copy 21 = .ok (.aload 6, 2) := by decide +kernel
theorem dX10_copy_23 : decode cX10_copy 23 = .ok (.invokevirtual 98, 3) := by decide +kernel
theorem dX10_copy_26 : decode cX10_copy 26 = .ok (.ifCond .ne 10, 3) := by decide +kernel
theorem dX10_copy_29 : decode cX10_copy 29 = .ok (.aload_n 0, 1) := by decide +kernel
theorem dX10_copy_30 : decode cX10_copy 30 = .ok (.bipush (-2), 2) := by decide +kernel
theorem dX10_copy_32 : decode cX10_copy 32 = .ok (.invokevirtual 77, 3) := by decide +kernel
theorem dX10_copy_35 : decode cX10_copy 35 = .ok (.ireturn, 1) := by decide +kernel
theorem dX10_copy_36 : decode cX10_copy 36 = .ok (.aload 6, 2) := by decide +kernel
theorem dX10_copy_38 : decode cX10_copy 38 = .ok (.iload_n 2, 1) := by decide +kernel
theorem dX10_copy_39 : decode cX10_copy 39 = .ok (.invokevirtual 131, 3) := by decide +kernel
theorem dX10_copy_42 : decode cX10_copy 42 = .ok (.ifnonnull 12, 3) := by decide +kernel
theorem dX10_copy_45 : decode cX10_copy 45 = .ok (.aload 6, 2) := by decide +kernel
theorem dX10_copy_47 : decode cX10_copy 47 = .ok (.iload_n 3, 1) := by decide +kernel
theorem dX10_copy_48 : decode cX10_copy 48 = .ok (.invokevirtual 131, 3) := by decide +kernel
theorem dX10_copy_51 : decode cX10_copy 51 = .ok (.ifnull 10, 3) := by decide +kernel
theorem dX10_copy_54 : decode cX10_copy 54 = .ok (.aload_n 0, 1) := by decide +kernel
theorem dX10_copy_55 : decode cX10_copy 55 = .ok (.bipush (-2), 2) := by decide +kernel
theorem dX10_copy_57 : decode cX10_copy 57 = .ok (.invokevirtual 77, 3) := by decide +kernel
theorem dX10_copy_60 : decode cX10_copy 60 = .ok (.ireturn, 1) := by decide +kernel
theorem dX10_copy_61 : decode cX10_copy 61 = .ok (.aload 6, 2) := by decide +kernel
theorem dX10_copy_63 : decode cX10_copy 63 = .ok (.iload_n 2, 1) := by decide +kernel
theorem dX10_copy_64 : decode cX10_copy 64 = .ok (.invokevirtual 134, 3) := by decide +kernel
theorem dX10_copy_67 : decode cX10_copy 67 = .ok (.astore 7, 2) := by decide +kernel
theorem dX10_copy_69 : decode cX10_copy 69 = .ok (.aload 6, 2) := by decide +kernel
theorem dX10_copy_71 : decode cX10_copy 71 = .ok (.iload_n 3, 1) := by decide +kernel
theorem dX10_copy_72 : decode cX10_copy 72 = .ok (.invokevirtual 134, 3) := by decide +kernel
theorem dX10_copy_75 : decode cX10_copy 75 = .ok (.astore 8, 2) := by decide +kernel
theorem dX10_copy_77 : decode cX10_copy 77 = .ok (.aload 7, 2) := by decide +kernel
theorem dX10_copy_79 : decode cX10_copy 79 = .ok (.ifnull 12, 3) := by decide +kernel
theorem dX10_copy_82 : decode cX10_copy 82 = .ok (.aload 8, 2) := by decide +kernel
theorem dX10_copy_84 : decode cX10_copy 84 = .ok (.ifnull 7, 3) := by decide +kernel
theorem dX10_copy_87 : decode cX10_copy 87 = .ok (.iconst 1, 1) := by decide +kernel
theorem dX10_copy_88 : decode cX10_copy 88 = .ok (.goto 4, 3) := by decide +kernel
theorem dX10_copy_91 : decode cX10_copy 91 = .ok (.iconst 0, 1) := by decide +kernel
theorem dX10_copy_92 : decode cX10_copy 92 = .ok (.istore 9, 2) := by decide +kernel
theorem dX10_copy_94 : decode cX10_copy 94 = .ok (.iload 9, 2) := by decide +kernel
theorem dX10_copy_96 : decode cX10_copy 96 = .ok (.ifCond .eq 23, 3) := by decide +kernel
theorem dX10_copy_99 : decode cX10_copy 99 = .ok (.aload 7, 2) := by decide +kernel
theorem dX10_copy_101 : decode cX10_copy 101 = .ok (.getfield 145, 3) := by decide +kernel
theorem dX10_copy_104 : decode cX10_copy 104 = .ok (.aload 8, 2) := by decide +kernel
theorem dX10_copy_106 : decode cX10_copy 106 = .ok (.getfield 145, 3) := by decide +kernel
theorem dX10_copy_109 : decode cX10_copy 109 = .ok (.if_icmp .eq 10, 3) := by decide +kernel
theorem dX10_copy_112 : decode cX10_copy 112 = .ok (.aload_n 0, 1) := by decide +kernel
theorem dX10_copy_113 : decode cX10_copy 113 = .ok (.bipush (-2), 2) := by decide +kernel
theorem dX10_copy_115 : decode cX10_copy 115 = .ok (.invokevirtual 77, 3) := by decide +kernel
theorem dX10_copy_118 : decode cX10_copy 118 = .ok (.ireturn, 1) := by decide +kernel
theorem dX10_copy_119 : decode cX10_copy 119 = .ok (.aload 6, 2) := by decide +kernel
theorem dX10_copy_121 : decode cX10_copy 121 = .ok (.iload_n 2, 1) := by decide +kernel
theorem dX10_copy_122 : decode cX10_copy 122 = .ok (.invokevirtual 102, 3) := by decide +kernel
theorem dX10_copy_125 : decode cX10_copy 125 = .ok (.ifCond .eq 12, 3) := by decide +kernel
theorem dX10_copy_128 : decode cX10_copy 128 = .ok (.aload 6, 2) := by decide +kernel
theorem dX10_copy_130 : decode cX10_copy 130 = .ok (.iload_n 3, 1) := by decide +kernel
theorem dX10_copy_131 : decode cX10_copy 131 = .ok (.invokevirtual 102, 3) := by decide +kernel
theorem dX10_copy_134 : decode cX10_copy 134 = .ok (.ifCond .ne 10, 3) := by decide +kernel
theorem dX10_copy_137 : decode cX10_copy 137 = .ok (.aload_n 0, 1) := by decide +kernel
theorem dX10_copy_138 : decode cX10_copy 138 = .ok (.bipush (-3), 2) := by decide +kernel
theorem dX10_copy_140 : decode cX10_copy 140 = .ok (.invokevirtual 77, 3) := by decide +kernel
theorem dX10_copy_143 : decode cX10_copy 143 = .ok (.ireturn, 1) := by decide +kernel
theorem dX10_copy_144 : decode cX10_copy 144 = .ok (.iload 9, 2) := by decide +kernel
theorem dX10_copy_146 : decode cX10_copy 146 = .ok (.ifCond .eq 29, 3) := by decide +kernel
theorem dX10_copy_149 : decode cX10_copy 149 = .ok (.iload 5, 2) := by decide +kernel
theorem dX10_copy_151 : decode cX10_copy 151 = .ok (.ifCond .lt 24, 3) := by decide +kernel
theorem dX10_copy_154 : decode cX10_copy 154 = .ok (.aload 8, 2) := by decide +kernel
theorem dX10_copy_156 : decode cX10_copy 156 = .ok (.aload 7, 2) := by decide +kernel
theorem dX10_copy_158 : decode cX10_copy 158 = .ok (.iload 4, 2) := by decide +kernel
theorem dX10_copy_160 : decode cX10_copy 160 = .ok (.iload 5, 2) := by decide +kernel
theorem dX10_copy_162 : decode cX10_copy 162 = .ok (.invokevirtual 148, 3) := by decide +kernel
theorem dX10_copy_165 : decode cX10_copy 165 = .ok (.ifCond .ne 10, 3) := by decide +kernel
theorem dX10_copy_168 : decode cX10_copy 168 = .ok (.aload_n 0, 1) := by decide +kernel
theorem dX10_copy_169 : decode cX10_copy 169 = .ok (.bipush (-3), 2) := by decide +kernel
theorem dX10_copy_171 : decode cX10_copy 171 = .ok (.invokevirtual 77, 3) := by decide +kernel
theorem dX10_copy_174 : decode cX10_copy 174 = .ok (.ireturn, 1) := by decide +kernel
theorem dX10_copy_175 : decode cX10_copy 175 = .ok (.iload 5, 2) := by decide +kernel
theorem dX10_copy_177 : decode cX10_copy 177 = .ok (.ifCond .ge 10, 3) := by decide +kernel
theorem dX10_copy_180 : decode cX10_copy 180 = .ok (.aload_n 0, 1) := by decide +kernel
theorem dX10_copy_181 : decode cX10_copy 181 = .ok (.bipush (-4), 2) := by decide +kernel
theorem dX10_copy_183 : decode cX10_copy 183 = .ok (.invokevirtual 77, 3) := by decide +kernel
theorem dX10_copy_186 : decode cX10_copy 186 = .ok (.ireturn, 1) := by decide +kernel
theorem dX10_copy_187 : decode cX10_copy 187 = .ok (.aload_n 0, 1) := by decide +kernel
theorem dX10_copy_188 : decode cX10_copy 188 = .ok (.aload 6, 2) := by decide +kernel
theorem dX10_copy_190 : decode cX10_copy 190 = .ok (.invokevirtual 105, 3) := by decide +kernel
theorem dX10_copy_193 : decode cX10_copy 193 = .ok (.ifCond .ne 10, 3) := by decide +kernel
theorem dX10_copy_196 : decode cX10_copy 196 = .ok (.aload_n 0, 1) := by decide +kernel
theorem dX10_copy_197 : decode cX10_copy 197 = .ok (.bipush (-5), 2) := by decide +kernel
theorem dX10_copy_199 : decode cX10_copy 199 = .ok (.invokevirtual 77, 3) := by decide +kernel
theorem dX10_copy_202 : decode cX10_copy 202 = .ok (.ireturn, 1) := by decide +kernel
theorem dX10_copy_203 : decode cX10_copy 203 = .ok (.iload 9, 2) := by decide +kernel
theorem dX10_copy_205 : decode cX10_copy 205 = .ok (.ifCond .ne 10, 3) := by decide +kernel
theorem dX10_copy_208 : decode cX10_copy 208 = .ok (.aload_n 0, 1) := by decide +kernel
theorem dX10_copy_209 : decode cX10_copy 209 = .ok (.bipush (-7), 2) := by decide +kernel
theorem dX10_copy_211 : decode cX10_copy 211 = .ok (.invokevirtual 77, 3) := by decide +kernel
theorem dX10_copy_214 : decode cX10_copy 214 = .ok (.ireturn, 1) := by decide +kernel
theorem dX10_copy_215 : decode cX10_copy 215 = .ok (.aload 8, 2) := by decide +kernel
theorem dX10_copy_217 : decode cX10_copy 217 = .ok (.aload 7, 2) := by decide +kernel
theorem dX10_copy_219 : decode cX10_copy 219 = .ok (.iload 4, 2) := by decide +kernel
theorem dX10_copy_221 : decode cX10_copy 221 = .ok (.iload 5, 2) := by decide +kernel
theorem dX10_copy_223 : decode cX10_copy 223 = .ok (.invokevirtual 152, 3) := by decide +kernel
theorem dX10_copy_226 : decode cX10_copy 226 = .ok (.aload_n 0, 1) := by decide +kernel
theorem dX10_copy_227 : decode cX10_copy 227 = .ok (.aload 6, 2) := by decide +kernel
theorem dX10_copy_229 : decode cX10_copy 229 = .ok (.getfield 109, 3) := by decide +kernel
theorem dX10_copy_232 : decode cX10_copy 232 = .ok (.invokevirtual 85, 3) := by decide +kernel
theorem dX10_copy_235 : decode cX10_copy 235 = .ok (.iconst 1, 1) := by decide +kernel
theorem dX10_copy_236 : decode cX10_copy 236 = .ok (.ireturn, 1) := by decide +kernel
def fX10_copy_54 (o : Nat) (h : Hz) : Option (Int32 × Hz) := (b1 (tg 10 o h) fun _ => (b2 (fX10_refuse o (-2) h) fun x2 s3 => some (x2, s3)))
set_option maxHeartbeats 4000000 in
set_option maxRecDepth 100000 in
theorem wX10_copy_54 {r0 : Int32} {h0 : Hz} (X : zX A D cy p s m args c cX10_copy RX10 10) (hlk : meth.locks = false) (hr : meth.sig.returnType = (some .int)) (o : Nat) (h : Hz) (H : Heap) (locs : List Loc) (ls : Array Slot) (hl : lv_has ls 10 [(0, .ref o)]) (hW : zW A cy D h H) (hS : va_S A s.heap H locs) (h : fX10_copy_54 o h = some (r0, h0)) : W p l e ({ frames := 5, cells := 0, slots := 0, locals := 108 } : Room) s m args below meth c H locs 0 0 (MQ below (va_Qi (fun r1 u => r1 = r0 ∧ u = h0) (zB A D cy) A) args s 0 0 A) (F0 m 54 ls []) := by
  obtain ⟨hx, hb, hts, hown, hK9, hml, hN9, hA9⟩ := id X
  unfold fX10_copy_54 at h
  refine lv_aload_n hx hb dX10_copy_54 rfl (lv_at hl 0 rfl) ?_
  refine lv_bipush (v := (-2)) hx hb dX10_copy_55 (by decide) ?_
  replace h := b1_some h
  obtain ⟨q1, gq1, h⟩ := h
  replace h := b2_some h
  obtain ⟨x2, s3, gs3, h⟩ := h
  refine z_callVi (rest := []) X hW hS (cX10_refuse_met gs3) kb_X10_refuse kv_X10_refuse kl_X10_77 (it_v gq1).1 kX10 rfl rfl ⟨Nat.le_of_ble_eq_true rfl, Nat.le_of_ble_eq_true rfl⟩ rfl rfl (by decide) hl.1 dX10_copy_57 ⟨(by decide), (by decide)⟩ (fun H locs hW hS => ?_)
  exact z_eti X hlk hr hW hS h (by decide) (by decide) dX10_copy_60

def fX10_copy_137 (o : Nat) (h : Hz) : Option (Int32 × Hz) := (b1 (tg 10 o h) fun _ => (b2 (fX10_refuse o (-3) h) fun x2 s3 => some (x2, s3)))
set_option maxHeartbeats 4000000 in
set_option maxRecDepth 100000 in
theorem wX10_copy_137 {r0 : Int32} {h0 : Hz} (X : zX A D cy p s m args c cX10_copy RX10 10) (hlk : meth.locks = false) (hr : meth.sig.returnType = (some .int)) (o : Nat) (h : Hz) (H : Heap) (locs : List Loc) (ls : Array Slot) (hl : lv_has ls 10 [(0, .ref o)]) (hW : zW A cy D h H) (hS : va_S A s.heap H locs) (h : fX10_copy_137 o h = some (r0, h0)) : W p l e ({ frames := 5, cells := 0, slots := 0, locals := 108 } : Room) s m args below meth c H locs 0 0 (MQ below (va_Qi (fun r1 u => r1 = r0 ∧ u = h0) (zB A D cy) A) args s 0 0 A) (F0 m 137 ls []) := by
  obtain ⟨hx, hb, hts, hown, hK9, hml, hN9, hA9⟩ := id X
  unfold fX10_copy_137 at h
  refine lv_aload_n hx hb dX10_copy_137 rfl (lv_at hl 0 rfl) ?_
  refine lv_bipush (v := (-3)) hx hb dX10_copy_138 (by decide) ?_
  replace h := b1_some h
  obtain ⟨q1, gq1, h⟩ := h
  replace h := b2_some h
  obtain ⟨x2, s3, gs3, h⟩ := h
  refine z_callVi (rest := []) X hW hS (cX10_refuse_met gs3) kb_X10_refuse kv_X10_refuse kl_X10_77 (it_v gq1).1 kX10 rfl rfl ⟨Nat.le_of_ble_eq_true rfl, Nat.le_of_ble_eq_true rfl⟩ rfl rfl (by decide) hl.1 dX10_copy_140 ⟨(by decide), (by decide)⟩ (fun H locs hW hS => ?_)
  exact z_eti X hlk hr hW hS h (by decide) (by decide) dX10_copy_143

def fX10_copy_175 (o : Nat) (v4 : Int32) (v5 : Int32) (v6 : Nat) (v7 : Option Nat) (v8 : Option Nat) (v9 : Int32) (h : Hz) : Option (Int32 × Hz) := (if 0 ≤ v5 then (b1 (tg 10 o h) fun _ => (b2 (fX10_isNear o (some v6) h) fun x3 s4 => (if x3 = 0 then (b1 (tg 10 o s4) fun _ => (b2 (fX10_refuse o (-5) s4) fun x19 s20 => some (x19, s20))) else (if v9 = 0 then (b1 (tg 10 o s4) fun _ => (b2 (fX10_refuse o (-7) s4) fun x16 s17 => some (x16, s17))) else b1 v8 fun a7 => (b1 (tg 4 a7 s4) fun _ => (b2 (fX4_take a7 v7 v4 v5 s4) fun _ s10 => (b1 (gI 5 2 v6 s10) fun x11 => (b1 (tg 10 o s10) fun _ => (b2 (fX10_touch o x11 s10) fun _ s14 => some (1, s14)))))))))) else (b1 (tg 10 o h) fun _ => (b2 (fX10_refuse o (-4) h) fun x22 s23 => some (x22, s23))))
set_option maxHeartbeats 4000000 in
set_option maxRecDepth 100000 in
theorem wX10_copy_175 {r0 : Int32} {h0 : Hz} (X : zX A D cy p s m args c cX10_copy RX10 10) (hlk : meth.locks = false) (hr : meth.sig.returnType = (some .int)) (o : Nat) (v4 : Int32) (v5 : Int32) (v6 : Nat) (v7 : Option Nat) (v8 : Option Nat) (v9 : Int32) (h : Hz) (H : Heap) (locs : List Loc) (ls : Array Slot) (hl : lv_has ls 10 [(0, .ref o), (4, .int v4), (5, .int v5), (6, .ref v6), (7, va_rf v7), (8, va_rf v8), (9, .int v9)]) (hW : zW A cy D h H) (hS : va_S A s.heap H locs) (h : fX10_copy_175 o v4 v5 v6 v7 v8 v9 h = some (r0, h0)) : W p l e ({ frames := 5, cells := 0, slots := 0, locals := 108 } : Room) s m args below meth c H locs 0 0 (MQ below (va_Qi (fun r1 u => r1 = r0 ∧ u = h0) (zB A D cy) A) args s 0 0 A) (F0 m 175 ls []) := by
  obtain ⟨hx, hb, hts, hown, hK9, hml, hN9, hA9⟩ := id X
  unfold fX10_copy_175 at h
  refine lv_iload hx hb dX10_copy_175 (lv_at hl 2 rfl) ?_
  refine lv_if_ge (tgt := 187) hx hb dX10_copy_177 (by decide) (fun c1 => ?_) (fun c1 => ?_)
  · replace h := it_t h c1
    refine lv_aload_n hx hb dX10_copy_187 rfl (lv_at hl 0 rfl) ?_
    refine lv_aload hx hb dX10_copy_188 (lv_at hl 3 rfl) ?_
    replace h := b1_some h
    obtain ⟨q2, gq2, h⟩ := h
    replace h := b2_some h
    obtain ⟨x3, s4, gs4, h⟩ := h
    refine z_callVi (rest := []) X hW hS (cX10_isNear_met gs4) kb_X10_isNear kv_X10_isNear kl_X10_105 (it_v gq2).1 kX10 rfl rfl ⟨Nat.le_of_ble_eq_true rfl, Nat.le_of_ble_eq_true rfl⟩ rfl rfl (by decide) hl.1 dX10_copy_190 ⟨(by decide), (by decide)⟩ (fun H locs hW hS => ?_)
    refine lv_if_ne (tgt := 203) hx hb dX10_copy_193 (by decide) (fun c5 => ?_) (fun c5 => ?_)
    · replace h := it_f h c5
      refine lv_iload hx hb dX10_copy_203 (lv_at hl 6 rfl) ?_
      refine lv_if_ne (tgt := 215) hx hb dX10_copy_205 (by decide) (fun c6 => ?_) (fun c6 => ?_)
      · replace h := it_f h c6
        refine z_aload hx hb dX10_copy_215 (lv_at hl 5 rfl) ?_
        refine z_aload hx hb dX10_copy_217 (lv_at hl 4 rfl) ?_
        refine lv_iload hx hb dX10_copy_219 (lv_at hl 1 rfl) ?_
        refine lv_iload hx hb dX10_copy_221 (lv_at hl 2 rfl) ?_
        replace h := b1_some h
        obtain ⟨a7, ea7, h⟩ := h
        subst ea7
        replace h := b1_some h
        obtain ⟨q8, gq8, h⟩ := h
        replace h := b2_some h
        obtain ⟨_ur9, s10, gs10, h⟩ := h
        refine z_callVv (rest := []) X hW hS (cX4_take_met gs10) kb_X4_take kv_X4_take kl_X10_152 (it_v gq8).1 kX4 rfl rfl ⟨Nat.le_of_ble_eq_true rfl, Nat.le_of_ble_eq_true rfl⟩ rfl rfl (by decide) hl.1 dX10_copy_223 ⟨(by decide), (by decide)⟩ (fun H locs hW hS => ?_)
        refine lv_aload_n hx hb dX10_copy_226 rfl (lv_at hl 0 rfl) ?_
        refine lv_aload hx hb dX10_copy_227 (lv_at hl 3 rfl) ?_
        replace h := b1_some h
        obtain ⟨x11, gx11, h⟩ := h
        refine z_getI X hW gx11 kX5 (by decide) (by decide) kf_X10_109 dX10_copy_229 ?_
        replace h := b1_some h
        obtain ⟨q12, gq12, h⟩ := h
        replace h := b2_some h
        obtain ⟨_ur13, s14, gs14, h⟩ := h
        refine z_callVv (rest := []) X hW hS (cX10_touch_met gs14) kb_X10_touch kv_X10_touch kl_X10_85 (it_v gq12).1 kX10 rfl rfl ⟨Nat.le_of_ble_eq_true rfl, Nat.le_of_ble_eq_true rfl⟩ rfl rfl (by decide) hl.1 dX10_copy_232 ⟨(by decide), (by decide)⟩ (fun H locs hW hS => ?_)
        refine lv_iconst (v := 1) hx hb dX10_copy_235 (by decide) ?_
        exact z_eti X hlk hr hW hS h (by decide) (by decide) dX10_copy_236
      · replace h := it_t h c6
        refine lv_aload_n hx hb dX10_copy_208 rfl (lv_at hl 0 rfl) ?_
        refine lv_bipush (v := (-7)) hx hb dX10_copy_209 (by decide) ?_
        replace h := b1_some h
        obtain ⟨q15, gq15, h⟩ := h
        replace h := b2_some h
        obtain ⟨x16, s17, gs17, h⟩ := h
        refine z_callVi (rest := []) X hW hS (cX10_refuse_met gs17) kb_X10_refuse kv_X10_refuse kl_X10_77 (it_v gq15).1 kX10 rfl rfl ⟨Nat.le_of_ble_eq_true rfl, Nat.le_of_ble_eq_true rfl⟩ rfl rfl (by decide) hl.1 dX10_copy_211 ⟨(by decide), (by decide)⟩ (fun H locs hW hS => ?_)
        exact z_eti X hlk hr hW hS h (by decide) (by decide) dX10_copy_214
    · replace h := it_t h c5
      refine lv_aload_n hx hb dX10_copy_196 rfl (lv_at hl 0 rfl) ?_
      refine lv_bipush (v := (-5)) hx hb dX10_copy_197 (by decide) ?_
      replace h := b1_some h
      obtain ⟨q18, gq18, h⟩ := h
      replace h := b2_some h
      obtain ⟨x19, s20, gs20, h⟩ := h
      refine z_callVi (rest := []) X hW hS (cX10_refuse_met gs20) kb_X10_refuse kv_X10_refuse kl_X10_77 (it_v gq18).1 kX10 rfl rfl ⟨Nat.le_of_ble_eq_true rfl, Nat.le_of_ble_eq_true rfl⟩ rfl rfl (by decide) hl.1 dX10_copy_199 ⟨(by decide), (by decide)⟩ (fun H locs hW hS => ?_)
      exact z_eti X hlk hr hW hS h (by decide) (by decide) dX10_copy_202
  · replace h := it_f h c1
    refine lv_aload_n hx hb dX10_copy_180 rfl (lv_at hl 0 rfl) ?_
    refine lv_bipush (v := (-4)) hx hb dX10_copy_181 (by decide) ?_
    replace h := b1_some h
    obtain ⟨q21, gq21, h⟩ := h
    replace h := b2_some h
    obtain ⟨x22, s23, gs23, h⟩ := h
    refine z_callVi (rest := []) X hW hS (cX10_refuse_met gs23) kb_X10_refuse kv_X10_refuse kl_X10_77 (it_v gq21).1 kX10 rfl rfl ⟨Nat.le_of_ble_eq_true rfl, Nat.le_of_ble_eq_true rfl⟩ rfl rfl (by decide) hl.1 dX10_copy_183 ⟨(by decide), (by decide)⟩ (fun H locs hW hS => ?_)
    exact z_eti X hlk hr hW hS h (by decide) (by decide) dX10_copy_186

def fX10_copy_119 (o : Nat) (v2 : Int32) (v3 : Int32) (v4 : Int32) (v5 : Int32) (v6 : Nat) (v7 : Option Nat) (v8 : Option Nat) (v9 : Int32) (h : Hz) : Option (Int32 × Hz) := (b1 (tg 5 v6 h) fun _ => (b2 (fX5_hasPlace v6 v2 h) fun x2 s3 => (if x2 = 0 then fX10_copy_137 o s3 else (b1 (tg 5 v6 s3) fun _ => (b2 (fX5_hasPlace v6 v3 s3) fun x6 s7 => (if x6 = 0 then fX10_copy_137 o s7 else (if v9 = 0 then fX10_copy_175 o v4 v5 v6 v7 v8 v9 s7 else (if v5 < 0 then fX10_copy_175 o v4 v5 v6 v7 v8 v9 s7 else b1 v8 fun a11 => (b1 (tg 4 a11 s7) fun _ => (b2 (fX4_canTake a11 v7 v4 v5 s7) fun x13 s14 => (if x13 = 0 then (b1 (tg 10 o s14) fun _ => (b2 (fX10_refuse o (-3) s14) fun x17 s18 => some (x17, s18))) else fX10_copy_175 o v4 v5 v6 v7 (some a11) v9 s14)))))))))))
set_option maxHeartbeats 4000000 in
set_option maxRecDepth 100000 in
theorem wX10_copy_119 {r0 : Int32} {h0 : Hz} (X : zX A D cy p s m args c cX10_copy RX10 10) (hlk : meth.locks = false) (hr : meth.sig.returnType = (some .int)) (o : Nat) (v2 : Int32) (v3 : Int32) (v4 : Int32) (v5 : Int32) (v6 : Nat) (v7 : Option Nat) (v8 : Option Nat) (v9 : Int32) (h : Hz) (H : Heap) (locs : List Loc) (ls : Array Slot) (hl : lv_has ls 10 [(0, .ref o), (2, .int v2), (3, .int v3), (4, .int v4), (5, .int v5), (6, .ref v6), (7, va_rf v7), (8, va_rf v8), (9, .int v9)]) (hW : zW A cy D h H) (hS : va_S A s.heap H locs) (h : fX10_copy_119 o v2 v3 v4 v5 v6 v7 v8 v9 h = some (r0, h0)) : W p l e ({ frames := 5, cells := 0, slots := 0, locals := 108 } : Room) s m args below meth c H locs 0 0 (MQ below (va_Qi (fun r1 u => r1 = r0 ∧ u = h0) (zB A D cy) A) args s 0 0 A) (F0 m 119 ls []) := by
  obtain ⟨hx, hb, hts, hown, hK9, hml, hN9, hA9⟩ := id X
  unfold fX10_copy_119 at h
  refine lv_aload hx hb dX10_copy_119 (lv_at hl 5 rfl) ?_
  refine lv_iload_n hx hb dX10_copy_121 rfl (lv_at hl 1 rfl) ?_
  replace h := b1_some h
  obtain ⟨q1, gq1, h⟩ := h
  replace h := b2_some h
  obtain ⟨x2, s3, gs3, h⟩ := h
  refine z_callVi (rest := []) X hW hS (cX5_hasPlace_met gs3) kb_X5_hasPlace kv_X5_hasPlace kl_X10_102 (it_v gq1).1 kX5 rfl rfl ⟨Nat.le_of_ble_eq_true rfl, Nat.le_of_ble_eq_true rfl⟩ rfl rfl (by decide) hl.1 dX10_copy_122 ⟨(by decide), (by decide)⟩ (fun H locs hW hS => ?_)
  refine lv_if_eq (tgt := 137) hx hb dX10_copy_125 (by decide) (fun c4 => ?_) (fun c4 => ?_)
  · replace h := it_t h c4
    exact wX10_copy_137 X hlk hr o _ _ _ _ (lv_sub hl [0] rfl) hW hS h
  · replace h := it_f h c4
    refine lv_aload hx hb dX10_copy_128 (lv_at hl 5 rfl) ?_
    refine lv_iload_n hx hb dX10_copy_130 rfl (lv_at hl 2 rfl) ?_
    replace h := b1_some h
    obtain ⟨q5, gq5, h⟩ := h
    replace h := b2_some h
    obtain ⟨x6, s7, gs7, h⟩ := h
    refine z_callVi (rest := []) X hW hS (cX5_hasPlace_met gs7) kb_X5_hasPlace kv_X5_hasPlace kl_X10_102 (it_v gq5).1 kX5 rfl rfl ⟨Nat.le_of_ble_eq_true rfl, Nat.le_of_ble_eq_true rfl⟩ rfl rfl (by decide) hl.1 dX10_copy_131 ⟨(by decide), (by decide)⟩ (fun H locs hW hS => ?_)
    refine lv_if_ne (tgt := 144) hx hb dX10_copy_134 (by decide) (fun c8 => ?_) (fun c8 => ?_)
    · replace h := it_f h c8
      refine lv_iload hx hb dX10_copy_144 (lv_at hl 8 rfl) ?_
      refine lv_if_eq (tgt := 175) hx hb dX10_copy_146 (by decide) (fun c9 => ?_) (fun c9 => ?_)
      · replace h := it_t h c9
        exact wX10_copy_175 X hlk hr o v4 v5 v6 v7 v8 v9 _ _ _ _ (lv_sub hl [0, 3, 4, 5, 6, 7, 8] rfl) hW hS h
      · replace h := it_f h c9
        refine lv_iload hx hb dX10_copy_149 (lv_at hl 4 rfl) ?_
        refine lv_if_lt (tgt := 175) hx hb dX10_copy_151 (by decide) (fun c10 => ?_) (fun c10 => ?_)
        · replace h := it_t h c10
          exact wX10_copy_175 X hlk hr o v4 v5 v6 v7 v8 v9 _ _ _ _ (lv_sub hl [0, 3, 4, 5, 6, 7, 8] rfl) hW hS h
        · replace h := it_f h c10
          refine z_aload hx hb dX10_copy_154 (lv_at hl 7 rfl) ?_
          refine z_aload hx hb dX10_copy_156 (lv_at hl 6 rfl) ?_
          refine lv_iload hx hb dX10_copy_158 (lv_at hl 3 rfl) ?_
          refine lv_iload hx hb dX10_copy_160 (lv_at hl 4 rfl) ?_
          replace h := b1_some h
          obtain ⟨a11, ea11, h⟩ := h
          subst ea11
          replace h := b1_some h
          obtain ⟨q12, gq12, h⟩ := h
          replace h := b2_some h
          obtain ⟨x13, s14, gs14, h⟩ := h
          refine z_callVi (rest := []) X hW hS (cX4_canTake_met gs14) kb_X4_canTake kv_X4_canTake kl_X10_148 (it_v gq12).1 kX4 rfl rfl ⟨Nat.le_of_ble_eq_true rfl, Nat.le_of_ble_eq_true rfl⟩ rfl rfl (by decide) hl.1 dX10_copy_162 ⟨(by decide), (by decide)⟩ (fun H locs hW hS => ?_)
          refine lv_if_ne (tgt := 175) hx hb dX10_copy_165 (by decide) (fun c15 => ?_) (fun c15 => ?_)
          · replace h := it_f h c15
            exact wX10_copy_175 X hlk hr o v4 v5 v6 v7 (some a11) v9 _ _ _ _ (lv_sub hl [0, 3, 4, 5, 6, 7, 8] rfl) hW hS h
          · replace h := it_t h c15
            refine lv_aload_n hx hb dX10_copy_168 rfl (lv_at hl 0 rfl) ?_
            refine lv_bipush (v := (-3)) hx hb dX10_copy_169 (by decide) ?_
            replace h := b1_some h
            obtain ⟨q16, gq16, h⟩ := h
            replace h := b2_some h
            obtain ⟨x17, s18, gs18, h⟩ := h
            refine z_callVi (rest := []) X hW hS (cX10_refuse_met gs18) kb_X10_refuse kv_X10_refuse kl_X10_77 (it_v gq16).1 kX10 rfl rfl ⟨Nat.le_of_ble_eq_true rfl, Nat.le_of_ble_eq_true rfl⟩ rfl rfl (by decide) hl.1 dX10_copy_171 ⟨(by decide), (by decide)⟩ (fun H locs hW hS => ?_)
            exact z_eti X hlk hr hW hS h (by decide) (by decide) dX10_copy_174
    · replace h := it_t h c8
      exact wX10_copy_137 X hlk hr o _ _ _ _ (lv_sub hl [0] rfl) hW hS h

def fX10_copy_92 (o : Nat) (v2 : Int32) (v3 : Int32) (v4 : Int32) (v5 : Int32) (v6 : Nat) (v7 : Option Nat) (v8 : Option Nat) (w0 : Int32) (h : Hz) : Option (Int32 × Hz) := (if w0 = 0 then fX10_copy_119 o v2 v3 v4 v5 v6 v7 v8 w0 h else b1 v7 fun a2 => (b1 (gI 4 0 a2 h) fun x3 => b1 v8 fun a4 => (b1 (gI 4 0 a4 h) fun x5 => (if x3 = x5 then fX10_copy_119 o v2 v3 v4 v5 v6 (some a2) (some a4) w0 h else (b1 (tg 10 o h) fun _ => (b2 (fX10_refuse o (-2) h) fun x8 s9 => some (x8, s9)))))))
set_option maxHeartbeats 4000000 in
set_option maxRecDepth 100000 in
theorem wX10_copy_92 {r0 : Int32} {h0 : Hz} (X : zX A D cy p s m args c cX10_copy RX10 10) (hlk : meth.locks = false) (hr : meth.sig.returnType = (some .int)) (o : Nat) (v2 : Int32) (v3 : Int32) (v4 : Int32) (v5 : Int32) (v6 : Nat) (v7 : Option Nat) (v8 : Option Nat) (w0 : Int32) (h : Hz) (H : Heap) (locs : List Loc) (ls : Array Slot) (hl : lv_has ls 10 [(0, .ref o), (2, .int v2), (3, .int v3), (4, .int v4), (5, .int v5), (6, .ref v6), (7, va_rf v7), (8, va_rf v8)]) (hW : zW A cy D h H) (hS : va_S A s.heap H locs) (h : fX10_copy_92 o v2 v3 v4 v5 v6 v7 v8 w0 h = some (r0, h0)) : W p l e ({ frames := 5, cells := 0, slots := 0, locals := 108 } : Room) s m args below meth c H locs 0 0 (MQ below (va_Qi (fun r1 u => r1 = r0 ∧ u = h0) (zB A D cy) A) args s 0 0 A) (F0 m 92 ls [.int w0]) := by
  obtain ⟨hx, hb, hts, hown, hK9, hml, hN9, hA9⟩ := id X
  unfold fX10_copy_92 at h
  refine lv_istore (lv' := [(9, .int w0), (0, .ref o), (2, .int v2), (3, .int v3), (4, .int v4), (5, .int v5), (6, .ref v6), (7, va_rf v7), (8, va_rf v8)]) hx hb dX10_copy_92 hl (by decide) (by cases v8 <;> rfl) (fun ls hl => ?_)
  refine lv_iload hx hb dX10_copy_94 (lv_at hl 0 rfl) ?_
  refine lv_if_eq (tgt := 119) hx hb dX10_copy_96 (by decide) (fun c1 => ?_) (fun c1 => ?_)
  · replace h := it_t h c1
    exact wX10_copy_119 X hlk hr o v2 v3 v4 v5 v6 v7 v8 w0 _ _ _ _ (lv_sub hl [1, 2, 3, 4, 5, 6, 7, 8, 0] rfl) hW hS h
  · replace h := it_f h c1
    refine z_aload hx hb dX10_copy_99 (lv_at hl 7 rfl) ?_
    replace h := b1_some h
    obtain ⟨a2, ea2, h⟩ := h
    subst ea2
    replace h := b1_some h
    obtain ⟨x3, gx3, h⟩ := h
    refine z_getI X hW gx3 kX4 (by decide) (by decide) kf_X10_145 dX10_copy_101 ?_
    refine z_aload hx hb dX10_copy_104 (lv_at hl 8 rfl) ?_
    replace h := b1_some h
    obtain ⟨a4, ea4, h⟩ := h
    subst ea4
    replace h := b1_some h
    obtain ⟨x5, gx5, h⟩ := h
    refine z_getI X hW gx5 kX4 (by decide) (by decide) kf_X10_145 dX10_copy_106 ?_
    refine lv_icmp_eq (tgt := 119) hx hb dX10_copy_109 (by decide) (fun c6 => ?_) (fun c6 => ?_)
    · replace h := it_t h c6
      exact wX10_copy_119 X hlk hr o v2 v3 v4 v5 v6 (some a2) (some a4) w0 _ _ _ _ (lv_sub hl [1, 2, 3, 4, 5, 6, 7, 8, 0] rfl) hW hS h
    · replace h := it_f h c6
      refine lv_aload_n hx hb dX10_copy_112 rfl (lv_at hl 1 rfl) ?_
      refine lv_bipush (v := (-2)) hx hb dX10_copy_113 (by decide) ?_
      replace h := b1_some h
      obtain ⟨q7, gq7, h⟩ := h
      replace h := b2_some h
      obtain ⟨x8, s9, gs9, h⟩ := h
      refine z_callVi (rest := []) X hW hS (cX10_refuse_met gs9) kb_X10_refuse kv_X10_refuse kl_X10_77 (it_v gq7).1 kX10 rfl rfl ⟨Nat.le_of_ble_eq_true rfl, Nat.le_of_ble_eq_true rfl⟩ rfl rfl (by decide) hl.1 dX10_copy_115 ⟨(by decide), (by decide)⟩ (fun H locs hW hS => ?_)
      exact z_eti X hlk hr hW hS h (by decide) (by decide) dX10_copy_118

def fX10_copy_91 (o : Nat) (v2 : Int32) (v3 : Int32) (v4 : Int32) (v5 : Int32) (v6 : Nat) (v7 : Option Nat) (v8 : Option Nat) (h : Hz) : Option (Int32 × Hz) := fX10_copy_92 o v2 v3 v4 v5 v6 v7 v8 0 h
set_option maxHeartbeats 4000000 in
set_option maxRecDepth 100000 in
theorem wX10_copy_91 {r0 : Int32} {h0 : Hz} (X : zX A D cy p s m args c cX10_copy RX10 10) (hlk : meth.locks = false) (hr : meth.sig.returnType = (some .int)) (o : Nat) (v2 : Int32) (v3 : Int32) (v4 : Int32) (v5 : Int32) (v6 : Nat) (v7 : Option Nat) (v8 : Option Nat) (h : Hz) (H : Heap) (locs : List Loc) (ls : Array Slot) (hl : lv_has ls 10 [(0, .ref o), (2, .int v2), (3, .int v3), (4, .int v4), (5, .int v5), (6, .ref v6), (7, va_rf v7), (8, va_rf v8)]) (hW : zW A cy D h H) (hS : va_S A s.heap H locs) (h : fX10_copy_91 o v2 v3 v4 v5 v6 v7 v8 h = some (r0, h0)) : W p l e ({ frames := 5, cells := 0, slots := 0, locals := 108 } : Room) s m args below meth c H locs 0 0 (MQ below (va_Qi (fun r1 u => r1 = r0 ∧ u = h0) (zB A D cy) A) args s 0 0 A) (F0 m 91 ls []) := by
  obtain ⟨hx, hb, hts, hown, hK9, hml, hN9, hA9⟩ := id X
  unfold fX10_copy_91 at h
  refine lv_iconst (v := 0) hx hb dX10_copy_91 (by decide) ?_
  exact wX10_copy_92 X hlk hr o v2 v3 v4 v5 v6 v7 v8 0 _ _ _ _ (lv_sub hl [0, 1, 2, 3, 4, 5, 6, 7] rfl) hW hS h

def fX10_copy (o : Nat) (v1 : Int32) (v2 : Int32) (v3 : Int32) (v4 : Int32) (v5 : Int32) (h : Hz) : Option (Int32 × Hz) := (b1 (gA 10 0 o h) fun a1 => (b1 (tg 6 a1 h) fun _ => (b2 (fX6_find a1 v1 h) fun r3 s4 => (oe r3 ((b1 (tg 10 o s4) fun _ => (b2 (fX10_refuse o (-1) s4) fun x7 s8 => some (x7, s8)))) fun a5 => (b1 (tg 5 a5 s4) fun _ => (b2 (fX5_hasPlaces a5 s4) fun x10 s11 => (if x10 = 0 then (b1 (tg 10 o s11) fun _ => (b2 (fX10_refuse o (-2) s11) fun x30 s31 => some (x30, s31))) else (b1 (tg 5 a5 s11) fun _ => (b2 (fX5_thingAt a5 v2 s11) fun r14 s15 => (oe r14 ((b1 (tg 5 a5 s15) fun _ => (b2 (fX5_thingAt a5 v3 s15) fun r18 s19 => (oe r18 ((b1 (tg 5 a5 s19) fun _ => (b2 (fX5_rowAt a5 v2 s19) fun r22 s23 => (b1 (tg 5 a5 s23) fun _ => (b2 (fX5_rowAt a5 v3 s23) fun r25 s26 => (oe r22 (fX10_copy_91 o v2 v3 v4 v5 a5 none r25 s26) fun a27 => (oe r25 (fX10_copy_91 o v2 v3 v4 v5 a5 (some a27) none s26) fun a28 => fX10_copy_92 o v2 v3 v4 v5 a5 (some a27) (some a28) 1 s26))))))) fun a20 => fX10_copy_54 o s19)))) fun a16 => fX10_copy_54 o s15))))))))))
set_option maxHeartbeats 4000000 in
set_option maxRecDepth 100000 in
theorem wX10_copy_0 {r0 : Int32} {h0 : Hz} (X : zX A D cy p s m args c cX10_copy RX10 10) (hlk : meth.locks = false) (hr : meth.sig.returnType = (some .int)) (o : Nat) (v1 : Int32) (v2 : Int32) (v3 : Int32) (v4 : Int32) (v5 : Int32) (h : Hz) (H : Heap) (locs : List Loc) (ls : Array Slot) (hl : lv_has ls 10 [(0, .ref o), (1, .int v1), (2, .int v2), (3, .int v3), (4, .int v4), (5, .int v5)]) (hW : zW A cy D h H) (hS : va_S A s.heap H locs) (h : fX10_copy o v1 v2 v3 v4 v5 h = some (r0, h0)) : W p l e ({ frames := 5, cells := 0, slots := 0, locals := 108 } : Room) s m args below meth c H locs 0 0 (MQ below (va_Qi (fun r1 u => r1 = r0 ∧ u = h0) (zB A D cy) A) args s 0 0 A) (F0 m 0 ls []) := by
  obtain ⟨hx, hb, hts, hown, hK9, hml, hN9, hA9⟩ := id X
  unfold fX10_copy at h
  refine lv_aload_n hx hb dX10_copy_0 rfl (lv_at hl 0 rfl) ?_
  replace h := b1_some h
  obtain ⟨a1, ga1, h⟩ := h
  refine z_getA X hW ga1 kX10 (by decide) (by decide) kf_X10_10 dX10_copy_1 ?_
  refine lv_iload_n hx hb dX10_copy_4 rfl (lv_at hl 1 rfl) ?_
  replace h := b1_some h
  obtain ⟨q2, gq2, h⟩ := h
  replace h := b2_some h
  obtain ⟨r3, s4, gs4, h⟩ := h
  refine z_callVq (rest := []) X hW hS (cX6_find_met gs4) kb_X6_find kv_X6_find kl_X10_94 (it_v gq2).1 kX6 rfl rfl ⟨Nat.le_of_ble_eq_true rfl, Nat.le_of_ble_eq_true rfl⟩ rfl rfl (by decide) hl.1 dX10_copy_5 ⟨(by decide), (by decide)⟩ (fun H locs hW hS => ?_)
  refine z_astore (lv' := [(6, va_rf r3), (0, .ref o), (1, .int v1), (2, .int v2), (3, .int v3), (4, .int v4), (5, .int v5)]) hx hb dX10_copy_8 hl (by decide) rfl (fun ls hl => ?_)
  refine z_aload hx hb dX10_copy_10 (lv_at hl 0 rfl) ?_
  cases r3 with
  | none =>
    replace h := oe_n h
    have hl : lv_has ls 10 [(6, .null), (0, .ref o), (1, .int v1), (2, .int v2), (3, .int v3), (4, .int v4), (5, .int v5)] := hl
    refine lv_ifnonnullN hx hb dX10_copy_12 ?_
    refine lv_aload_n hx hb dX10_copy_15 rfl (lv_at hl 1 rfl) ?_
    refine lv_iconst (v := (-1)) hx hb dX10_copy_16 (by decide) ?_
    replace h := b1_some h
    obtain ⟨q6, gq6, h⟩ := h
    replace h := b2_some h
    obtain ⟨x7, s8, gs8, h⟩ := h
    refine z_callVi (rest := []) X hW hS (cX10_refuse_met gs8) kb_X10_refuse kv_X10_refuse kl_X10_77 (it_v gq6).1 kX10 rfl rfl ⟨Nat.le_of_ble_eq_true rfl, Nat.le_of_ble_eq_true rfl⟩ rfl rfl (by decide) hl.1 dX10_copy_17 ⟨(by decide), (by decide)⟩ (fun H locs hW hS => ?_)
    exact z_eti X hlk hr hW hS h (by decide) (by decide) dX10_copy_20
  | some a5 =>
    replace h := oe_s h
    have hl : lv_has ls 10 [(6, .ref a5), (0, .ref o), (1, .int v1), (2, .int v2), (3, .int v3), (4, .int v4), (5, .int v5)] := hl
    refine lv_ifnonnull (tgt := 21) hx hb dX10_copy_12 (by decide) ?_
    refine lv_aload hx hb dX10_copy_21 (lv_at hl 0 rfl) ?_
    replace h := b1_some h
    obtain ⟨q9, gq9, h⟩ := h
    replace h := b2_some h
    obtain ⟨x10, s11, gs11, h⟩ := h
    refine z_callVi (rest := []) X hW hS (cX5_hasPlaces_met gs11) kb_X5_hasPlaces kv_X5_hasPlaces kl_X10_98 (it_v gq9).1 kX5 rfl rfl ⟨Nat.le_of_ble_eq_true rfl, Nat.le_of_ble_eq_true rfl⟩ rfl rfl (by decide) hl.1 dX10_copy_23 ⟨(by decide), (by decide)⟩ (fun H locs hW hS => ?_)
    refine lv_if_ne (tgt := 36) hx hb dX10_copy_26 (by decide) (fun c12 => ?_) (fun c12 => ?_)
    · replace h := it_f h c12
      refine lv_aload hx hb dX10_copy_36 (lv_at hl 0 rfl) ?_
      refine lv_iload_n hx hb dX10_copy_38 rfl (lv_at hl 3 rfl) ?_
      replace h := b1_some h
      obtain ⟨q13, gq13, h⟩ := h
      replace h := b2_some h
      obtain ⟨r14, s15, gs15, h⟩ := h
      refine z_callVq (rest := []) X hW hS (cX5_thingAt_met gs15) kb_X5_thingAt kv_X5_thingAt kl_X10_131 (it_v gq13).1 kX5 rfl rfl ⟨Nat.le_of_ble_eq_true rfl, Nat.le_of_ble_eq_true rfl⟩ rfl rfl (by decide) hl.1 dX10_copy_39 ⟨(by decide), (by decide)⟩ (fun H locs hW hS => ?_)
      cases r14 with
      | none =>
        replace h := oe_n h
        have hl : lv_has ls 10 [(6, .ref a5), (0, .ref o), (1, .int v1), (2, .int v2), (3, .int v3), (4, .int v4), (5, .int v5)] := hl
        refine lv_ifnonnullN hx hb dX10_copy_42 ?_
        refine lv_aload hx hb dX10_copy_45 (lv_at hl 0 rfl) ?_
        refine lv_iload_n hx hb dX10_copy_47 rfl (lv_at hl 4 rfl) ?_
        replace h := b1_some h
        obtain ⟨q17, gq17, h⟩ := h
        replace h := b2_some h
        obtain ⟨r18, s19, gs19, h⟩ := h
        refine z_callVq (rest := []) X hW hS (cX5_thingAt_met gs19) kb_X5_thingAt kv_X5_thingAt kl_X10_131 (it_v gq17).1 kX5 rfl rfl ⟨Nat.le_of_ble_eq_true rfl, Nat.le_of_ble_eq_true rfl⟩ rfl rfl (by decide) hl.1 dX10_copy_48 ⟨(by decide), (by decide)⟩ (fun H locs hW hS => ?_)
        cases r18 with
        | none =>
          replace h := oe_n h
          have hl : lv_has ls 10 [(6, .ref a5), (0, .ref o), (1, .int v1), (2, .int v2), (3, .int v3), (4, .int v4), (5, .int v5)] := hl
          refine lv_ifnullN (tgt := 61) hx hb dX10_copy_51 (by decide) ?_
          refine lv_aload hx hb dX10_copy_61 (lv_at hl 0 rfl) ?_
          refine lv_iload_n hx hb dX10_copy_63 rfl (lv_at hl 3 rfl) ?_
          replace h := b1_some h
          obtain ⟨q21, gq21, h⟩ := h
          replace h := b2_some h
          obtain ⟨r22, s23, gs23, h⟩ := h
          refine z_callVq (rest := []) X hW hS (cX5_rowAt_met gs23) kb_X5_rowAt kv_X5_rowAt kl_X10_134 (it_v gq21).1 kX5 rfl rfl ⟨Nat.le_of_ble_eq_true rfl, Nat.le_of_ble_eq_true rfl⟩ rfl rfl (by decide) hl.1 dX10_copy_64 ⟨(by decide), (by decide)⟩ (fun H locs hW hS => ?_)
          refine z_astore (lv' := [(7, va_rf r22), (6, .ref a5), (0, .ref o), (1, .int v1), (2, .int v2), (3, .int v3), (4, .int v4), (5, .int v5)]) hx hb dX10_copy_67 hl (by decide) rfl (fun ls hl => ?_)
          refine lv_aload hx hb dX10_copy_69 (lv_at hl 1 rfl) ?_
          refine lv_iload_n hx hb dX10_copy_71 rfl (lv_at hl 5 rfl) ?_
          replace h := b1_some h
          obtain ⟨q24, gq24, h⟩ := h
          replace h := b2_some h
          obtain ⟨r25, s26, gs26, h⟩ := h
          refine z_callVq (rest := []) X hW hS (cX5_rowAt_met gs26) kb_X5_rowAt kv_X5_rowAt kl_X10_134 (it_v gq24).1 kX5 rfl rfl ⟨Nat.le_of_ble_eq_true rfl, Nat.le_of_ble_eq_true rfl⟩ rfl rfl (by decide) hl.1 dX10_copy_72 ⟨(by decide), (by decide)⟩ (fun H locs hW hS => ?_)
          refine z_astore (lv' := [(8, va_rf r25), (7, va_rf r22), (6, .ref a5), (0, .ref o), (1, .int v1), (2, .int v2), (3, .int v3), (4, .int v4), (5, .int v5)]) hx hb dX10_copy_75 hl (by decide) (by cases r22 <;> rfl) (fun ls hl => ?_)
          refine z_aload hx hb dX10_copy_77 (lv_at hl 1 rfl) ?_
          cases r22 with
          | none =>
            replace h := oe_n h
            have hl : lv_has ls 10 [(8, va_rf r25), (7, .null), (6, .ref a5), (0, .ref o), (1, .int v1), (2, .int v2), (3, .int v3), (4, .int v4), (5, .int v5)] := hl
            refine lv_ifnullN (tgt := 91) hx hb dX10_copy_79 (by decide) ?_
            exact wX10_copy_91 X hlk hr o v2 v3 v4 v5 a5 none r25 _ _ _ _ (lv_sub hl [3, 5, 6, 7, 8, 2, 1, 0] rfl) hW hS h
          | some a27 =>
            replace h := oe_s h
            have hl : lv_has ls 10 [(8, va_rf r25), (7, .ref a27), (6, .ref a5), (0, .ref o), (1, .int v1), (2, .int v2), (3, .int v3), (4, .int v4), (5, .int v5)] := hl
            refine lv_ifnull hx hb dX10_copy_79 ?_
            refine z_aload hx hb dX10_copy_82 (lv_at hl 0 rfl) ?_
            cases r25 with
            | none =>
              replace h := oe_n h
              have hl : lv_has ls 10 [(8, .null), (7, .ref a27), (6, .ref a5), (0, .ref o), (1, .int v1), (2, .int v2), (3, .int v3), (4, .int v4), (5, .int v5)] := hl
              refine lv_ifnullN (tgt := 91) hx hb dX10_copy_84 (by decide) ?_
              exact wX10_copy_91 X hlk hr o v2 v3 v4 v5 a5 (some a27) none _ _ _ _ (lv_sub hl [3, 5, 6, 7, 8, 2, 1, 0] rfl) hW hS h
            | some a28 =>
              replace h := oe_s h
              have hl : lv_has ls 10 [(8, .ref a28), (7, .ref a27), (6, .ref a5), (0, .ref o), (1, .int v1), (2, .int v2), (3, .int v3), (4, .int v4), (5, .int v5)] := hl
              refine lv_ifnull hx hb dX10_copy_84 ?_
              refine lv_iconst (v := 1) hx hb dX10_copy_87 (by decide) ?_
              refine lv_goto (tgt := 92) hx hb dX10_copy_88 (by decide) ?_
              exact wX10_copy_92 X hlk hr o v2 v3 v4 v5 a5 (some a27) (some a28) 1 _ _ _ _ (lv_sub hl [3, 5, 6, 7, 8, 2, 1, 0] rfl) hW hS h
        | some a20 =>
          replace h := oe_s h
          have hl : lv_has ls 10 [(6, .ref a5), (0, .ref o), (1, .int v1), (2, .int v2), (3, .int v3), (4, .int v4), (5, .int v5)] := hl
          refine lv_ifnull hx hb dX10_copy_51 ?_
          exact wX10_copy_54 X hlk hr o _ _ _ _ (lv_sub hl [1] rfl) hW hS h
      | some a16 =>
        replace h := oe_s h
        have hl : lv_has ls 10 [(6, .ref a5), (0, .ref o), (1, .int v1), (2, .int v2), (3, .int v3), (4, .int v4), (5, .int v5)] := hl
        refine lv_ifnonnull (tgt := 54) hx hb dX10_copy_42 (by decide) ?_
        exact wX10_copy_54 X hlk hr o _ _ _ _ (lv_sub hl [1] rfl) hW hS h
    · replace h := it_t h c12
      refine lv_aload_n hx hb dX10_copy_29 rfl (lv_at hl 1 rfl) ?_
      refine lv_bipush (v := (-2)) hx hb dX10_copy_30 (by decide) ?_
      replace h := b1_some h
      obtain ⟨q29, gq29, h⟩ := h
      replace h := b2_some h
      obtain ⟨x30, s31, gs31, h⟩ := h
      refine z_callVi (rest := []) X hW hS (cX10_refuse_met gs31) kb_X10_refuse kv_X10_refuse kl_X10_77 (it_v gq29).1 kX10 rfl rfl ⟨Nat.le_of_ble_eq_true rfl, Nat.le_of_ble_eq_true rfl⟩ rfl rfl (by decide) hl.1 dX10_copy_32 ⟨(by decide), (by decide)⟩ (fun H locs hW hS => ?_)
      exact z_eti X hlk hr hW hS h (by decide) (by decide) dX10_copy_35

set_option maxHeartbeats 4000000 in
set_option maxRecDepth 100000 in
theorem cX10_copy_met {l : Launch} {A : Nat → Prop} {D : va_G} {cy : Nat → ClassId} {r0 : Int32} {h0 : Hz} {o : Nat} {v1 : Int32} {v2 : Int32} {v3 : Int32} {v4 : Int32} {v5 : Int32} {h : Hz} (g : fX10_copy o v1 v2 v3 v4 v5 h = some (r0, h0)) : Met l yX10_copy (Cond.code yX10_copy cX10_copy 10 (some .int) :: wT) ({ frames := 5, cells := 0, slots := 0, locals := 108 } : Room) (va_Pc [.ref o, .int v1, .int v2, .int v3, .int v4, .int v5] (zS A D cy h)) (va_Qi (fun r1 u => r1 = r0 ∧ u = h0) (zB A D cy) A) 0 0 A := by
  refine Met.ofW (cc := cX10_copy) (maxL := 10) (ret := (some .int)) (by decide) rfl ?_
  intro p e s m args below meth c s₁ B hml hv
  obtain ⟨rfl, hW, hK, hN, hA⟩ := hv
  have X : zX A D cy p s m _ c cX10_copy RX10 10 := ⟨B.exec, B.bytes, fun w hw => atoms_spec (ws := Cond.code yX10_copy cX10_copy 10 (some .int) :: wT) B.pre w (List.mem_cons_of_mem _ hw), findClass_of_methodNamed B.named, hK, hml, hN, hA⟩
  have hl := lv_entry [.ref o, .int v1, .int v2, .int v3, .int v4, .int v5] (n := 10) (Nat.le_of_ble_eq_true rfl)
  rw [lg_entry_eq]
  generalize (lg_sl [.ref o, .int v1, .int v2, .int v3, .int v4, .int v5] ++ List.replicate (10 - (lg_sl [.ref o, .int v1, .int v2, .int v3, .int v4, .int v5]).length) Slot.unset).toArray = ls at hl ⊢
  have hl : lv_has ls 10 [(0, .ref o), (1, .int v1), (2, .int v2), (3, .int v3), (4, .int v4), (5, .int v5)] := hl
  exact wX10_copy_0 X B.notSynchronized B.returns o v1 v2 v3 v4 v5 _ _ _ _ (lv_sub hl [0, 1, 2, 3, 4, 5] rfl) hW va_S.rf g

end Z14_classa
