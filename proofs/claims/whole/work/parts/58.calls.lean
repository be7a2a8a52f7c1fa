section MK6
variable {n t p a b e x y kd h pl m wt s : Nat} {D : Nat → Prop} {v v' : Nu} {u u' : Mu} {w w' : Me}
theorem gsum_mk5 (h7 : v 7 (v 9 0) = 0) : gsum (mk5 v kd h pl m wt) s = gsum v s + (if kd = 3 ∧ m = s + 1 then wt else 0) := by
  obtain ⟨t0, t1, t3, t5, t6⟩ := mk5_at (v := v) (kd := kd) (h := h) (pl := pl) (m := m) (wt := wt)
  simp only [gsum]
  rw [mk5_9, fb_sm_succ]
  have e7 : mk5 v kd h pl m wt 7 (v 9 0) = 0 := h7
  rw [e7, t0, t5, t6]
  congr 1
  · refine fb_sm_cong (fun g hg => ?_)
    obtain ⟨g0, g1, g3, g5, g6⟩ := mk5_0 (v := v) (kd := kd) (h := h) (pl := pl) (m := m) (wt := wt) hg
    have g7 : mk5 v kd h pl m wt 7 g = v 7 g := rfl
    rw [g0, g5, g6, g7]
  · simp
theorem gsum_new (hT : iT v) : gsum v (v 9 0) = 0 := fb_sm_no (fun g hg => by
  rw [if_neg]
  rintro ⟨-, h3, h5⟩
  obtain ⟨⟨m, m1, m2, -⟩, -⟩ := hT.g hg h3
  omega)
theorem lsum_new (hL : iL v) : lsum v (v 9 0) = 0 := fb_sm_no (fun l hl => by
  rw [if_neg]
  rintro ⟨-, h3⟩
  have := hL.lt hl
  omega)
theorem Inv.mk (hI : Inv D n v u w) (h300 : v 9 0 < 300) (hh : h < 8) (hD : D h) (hkd : kd ≤ 2) (hpl : pl ≤ 8) (hp0 : kd = 0 → pl = 0) (hp1 : kd = 1 ∨ kd = 2 → 1 ≤ pl) : Inv D n (mkv v kd h pl) u w := by
  obtain ⟨hT, hF, hL, hW, hC, hK, hX, hS, hG, hQ, hM⟩ := hI
  obtain ⟨f1, f2, f3, f4, f5, f6, f7⟩ := hF _ (Nat.le_refl _) h300
  rw [← mk5_eq f3]
  have hT' : iT (mk5 v kd h pl 0 0) := hT.mkx hF h300 hh (by omega) hpl (fun e => hp0 (by omega)) hp1 (fun e => by omega) (fun _ => ⟨rfl, rfl⟩)
  obtain ⟨t0, t1, t3, t5, t6⟩ := mk5_at (v := v) (kd := kd) (h := h) (pl := pl) (m := 0) (wt := 0)
  refine ⟨hT', hF.mkx, hL.mkx, hW.mkx, ⟨hC.1, hC.2.1, fun i hi => by rw [mk5_9]; have := hC.2.2 i hi; show v 32 i < _; omega⟩, hK.mkx hT hT' hD, hX, fun s hs h3 => ?_, fun a b ha hb h1 h2 h3 h4 => ?_, hQ.mkx hW, hM.mkx hT hF hL hW h300 hpl⟩
  · rw [mk5_9] at hs
    have e4 : mk5 v kd h pl 0 0 4 s = v 4 s := rfl
    have el : lsum (mk5 v kd h pl 0 0) s = lsum v s := rfl
    rw [gsum_mk5 f4, e4, el, if_neg (by omega)]
    by_cases es : s = v 9 0
    · subst es
      rw [gsum_new hT, lsum_new hL, f2]
      omega
    · have hs' : s < v 9 0 := by omega
      rw [(mk5_0 hs').1] at h3
      exact hS s hs' h3
  · rw [mk5_9] at ha hb
    have na : a ≠ v 9 0 := fun e => by subst e; rw [t0] at h3; omega
    have nb : b ≠ v 9 0 := fun e => by subst e; rw [t0] at h4; omega
    obtain ⟨g0, g1, g3, g5, g6⟩ := mk5_0 (v := v) (kd := kd) (h := h) (pl := pl) (m := 0) (wt := 0) (show a < v 9 0 by omega)
    obtain ⟨j0, j1, j3, j5, j6⟩ := mk5_0 (v := v) (kd := kd) (h := h) (pl := pl) (m := 0) (wt := 0) (show b < v 9 0 by omega)
    rw [g0] at h3
    rw [j0] at h4
    rw [g1, j1, g5, j5]
    exact hG a b (by omega) (by omega) h1 h2 h3 h4
theorem mkv_tch {h0 : Nat} : mkv (tch v h0) kd h pl = tch (mkv v kd h pl) h0 := by
  funext k i
  simp only [mkv, tch, zu]
  by_cases e : k = 30
  · subst e
    simp
  · simp [e]
end MK6
section CA
variable {n q z t b0 : Nat} {d : AD} {c : CH} {v : Nu} {u : Mu} {w : Me}
/-- both refuse, and that is all -/
theorem b_ref {x : Int32} (i : Nat) (R : RC d c v u w) (hN : Nv v u) (hI : Inv D0 n v u w) (hi : i < 7) (hx : x = -1 - nI i) : ∃ (r : Int32) (x' y' : Hz), (b1 (tg 10 (da d 100 0) (cB d c)) fun _ => (b2 (fX10_refuse (da d 100 0) x (cB d c)) fun x2 s3 => some (x2, s3))) = some (r, x') ∧ (b1 (tg 11 q (mB q z u w)) fun _ => (b2 (fX11_refuse q x (mB q z u w)) fun x2 s3 => some (x2, s3))) = some (r, y') ∧ zs y' = z ∧ Jx (da d 100 0) q (n + 1) x' y' := by
  obtain ⟨c', u', r1, r2, J⟩ := b_refuse (q := q) (z := z) i R hN hI hi hx
  rw [qt_100 R.2.1, b1_s, mtg, b1_s, r1, r2]
  exact ⟨_, _, _, rfl, rfl, rfl, J⟩
/-- where a number lies -/
theorem lim (lo hi : Nat) (x : Int32) (h : hi < 2147483000) (hl : lo ≤ hi) : (¬ nI lo ≤ x ∧ x < nI lo) ∨ (nI lo ≤ x ∧ ¬ x < nI lo ∧ ¬ x ≤ nI hi ∧ nI hi < x) ∨ ∃ k, lo ≤ k ∧ k ≤ hi ∧ x = nI k ∧ nI lo ≤ x ∧ ¬ x < nI lo ∧ x ≤ nI hi ∧ ¬ nI hi < x := by
  have e1 : (nI lo).toInt = lo := nI_toInt (by omega)
  have e2 : (nI hi).toInt = hi := nI_toInt (by omega)
  have r := fb_rng x
  simp only [fa_le, fa_lt, e1, e2]
  by_cases h1 : x.toInt < lo
  · left; omega
  · by_cases h2 : (hi : Int) < x.toInt
    · right; left; omega
    · right; right
      refine ⟨x.toInt.toNat, by omega, by omega, ?_, by omega, by omega, by omega, by omega⟩
      rw [fa_eq, nI_toInt (by omega)]
      omega
theorem e_makeO {x1 x2 x3 : Int32} (R : RC d c v u w) (hn : v 9 0 = 300) : fX6_make (da d 101 0) x1 x2 x3 (cB d c) = some (none, cB d c) := by
  have hF := R.2.1
  have hX := R.2.2.1
  unfold fX6_make
  rw [cgI (t := 6) (f101 hF) rfl, b1_s, show cI c 101 0 1 = nI (v 9 0) from R.2.2.2.1.1, qa_101_0 hF hX, b1_s, qn_102 hF hX, b1_s, hn, if_neg (show ¬ nI 300 < nI 300 by decide)]
/-- the reference makes a thing -/
theorem s_make2 {kd h pl : Nat} (hN : Nv v u) (h1 : v 9 0 < 300) : ∃ u', fX11_make q (nI kd) (nI h) (nI pl) (mB q z u w) = some (nI (v 9 0), mB q z u' w) ∧ Nv (mkv v kd h pl) u' ∧ ∀ i, u' 2 i = u 2 i := by
  refine ⟨_, s_make (hN.k9 0) h1, ?_, ?_⟩
  · exact ((((hN.wr (by rw [dv_n rfl])).wr (by rw [dv_n rfl])).wr (by rw [dv_n rfl])).wr (by rw [dv_0 rfl])).wr (by rw [dv_n rfl])
  · intro i
    rfl
theorem i300 (hb : v 9 0 ≤ 300) {α : Type} {x y : α} : (if nI (v 9 0) = 300 then x else y) = if v 9 0 = 300 then x else y := nI_ifeq (b := 300) (by omega) (by decide)
theorem st_root : st2 (Jx b0 q) b0 q fX10_root fX11_root := by
  intro n x y v1 v2 hn hJ
  obtain ⟨d, c, v, u, w, z, rfl, rfl, rfl, R, hN, hI⟩ := id hJ
  have hF := R.2.1
  have hX := R.2.2.1
  have hT := hI.1
  have hb := hT.1
  unfold fX10_root fX11_root
  rw [e_isHost, b2_s]
  rcases inOut v1 (n := 8) (by decide) with ho | ⟨h, hh, rfl⟩
  · have e1 : fX11_isIn v1 8 (mB q z u w) = some (0, mB q z u w) := isIn_o (n := 8) (by decide) ho
    rw [if_pos ho, if_pos rfl, e1, b2_s, if_pos rfl]
    exact b_ref 0 R hN hI (by decide) (by decide)
  have e1 : fX11_isIn (nI h) 8 (mB q z u w) = some (1, mB q z u w) := isIn_n (n := 8) hh (by decide)
  rw [isHost_in hh, if_neg (show ¬ (1 : Int32) = 0 by decide), e1, b2_s, if_neg (show ¬ (1 : Int32) = 0 by decide)]
  rcases lim 1 8 v2 (by decide) (by decide) with ⟨l1, -⟩ | ⟨l1, -, l2, l3⟩ | ⟨pl, p1, p2, rfl, l1, -, l2, l3⟩
  · rw [if_neg (show ¬ (1 : Int32) ≤ v2 from l1), if_neg (show ¬ (1 : Int32) ≤ v2 from l1)]
    exact b_ref 3 R hN hI (by decide) (by decide)
  · rw [if_pos (show (1 : Int32) ≤ v2 from l1), if_pos (show (1 : Int32) ≤ v2 from l1), if_neg (show ¬ v2 ≤ (8 : Int32) from l2), if_pos (show (8 : Int32) < v2 from l3)]
    exact b_ref 5 R hN hI (by decide) (by decide)
  · rw [if_pos (show (1 : Int32) ≤ nI pl from l1), if_pos (show (1 : Int32) ≤ nI pl from l1), if_pos (show nI pl ≤ (8 : Int32) from l2), if_neg (show ¬ (8 : Int32) < nI pl from l3), qa_100_0 hF hX, b1_s, qt_101 hF, b1_s, mG9, b1_s, hN.k9, i300 hb]
    by_cases h300 : v 9 0 = 300
    · rw [e_makeO R h300, b2_s, oe_0, if_pos h300]
      exact b_ref 5 R hN hI (by decide) (by decide)
    · rw [if_neg h300]
      obtain ⟨d', c', m1, hE, R'⟩ := e_make (kd := 2) (h := h) R hT hI.2.1 hI.2.2.2.2.2.1.1 (by omega) p2
      have m1' : fX6_make (da d 101 0) 2 (nI h) (nI pl) (cB d c) = _ := m1
      have hE100 := (hE 100 0 (f100 hF)).1
      obtain ⟨c2, t1, R2⟩ := e_touch2 R' hh
      obtain ⟨w1, w2, hN1⟩ := hN.touch (q := q) (z := z) (w := w) hh
      obtain ⟨u', s1, hN2, s2⟩ := s_make2 (q := q) (z := z) (w := w) (kd := 2) (h := h) (pl := pl) hN1 (show v 9 0 < 300 by omega)
      have s1' : fX11_make q 2 (nI h) (nI pl) (mB q z (zu u 30 h (nI (v 30 h + 1))) w) = some (nI (v 9 0), mB q z u' w) := s1
      rw [m1', b2_s, oe_1, ← hE100, qt_100 R'.2.1, b1_s, t1, b2_s, g_num R2 (show v 9 0 < tch (mkv v 2 h pl) h 9 0 from (by show v 9 0 < mkv v 2 h pl 9 0; rw [mkv_9]; omega)), b1_s, mA30, b1_s, w1, b1_s, w2, b1_s, mtg, b1_s, s1', b2_s]
      rw [mkv_tch] at hN2
      refine ⟨_, _, _, rfl, rfl, rfl, d', c2, _, u', w, z, rfl, rfl, rfl, R2.uw s2 (fun _ => rfl), hN2, ?_⟩
      exact (((hI.dirty (D := fun g => g = h)).mk (kd := 2) (by omega) hh rfl (by decide) p2 (fun e => by omega) (fun _ => p1)).touch).uw s2
end CA
