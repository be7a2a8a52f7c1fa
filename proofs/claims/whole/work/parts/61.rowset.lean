section RS
variable {n q z t p a b e kd pl b0 : Nat} {D : Nat → Prop} {d : AD} {c : CH} {v : Nu} {u : Mu} {w w' : Me}
theorem Loc.rfl {g : Nat} : Loc v v g := ⟨fun x hx hg => ⟨hx, hg, Eq.refl _, Eq.refl _, Eq.refl _, Eq.refl _, Eq.refl _, Eq.refl _, Iff.rfl, fun _ _ => ⟨Eq.refl _, fun _ => Eq.refl _⟩⟩, fun x hx hg => ⟨hx, hg⟩⟩
theorem Inv.wc (h : Inv D n v u w) (hw : ∀ i, w' 45 i = w 45 i) : Inv D n v u w' := by
  obtain ⟨hT, hF, hL, hW, hC, hK, hX⟩ := h
  exact ⟨hT, hF, hL, hW, hC, hK.loc hT hT (fun g _ _ => Loc.rfl) (fun _ _ => rfl) (Nat.le_refl _) (fun _ _ => ⟨rfl, rfl⟩) (fun _ _ _ => rfl) hw, hX⟩
theorem Inv.touch0 {h : Nat} (hI : Inv D0 n v u w) : Inv D0 (n + 1) (tch v h) u w := (hI.dirty (D := fun g => g = h)).touch
def wz (w : Me) (K k : Nat) : Me := fun f j => if f = 13 ∧ 32 * K ≤ j ∧ j < 32 * K + k then 0 else w f j
theorem wz_s {K k : Nat} : zu (wz w K k) 13 (32 * K + k) 0 = wz w K (k + 1) := by
  funext f j
  simp only [zu, wz]
  by_cases e : f = 13
  · subst e
    by_cases e1 : j = 32 * K + k
    · subst e1
      simp
    · by_cases e2 : 32 * K ≤ j ∧ j < 32 * K + k
      · rw [if_neg (by omega), if_pos ⟨rfl, e2⟩, if_pos (by omega)]
      · rw [if_neg (by omega), if_neg (by omega), if_neg (by omega)]
  · rw [if_neg (fun h => e h.1), if_neg (fun h => e h.1), if_neg (fun h => e h.1)]
theorem s_row_134 {K len : Nat} (hK : K < 2400) (hl : len ≤ 32) : ∀ (m k n : Nat), k + m = len → m < n → fX11_row_134 n q (nI t) (nI len) (nI K) (nI k) (mB q z u (wz w K k)) = (b1 (gA 11 30 q (mB q z u (wz w K len))) fun a2 => (b1 (gA 11 1 q (mB q z u (wz w K len))) fun a3 => (b1 (xI 12 a3 (nI t) (mB q z u (wz w K len))) fun x4 => (b1 (xI 12 a2 x4 (mB q z u (wz w K len))) fun x5 => (b1 (yI a2 x4 (x5 + 1) (mB q z u (wz w K len))) fun s6 => some (1, s6)))))) := by
  intro m
  induction m with
  | zero =>
    intro k n e1 e2
    obtain ⟨n, rfl⟩ : ∃ n', n = n' + 1 := ⟨n - 1, by omega⟩
    have : k = len := by omega
    subst this
    rw [fX11_row_134, if_pos (Int32.le_refl _)]
  | succ m ih =>
    intro k n e1 e2
    obtain ⟨n, rfl⟩ : ∃ n', n = n' + 1 := ⟨n - 1, by omega⟩
    rw [fX11_row_134, nI_ifle (by omega) (by omega), if_neg (by omega), mA13, b1_s, n32, mY13 (mC_n (show 32 * K + k < 76800 by omega) (by decide)), b1_s, nI_c (by omega), wz_s, nI_1]
    exact ih (k + 1) n (by omega) (by omega)
theorem st_row : st4 (Jx b0 q) b0 q fX10_row fX11_row := by
  intro n x y v1 v2 v3 v4 hn hJ
  obtain ⟨d, c, v, u, w, z, rfl, rfl, rfl, R, hN, hI⟩ := id hJ
  have hF := R.2.1
  have hX := R.2.2.1
  have hT := hI.1
  have hb := hT.1
  unfold fX10_row fX11_row
  rw [qa_100_0 hF hX, b1_s, qt_101 hF, b1_s, mtg, b1_s]
  rcases b_place (q := q) (z := z) R hT hN v1 v2 with ⟨e1, e2, e2'⟩ | ⟨t, ht, h7, rfl, e1, e2', ⟨h0, h3, e3, e4, e5⟩ | ⟨h0, e3, hpl⟩⟩
  · rw [e1, b2_s, oe_0, e2', b2_s, if_pos rfl]
    exact b_ref 0 R hN hI (by decide) (by decide)
  · rw [e1, b2_s, oe_1, g_tg R ht, b1_s, e3, b2_s, if_pos rfl, e2', b2_s, if_neg (by decide), mtg, b1_s, s_hasPlaces hT hN ht, b2_s, if_neg h0, if_pos rfl]
    exact b_ref 1 R hN hI (by decide) (by decide)
  obtain ⟨k0, k1, k3, k7, -⟩ := hT.k ht
  rw [e1, b2_s, oe_1, g_tg R ht, b1_s, e3, b2_s, if_neg (show ¬ (1 : Int32) = 0 by decide), e2', b2_s, if_neg (show ¬ (1 : Int32) = 0 by decide), mtg, b1_s, s_hasPlaces hT hN ht, b2_s, if_pos h0, if_neg (show ¬ (1 : Int32) = 0 by decide)]
  rcases inOut v3 (n := 4) (by decide) with ho | ⟨sort, hs, rfl⟩
  · have f1 : fX11_isIn v3 4 (mB q z u w) = some (0, mB q z u w) := isIn_o (n := 4) (by decide) ho
    rw [f1, b2_s, if_pos rfl]
    by_cases hlt : v3 < 0
    · rw [if_pos hlt]
      exact b_ref 1 R hN hI (by decide) (by decide)
    · rw [if_neg hlt, if_neg]
      · exact b_ref 1 R hN hI (by decide) (by decide)
      · intro h
        have := ho.resolve_left hlt
        rw [fa_le] at h this
        have t3 : (3 : Int32).toInt = 3 := rfl
        have t4 : (nI 4).toInt = 4 := rfl
        omega
  have f1 : fX11_isIn (nI sort) 4 (mB q z u w) = some (1, mB q z u w) := isIn_n (n := 4) hs (by decide)
  rw [f1, b2_s, if_neg (show ¬ (1 : Int32) = 0 by decide), if_neg (nI_pos (by omega)), if_pos (show nI sort ≤ 3 from nI_le (b := 3) (by omega) (by decide)), g_tg R ht, b1_s, mA3, b1_s, mX3, mI_n (by omega) (by decide), b1_s, hN.k3]
  rcases hpl with ⟨hy, e4, e5⟩ | ⟨p, hp, rfl, e4, e5⟩
  · rw [e4, b2_s, if_pos rfl, isIn_o (by omega) hy, b2_s, if_pos rfl]
    exact b_ref 2 R hN hI (by decide) (by decide)
  rw [e4, b2_s, if_neg (show ¬ (1 : Int32) = 0 by decide), isIn_n hp (by omega), b2_s, if_neg (show ¬ (1 : Int32) = 0 by decide)]
  rcases lim 0 32 v4 (by decide) (by decide) with ⟨l1, -⟩ | hl
  · rw [if_neg (show ¬ (0 : Int32) ≤ v4 from l1), if_neg (show ¬ (0 : Int32) ≤ v4 from l1)]
    exact b_ref 3 R hN hI (by decide) (by decide)
  have l1 : (0 : Int32) ≤ v4 := by
    rcases hl with ⟨l1, -⟩ | ⟨pl, -, -, -, l1, -⟩
    · exact l1
    · exact l1
  rw [if_pos l1, if_pos l1, qt_100 hF, b1_s, mtg, b1_s]
  haveI := Classical.propDecidable (Near v t)
  obtain ⟨c1, u1, n1, n2, R1, hN1, hu1⟩ := b_near (q := q) (z := z) R hT hN ht
  have hI1 := hI.uw hu1
  rw [n1, b2_s, n2, b2_s]
  by_cases ne : Near v t
  rotate_left
  · rw [if_neg ne, if_pos rfl, if_pos rfl]
    exact b_ref 4 R1 hN1 hI1 (by decide) (by decide)
  rw [if_pos ne, if_neg (show ¬ (1 : Int32) = 0 by decide), if_neg (show ¬ (1 : Int32) = 0 by decide)]
  rcases hl with ⟨-, -, l2, l3⟩ | ⟨len, -, p2, rfl, -, -, l2, l3⟩
  · rw [if_neg (show ¬ v4 ≤ (32 : Int32) from l2), if_neg (show ¬ v4 ≤ (32 : Int32) from l2)]
    exact b_ref 5 R1 hN1 hI1 (by decide) (by decide)
  rw [if_pos (show nI len ≤ (32 : Int32) from l2), if_pos (show nI len ≤ (32 : Int32) from l2)]
  obtain ⟨i10, i11, i12⟩ := plc_in (v := v) (t := t) (p := p) (a := 2) (b := sort) (e := len)
  obtain ⟨d', c2, x1, hE, R2⟩ := e_row (v' := plc v t p 2 sort len) (w' := wz w (8 * t + p) len) (K := fun s31 => (b1 (gI 5 2 (da d 1 t) s31) fun x32 => (b1 (tg 10 (da d 100 0) s31) fun _ => (b2 (fX10_touch (da d 100 0) x32 s31) fun _ s35 => some (1, s35))))) R1 hT ht hp p2 (fun k i h => plc_n h) ⟨i10, i11, i12⟩ (fun i hi => by simp only [wz]; rw [if_neg (by omega)]) (fun i hi => by simp only [wz]; rw [if_pos ⟨trivial, by omega, by omega⟩])
  have hE100 := (hE 100 0 (f100 hF)).1
  have hEt := (hE 1 t (R1.t ht).1).1
  obtain ⟨c3, r2, R3⟩ := e_touch2 R2 k1
  have gh : gI 5 2 (da d' 1 t) (cB d' c2) = some (nI (v 1 t)) := g_host (v := plc v t p 2 sort len) R2 ht
  have x2 : (b1 (gI 5 2 (da d 1 t) (cB d' c2)) fun x32 => (b1 (tg 10 (da d 100 0) (cB d' c2)) fun _ => (b2 (fX10_touch (da d 100 0) x32 (cB d' c2)) fun _ s35 => some ((1 : Int32), s35)))) = some (1, cB d' c3) := by
    rw [← hEt, ← hE100, gh, b1_s, qt_100 R2.2.1, b1_s, r2, b2_s]
  have hN3 : Nv (plc v t p 2 sort len) (zu (zu (zu u1 10 (8 * t + p) 2) 11 (8 * t + p) (nI sort)) 12 (8 * t + p) (nI len)) := ((hN1.wr (by rw [dv_n rfl]; rfl)).wr (by rw [dv_n rfl])).wr (by rw [dv_n rfl])
  have hI5 := hI1.place0 (a := 2) (b := sort) (e := len) ht hp h7 (by decide) (fun e => by omega) (fun _ => ⟨by omega, p2⟩)
  have hTp : iT (plc v t p 2 sort len) := hI5.1
  obtain ⟨u4, y2, hN4, hu4⟩ := s_cnt (q := q) (z := z) (w := wz w (8 * t + p) len) (t := t) (K := fun s => some (1, s)) hN3 hTp ht
  have y3 := s_row_134 (q := q) (z := z) (u := zu (zu (zu u1 10 (8 * t + p) 2) 11 (8 * t + p) (nI sort)) 12 (8 * t + p) (nI len)) (w := w) (t := t) (K := 8 * t + p) (len := len) (by omega) p2 len 0 100000 (by omega) (by omega)
  have w0 : wz w (8 * t + p) 0 = w := by
    funext f j
    simp only [wz]
    rw [if_neg (by omega)]
  rw [w0] at y3
  rw [x1, n8, mA10, b1_s, mY10 (mC_n (show 8 * t + p < 2400 by omega) (by decide)), b1_s, nI_c (by omega), mA11, b1_s, mY11 (mC_n (show 8 * t + p < 2400 by omega) (by decide)), b1_s, nI_c (by omega), mA12, b1_s, mY12 (mC_n (show 8 * t + p < 2400 by omega) (by decide)), b1_s, nI_c (by omega)]
  have hu : ∀ i, u4 2 i = u1 2 i := fun i => (hu4 i).trans rfl
  refine ⟨_, _, _, x2, y3.trans y2, rfl, d', c3, _, u4, wz w (8 * t + p) len, z, rfl, rfl, hE100, R3.uw hu (fun _ => rfl), hN4, ?_⟩
  refine (hI5.uw hu).wc (fun i => ?_)
  simp only [wz]
  rw [if_neg (by omega)]
theorem st_set : st6 (Jx b0 q) b0 q fX10_set fX11_set := by
  intro n x y v1 v2 v3 v4 hn hJ
  obtain ⟨d, c, v, u, w, z, rfl, rfl, rfl, R, hN, hI⟩ := id hJ
  have hF := R.2.1
  have hX := R.2.2.1
  have hT := hI.1
  have hb := hT.1
  unfold fX10_set fX11_set
  rw [qa_100_0 hF hX, b1_s, qt_101 hF, b1_s, mtg, b1_s]
  rcases b_place (q := q) (z := z) R hT hN v1 v2 with ⟨e1, e2, e2'⟩ | ⟨t, ht, h7, rfl, e1, e2', ⟨h0, h3, e3, e4, e5⟩ | ⟨h0, e3, hpl⟩⟩
  · rw [e1, b2_s, oe_0, e2', b2_s, if_pos rfl]
    exact b_ref 0 R hN hI (by decide) (by decide)
  · rw [e1, b2_s, oe_1, g_tg R ht, b1_s, e3, b2_s, if_pos rfl, e2', b2_s, if_neg (by decide), mtg, b1_s, s_hasPlaces hT hN ht, b2_s, if_neg h0, if_pos rfl]
    exact b_ref 1 R hN hI (by decide) (by decide)
  obtain ⟨k0, k1, k3, k7, -⟩ := hT.k ht
  rw [e1, b2_s, oe_1, g_tg R ht, b1_s, e3, b2_s, if_neg (show ¬ (1 : Int32) = 0 by decide), e2', b2_s, if_neg (show ¬ (1 : Int32) = 0 by decide), mtg, b1_s, s_hasPlaces hT hN ht, b2_s, if_pos h0, if_neg (show ¬ (1 : Int32) = 0 by decide), g_tg R ht, b1_s, mA3, b1_s, mX3, mI_n (by omega) (by decide), b1_s, hN.k3]
  rcases hpl with ⟨hy, e4, e5⟩ | ⟨p, hp, rfl, e4, e5⟩
  · rw [e_thingAtO R ht hy, b2_s, oe_0, g_tg R ht, b1_s, e4, b2_s, if_pos rfl, isIn_o (by omega) hy, b2_s, if_pos rfl]
    unfold fX11_set_57
    rw [mA3, b1_s, mX3, mI_n (by omega) (by decide), b1_s, hN.k3, isIn_o (by omega) hy, b2_s, if_pos rfl]
    exact b_ref 2 R hN hI (by decide) (by decide)
  obtain ⟨p1, p2, p3⟩ := hT.pl ht hp
  rw [e_thingAt R ht k3 hp, b2_s, isIn_n hp (by omega), b2_s, if_neg (show ¬ (1 : Int32) = 0 by decide), mA10, b1_s, n8, mX10, mI_n (by omega) (by decide), b1_s, hN.k10, nI_if1 (by omega)]
  by_cases g1 : v 10 (8 * t + p) = 1
  · rw [if_pos g1, if_pos g1, oe_1]
    exact b_ref 1 R hN hI (by decide) (by decide)
  rw [if_neg g1, if_neg g1, oe_0, g_tg R ht, b1_s, e4, b2_s, if_neg (show ¬ (1 : Int32) = 0 by decide), g_tg R ht, b1_s, e_rowAt R ht k3 hp, b2_s]
  unfold fX11_set_57
  rw [mA3, b1_s, mX3, mI_n (by omega) (by decide), b1_s, hN.k3, isIn_n hp (by omega), b2_s, if_neg (show ¬ (1 : Int32) = 0 by decide), mA10, b1_s, n8, mX10, mI_n (by omega) (by decide), b1_s, hN.k10, nI_if2 (by omega)]
  haveI := Classical.propDecidable (Near v t)
  obtain ⟨c1, u1, n1, n2, R1, hN1, hu1⟩ := b_near (q := q) (z := z) R hT hN ht
  have hI1 := hI.uw hu1
  by_cases g2 : v 10 (8 * t + p) = 2
  rotate_left
  · have g0 : v 10 (8 * t + p) = 0 := by omega
    rw [if_neg g2, R.noRow ht hp g2]
    show ∃ r x' y', oe none _ _ = _ ∧ _
    rw [oe_0]
    unfold fX10_set_90 fX11_set_117
    rw [qt_100 hF, b1_s, mtg, b1_s, n1, b2_s, n2, b2_s]
    by_cases ne : Near v t
    · rw [if_pos ne, if_neg (show ¬ (1 : Int32) = 0 by decide), if_neg (show ¬ (1 : Int32) = 0 by decide), oe_0, mA10, b1_s, mX10, mI_n (by omega) (by decide), b1_s, hN1.k10, nI_if0 (by omega), if_pos g0]
      exact b_ref 6 R1 hN1 hI1 (by decide) (by decide)
    · rw [if_neg ne, if_pos rfl, if_pos rfl]
      exact b_ref 4 R1 hN1 hI1 (by decide) (by decide)
  obtain ⟨r, r1, r2, r2', r4, r5, r6, r7, r8⟩ := R.rowAt ht hp g2
  obtain ⟨h11, h32⟩ := p3 g2
  rw [if_pos g2, r1]
  show ∃ r x' y', oe (some (da d 11 _)) _ _ = _ ∧ _
  rw [oe_1, ctg (t := 4) r2 rfl, b1_s, e_hasElement r5 r6, b2_s, mA12, b1_s, mX12, mI_n (by omega) (by decide), b1_s, hN.k12]
  rcases inOut v3 (n := v 12 (8 * t + p)) (by omega) with ho | ⟨i, hi, rfl⟩
  · rw [if_pos ho, if_pos rfl, isIn_o (by omega) ho, b2_s, if_pos rfl]
    exact b_ref 2 R hN hI (by decide) (by decide)
  rw [inR hi (by omega), if_neg (show ¬ (1 : Int32) = 0 by decide), isIn_n hi (by omega), b2_s, if_neg (show ¬ (1 : Int32) = 0 by decide)]
  unfold fX10_set_90 fX11_set_117
  rw [qt_100 hF, b1_s, mtg, b1_s, n1, b2_s, n2, b2_s]
  by_cases ne : Near v t
  rotate_left
  · rw [if_neg ne, if_pos rfl, if_pos rfl]
    exact b_ref 4 R1 hN1 hI1 (by decide) (by decide)
  have r1' : cQ c1 3 t p = some (11, r) := by
    obtain ⟨c', a1, a2, a3⟩ := e_isNear R hT ht
    have : cB d c' = cB d c1 := by
      rw [a1] at n1
      exact (Prod.mk.inj (Option.some.inj n1)).2
    have h3 : gP 5 4 (da d 1 t) (cB d c') = gP 5 4 (da d 1 t) (cB d c1) := by rw [this]
    have h5 := e_rowAt a3 ht k3 hp
    have h6 := e_rowAt R1 ht k3 hp
    rw [this, h6] at h5
    have h7 := (Prod.mk.inj (Option.some.inj h5)).1
    have h8 : cQ c' 3 t p = some (11, r) := by rw [a2.2.1 3 t p (by decide)]; exact r1
    rw [h8] at h7
    obtain ⟨r9, s1, s2, s3, -⟩ := R1.rowAt ht hp g2
    rw [s1] at h7 ⊢
    have h9 : da d 11 r9 = da d 11 r := Option.some.inj h7
    rw [(da_inj s2 r2).mp h9]
  obtain ⟨c2, x1, R2⟩ := e_write (i := i) (x := v4) R1 hT ht hp g2 r1' hi
  obtain ⟨c3, x2, R3⟩ := e_touch2 R2 k1
  obtain ⟨u4, y2, hN4, hu4⟩ := s_cnt (q := q) (z := z) (w := zu w 13 (32 * (8 * t + p) + i) (lowf (v 11 (8 * t + p)) v4)) (t := t) (K := fun s => some (1, s)) hN1 hT ht
  rw [if_pos ne, if_neg (show ¬ (1 : Int32) = 0 by decide), if_neg (show ¬ (1 : Int32) = 0 by decide), oe_1, ctg (t := 4) r2 rfl, b1_s, x1, b2_s, g_host R2 ht, b1_s, qt_100 hF, b1_s, x2, b2_s, mA10, b1_s, mX10, mI_n (by omega) (by decide), b1_s, hN1.k10, nI_if0 (by omega), if_neg (by omega), mA13, b1_s, mA11, b1_s, mX11, mI_n (by omega) (by decide), b1_s, hN1.k11, s_low h11, b2_s, n32, mY13 (mC_n (show 32 * (8 * t + p) + i < 76800 by omega) (by decide)), b1_s, nI_c (by omega)]
  refine ⟨_, _, _, rfl, y2, rfl, d, c3, _, u4, _, z, rfl, rfl, rfl, R3.uw hu4 (fun _ => rfl), hN4, ?_⟩
  exact ((hI1.touch0).uw hu4).wc (fun _ => rfl)
end RS
