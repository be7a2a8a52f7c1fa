theorem zu_id {α : Type} {f : Nat → Nat → α} {k i : Nat} {x : α} (h : f k i = x) : zu f k i x = f := by
  funext k' i'
  simp only [zu]
  by_cases e : k' = k ∧ i' = i
  · rw [if_pos e, e.1, e.2, h]
  · rw [if_neg e]
section CB2
variable {n q z t p a b e kd pl b0 : Nat} {d : AD} {c : CH} {v : Nu} {u : Mu} {w : Me}
theorem plc_same : plc v t p a b (v 12 (8 * t + p)) = zu (zu v 10 (8 * t + p) a) 11 (8 * t + p) b := zu_id rfl
theorem plc_same0 : plc v t p a (v 11 (8 * t + p)) (v 12 (8 * t + p)) = zu v 10 (8 * t + p) a := by
  rw [plc_same]
  exact zu_id rfl
theorem Inv.place0 (hI : Inv D0 n v u w) (ht : t < v 9 0) (hp : p < v 3 t) (h7 : v 7 t = 0) (ha : a ≤ 2) (h1 : a = 1 → b < v 9 0 ∧ v 1 b = v 1 t ∧ Mt v b) (h2 : a = 2 → b ≤ 3 ∧ e ≤ 32) : Inv D0 (n + 1) (tch (plc v t p a b e) (v 1 t)) u w :=
  ((hI.dirty (D := fun g => g = v 1 t)).atPl ht hp h7 rfl ha (fun e1 => ⟨(h1 e1).1, (h1 e1).2.1, (hI.2.2.2.2.2.2.2.2.2.2 b (h1 e1).2.2).1, hI.2.2.2.2.2.2.2.2.2.2.from (h1 e1).2.2⟩) h2).touch
theorem fresh_cl {h x : Nat} (hF : iF v u) (h300 : v 9 0 < 300) (hpl : pl ≤ 8) (hkd : kd ≠ 3) (hx : Cl (MtE (mkv v kd h pl)) (fun y => y = v 9 0) x) : x = v 9 0 := by
  obtain ⟨f1, f2, f3, f4, f5, f6, f7⟩ := hF _ (Nat.le_refl _) h300
  obtain ⟨t0, t1, t3, t5⟩ := mkv_at (v := v) (kd := kd) (h := h) (pl := pl)
  refine hx (fun x => x = v 9 0) (fun _ h => h) ?_
  rintro x y rfl (hE | ⟨e1, e2⟩)
  · obtain ⟨q, q1, q2, q3⟩ := hE.at
    rw [t3] at q1
    have e10 : mkv v kd h pl 10 (8 * v 9 0 + q) = 0 := f6 q (by omega)
    rw [e10] at q2
    cases q2
  · rw [t0] at e1
    exact absurd e1 hkd
theorem Inv.mkAt (hI : Inv D0 n v u w) (ht : t < v 9 0) (hp : p < v 3 t) (h7 : v 7 t = 0) (h300 : v 9 0 < 300) (hkd : kd ≤ 2) (hpl : pl ≤ 8) (hp0 : kd = 0 → pl = 0) (hp1 : kd = 1 ∨ kd = 2 → 1 ≤ pl) : Inv D0 (n + 1) (tch (plc (mkv v kd (v 1 t) pl) t p 1 (v 9 0) e) (v 1 t)) u w := by
  have hh := (hI.1.k ht).2.1
  have hF := hI.2.1
  obtain ⟨f1, f2, f3, f4, f5, f6, f7⟩ := hF _ (Nat.le_refl _) h300
  obtain ⟨t0, t1, t3, t5⟩ := mkv_at (v := v) (kd := kd) (h := v 1 t) (pl := pl)
  have k1 : mkv v kd (v 1 t) pl 1 t = v 1 t := mkv_n (by omega) (by omega)
  have k3 : mkv v kd (v 1 t) pl 3 t = v 3 t := mkv_n (by omega) (by omega)
  have h1 := (hI.dirty (D := fun g => g = v 1 t)).mk (kd := kd) (pl := pl) h300 hh rfl hkd hpl hp0 hp1
  refine (h1.atPl (by rw [mkv_9]; omega) (by rw [k3]; exact hp) h7 k1 (by decide) (fun _ => ⟨by rw [mkv_9]; omega, by rw [t1, k1], f4, fun x hx => ?_⟩) (fun e => by omega)).touch
  rw [fresh_cl hF h300 hpl (by omega) hx]
  exact ⟨f4, f5⟩
/-- the class: a place holds a thing, or nothing; the HOST's count -/
theorem e_holdCnt {K : Hz → Option (Int32 × Hz)} (y : Option Nat) (R : RC d c v u w) (hT : iT v) (ht : t < v 9 0) (hp : p < v 3 t) (hy : ∀ s, y = some s → s < v 9 0 ∧ a = 1 ∧ b = s) (hy0 : y = none → a = 0) : ∃ c', (b1 (tg 5 (da d 1 t) (cB d c)) fun _ => (b2 (fX5_holdThing (da d 1 t) (nI p) (y.map (da d 1)) (cB d c)) fun _ s33 => (b1 (gI 5 2 (da d 1 t) s33) fun x34 => (b1 (tg 10 (da d 100 0) s33) fun _ => (b2 (fX10_touch (da d 100 0) x34 s33) fun _ s37 => K s37))))) = K (cB d c') ∧ RC d c' (tch (plc v t p a b e) (v 1 t)) u w := by
  obtain ⟨i10, i11, i12⟩ := plc_in (v := v) (t := t) (p := p) (a := a) (b := b) (e := e)
  obtain ⟨c1, r1, R1⟩ := e_holdThing (v' := plc v t p a b e) y R hT ht hp (fun s hs => (hy s hs).1) (fun k i h => plc_n h) (fun s hs => ⟨by rw [i10]; exact (hy s hs).2.1, by rw [i11]; exact (hy s hs).2.2⟩) (fun h => by rw [i10]; exact hy0 h)
  obtain ⟨c2, r2, R2⟩ := e_touch2 R1 (hT.k ht).2.1
  have gh : gI 5 2 (da d 1 t) (cB d c1) = some (nI (v 1 t)) := g_host (v := plc v t p a b e) R1 ht
  rw [g_tg R ht, b1_s, r1, b2_s, gh, b1_s, qt_100 R1.2.1, b1_s, r2, b2_s]
  exact ⟨c2, rfl, R2⟩
/-- the reference: the HOST's count -/
theorem s_cnt {K : Hz → Option (Int32 × Hz)} (hN : Nv v u) (hT : iT v) (ht : t < v 9 0) : ∃ u', (b1 (gA 11 30 q (mB q z u w)) fun a21 => (b1 (gA 11 1 q (mB q z u w)) fun a22 => (b1 (xI 12 a22 (nI t) (mB q z u w)) fun x23 => (b1 (xI 12 a21 x23 (mB q z u w)) fun x24 => (b1 (yI a21 x23 (x24 + 1) (mB q z u w)) fun s25 => K s25))))) = K (mB q z u' w) ∧ Nv (tch v (v 1 t)) u' ∧ ∀ i, u' 2 i = u 2 i := by
  have hb := hT.1
  obtain ⟨w1, w2, hN1⟩ := hN.touch (q := q) (z := z) (w := w) (hT.k ht).2.1
  rw [mA30, b1_s, mA1, b1_s, mX1, mI_n (by omega) (by decide), b1_s, hN.k1, w1, b1_s, w2, b1_s]
  exact ⟨_, rfl, hN1, fun _ => rfl⟩
theorem s_lay {y : Nat} (hN : Nv v u) (hT : iT v) (ht : t < v 9 0) (hp : p < v 3 t) : ∃ u', fX11_lay q (nI t) (nI p) (nI y) (mB q z u w) = some ((), mB q z u' w) ∧ Nv (plc v t p 1 y (v 12 (8 * t + p))) u' ∧ ∀ i, u' 2 i = u 2 i := by
  have hb := hT.1
  have h3 := (hT.k ht).2.2.1
  unfold fX11_lay
  rw [n8, mA10, b1_s, mY10 (mC_n (show 8 * t + p < 2400 by omega) (by decide)), b1_s, mA11, b1_s, mY11 (mC_n (show 8 * t + p < 2400 by omega) (by decide)), b1_s, nI_c (by omega)]
  refine ⟨_, rfl, ?_, fun _ => rfl⟩
  rw [plc_same]
  exact (hN.wr (by rw [dv_n rfl]; rfl)).wr (by rw [dv_n rfl])
theorem st_put : st3 (Jx b0 q) b0 q fX10_put fX11_put := by
  intro n x y v1 v2 v3 hn hJ
  obtain ⟨d, c, v, u, w, z, rfl, rfl, rfl, R, hN, hI⟩ := id hJ
  have hF := R.2.1
  have hX := R.2.2.1
  have hT := hI.1
  have hb := hT.1
  unfold fX10_put fX11_put
  rw [qa_100_0 hF hX, b1_s, qt_101 hF, b1_s, mtg, b1_s]
  rcases b_place (q := q) (z := z) R hT hN v1 v2 with ⟨e1, e2, e2'⟩ | ⟨t, ht, h7, rfl, e1, e2', hpl⟩
  · rw [e1, b2_s, qa_100_0 hF hX, b1_s, qt_101 hF, b1_s, e2', b2_s, if_pos rfl]
    rcases b_there (q := q) (z := z) R hT hN v3 with ⟨s, hs, s7, rfl, f1, -⟩ | ⟨f1, -⟩
    · rw [f1, b2_s, oe_0]
      exact b_ref 0 R hN hI (by decide) (by decide)
    · rw [f1, b2_s, oe_0]
      exact b_ref 0 R hN hI (by decide) (by decide)
  rw [e1, b2_s, qa_100_0 hF hX, b1_s, qt_101 hF, b1_s, e2', b2_s, if_neg (show ¬ (1 : Int32) = 0 by decide), mtg, b1_s]
  rcases b_there (q := q) (z := z) R hT hN v3 with ⟨s, hs, s7, rfl, f1, f2⟩ | ⟨f1, f2⟩
  rotate_left
  · rw [f1, b2_s, oe_1, oe_0, f2, b2_s, if_pos rfl]
    exact b_ref 0 R hN hI (by decide) (by decide)
  rw [f1, b2_s, oe_1, oe_1, f2, b2_s, if_neg (show ¬ (1 : Int32) = 0 by decide), mtg, b1_s, g_tg R ht, b1_s]
  rcases hpl with ⟨h0, h3, e3, e4, e5⟩ | ⟨h0, e3, ⟨hy, e4, e5⟩ | ⟨p, hp, rfl, e4, e5⟩⟩
  · rw [e3, b2_s, if_pos rfl, e5, b2_s, if_neg (by decide)]
    exact b_ref 1 R hN hI (by decide) (by decide)
  · rw [e3, b2_s, if_neg (show ¬ (1 : Int32) = 0 by decide), g_tg R ht, b1_s, e4, b2_s, if_pos rfl, e5, b2_s, if_neg (by decide)]
    exact b_ref 2 R hN hI (by decide) (by decide)
  have k1 := (hT.k ht).2.1
  have k1' := (hT.k hs).2.1
  rw [e3, b2_s, if_neg (show ¬ (1 : Int32) = 0 by decide), g_tg R ht, b1_s, e4, b2_s, if_neg (show ¬ (1 : Int32) = 0 by decide), g_host R ht, b1_s, g_host R hs, b1_s, e5, b2_s, if_pos rfl]
  simp (disch := omega) only [mA1, b1_s, mX1, mI_n, hN.k1]
  rw [nI_ifeq (by omega) (by omega), nI_ifeq (by omega) (by omega)]
  by_cases hh : v 1 t = v 1 s
  rotate_left
  · rw [if_neg hh, if_neg hh]
    exact b_ref 4 R hN hI (by decide) (by decide)
  rw [if_pos hh, if_pos hh, qt_100 hF, b1_s, mtg, b1_s]
  haveI := Classical.propDecidable (Near v t)
  haveI := Classical.propDecidable (Near v s)
  obtain ⟨c1, u1, n1, n2, R1, hN1, hu1⟩ := b_near (q := q) (z := z) R hT hN ht
  rw [n1, b2_s, n2, b2_s]
  by_cases ne : Near v t
  rotate_left
  · rw [if_neg ne, if_pos rfl, if_pos rfl]
    exact b_ref 4 R1 hN1 (hI.uw hu1) (by decide) (by decide)
  rw [if_pos ne, if_neg (show ¬ (1 : Int32) = 0 by decide), if_neg (show ¬ (1 : Int32) = 0 by decide), qt_100 hF, b1_s, mtg, b1_s]
  obtain ⟨c2, u2, n3, n4, R2, hN2, hu2⟩ := b_near (q := q) (z := z) R1 hT hN1 hs
  rw [n3, b2_s, n4, b2_s]
  by_cases ne2 : Near v s
  rotate_left
  · rw [if_neg ne2, if_pos rfl, if_pos rfl]
    exact b_ref 4 R2 hN2 ((hI.uw hu1).uw hu2) (by decide) (by decide)
  rw [if_pos ne2, if_neg (show ¬ (1 : Int32) = 0 by decide), if_neg (show ¬ (1 : Int32) = 0 by decide)]
  obtain ⟨c3, x1, R3⟩ := e_holdCnt (a := 1) (b := s) (e := v 12 (8 * t + p)) (K := fun s => some (1, s)) (some s) R2 hT ht hp (fun s' h => by cases h; exact ⟨hs, rfl, rfl⟩) (fun h => by cases h)
  obtain ⟨u3, y1, hN3, hu3⟩ := s_lay (q := q) (z := z) (w := w) (y := s) hN2 hT ht hp
  have hTp : iT (plc v t p 1 s (v 12 (8 * t + p))) := (hI.place0 (a := 1) (b := s) (e := v 12 (8 * t + p)) ht hp h7 (by decide) (fun _ => ⟨hs, hh.symm, ne2.mt⟩) (fun e => by omega)).1
  obtain ⟨u4, y2, hN4, hu4⟩ := s_cnt (q := q) (z := z) (w := w) (t := t) (K := fun s => some (1, s)) hN3 hTp ht
  rw [mtg, b1_s, y1, b2_s]
  have hu : ∀ i, u4 2 i = u2 2 i := fun i => (hu4 i).trans (hu3 i)
  refine ⟨_, _, _, x1, y2, rfl, d, c3, _, u4, w, z, rfl, rfl, rfl, R3.uw hu (fun _ => rfl), hN4, ?_⟩
  exact (hI.place0 ht hp h7 (by decide) (fun _ => ⟨hs, hh.symm, ne2.mt⟩) (fun e => by omega)).uw (fun i => (hu i).trans ((hu2 i).trans (hu1 i)))
theorem st_clear : st2 (Jx b0 q) b0 q fX10_clear fX11_clear := by
  intro n x y v1 v2 hn hJ
  obtain ⟨d, c, v, u, w, z, rfl, rfl, rfl, R, hN, hI⟩ := id hJ
  have hF := R.2.1
  have hX := R.2.2.1
  have hT := hI.1
  have hb := hT.1
  unfold fX10_clear fX11_clear
  rw [qa_100_0 hF hX, b1_s, qt_101 hF, b1_s, mtg, b1_s]
  rcases b_place (q := q) (z := z) R hT hN v1 v2 with ⟨e1, e2, e2'⟩ | ⟨t, ht, h7, rfl, e1, e2', ⟨h0, h3, e3, e4, e5⟩ | ⟨h0, e3, ⟨hy, e4, e5⟩ | ⟨p, hp, rfl, e4, e5⟩⟩⟩
  · rw [e1, b2_s, oe_0, e2, b2_s, if_neg (by decide)]
    exact b_ref 0 R hN hI (by decide) (by decide)
  · rw [e1, b2_s, oe_1, g_tg R ht, b1_s, e3, b2_s, if_pos rfl, e5, b2_s, if_neg (by decide)]
    exact b_ref 1 R hN hI (by decide) (by decide)
  · rw [e1, b2_s, oe_1, g_tg R ht, b1_s, e3, b2_s, if_neg (show ¬ (1 : Int32) = 0 by decide), g_tg R ht, b1_s, e4, b2_s, if_pos rfl, e5, b2_s, if_neg (by decide)]
    exact b_ref 2 R hN hI (by decide) (by decide)
  obtain ⟨k0, k1, k3, k7, -⟩ := hT.k ht
  obtain ⟨p1, p2, p3⟩ := hT.pl ht hp
  rw [e1, b2_s, oe_1, g_tg R ht, b1_s, e3, b2_s, if_neg (show ¬ (1 : Int32) = 0 by decide), g_tg R ht, b1_s, e4, b2_s, if_neg (show ¬ (1 : Int32) = 0 by decide), e5, b2_s, if_pos rfl, qt_100 hF, b1_s, mtg, b1_s]
  haveI := Classical.propDecidable (Near v t)
  obtain ⟨c1, u1, n1, n2, R1, hN1, hu1⟩ := b_near (q := q) (z := z) R hT hN ht
  rw [n1, b2_s, n2, b2_s]
  by_cases ne : Near v t
  rotate_left
  · rw [if_neg ne, if_pos rfl, if_pos rfl]
    exact b_ref 4 R1 hN1 (hI.uw hu1) (by decide) (by decide)
  rw [if_pos ne, if_neg (show ¬ (1 : Int32) = 0 by decide), if_neg (show ¬ (1 : Int32) = 0 by decide), g_tg R1 ht, b1_s, mA10, b1_s, n8, mX10, mI_n (by omega) (by decide), b1_s, hN1.k10, nI_if0 (by omega)]
  have hn0 : fX5_holdsNothing (da d 1 t) (nI p) (cB d c1) = some (if v 10 (8 * t + p) = 0 then 1 else 0, cB d c1) := by
    unfold fX5_holdsNothing
    rw [g_tg R1 ht, b1_s, e_thingAt R1 ht k3 hp, b2_s]
    rcases (show v 10 (8 * t + p) = 0 ∨ v 10 (8 * t + p) = 1 ∨ v 10 (8 * t + p) = 2 by omega) with h | h | h
    · rw [if_neg (by omega), oe_0, g_tg R1 ht, b1_s, e_rowAt R1 ht k3 hp, b2_s, R1.noRow ht hp (by omega), if_pos h]
      rfl
    · rw [if_pos h, oe_1, if_neg (by omega)]
      rfl
    · obtain ⟨r, r1, -⟩ := R1.rowAt ht hp h
      rw [if_neg (by omega), oe_0, g_tg R1 ht, b1_s, e_rowAt R1 ht k3 hp, b2_s, r1, if_neg (by omega)]
      rfl
  rw [hn0, b2_s]
  by_cases h0' : v 10 (8 * t + p) = 0
  · rw [if_pos h0', if_pos h0', if_neg (show ¬ (1 : Int32) = 0 by decide)]
    exact b_ref 6 R1 hN1 (hI.uw hu1) (by decide) (by decide)
  rw [if_neg h0', if_neg h0', if_pos rfl]
  obtain ⟨c3, x1, R3⟩ := e_holdCnt (a := 0) (b := v 11 (8 * t + p)) (e := v 12 (8 * t + p)) (K := fun s => some (1, s)) none R1 hT ht hp (fun s' h => by cases h) (fun _ => rfl)
  have hTp : iT (plc v t p 0 (v 11 (8 * t + p)) (v 12 (8 * t + p))) := (hI.place0 (a := 0) (b := v 11 (8 * t + p)) (e := v 12 (8 * t + p)) ht hp h7 (by decide) (fun e => by omega) (fun e => by omega)).1
  have hN3 : Nv (plc v t p 0 (v 11 (8 * t + p)) (v 12 (8 * t + p))) (zu u1 10 (8 * t + p) 0) := by
    rw [plc_same0]
    exact hN1.wr (by rw [dv_n rfl]; rfl)
  obtain ⟨u4, y2, hN4, hu4⟩ := s_cnt (q := q) (z := z) (w := w) (t := t) (K := fun s => some (1, s)) hN3 hTp ht
  rw [b1_s, mY10 (mC_n (show 8 * t + p < 2400 by omega) (by decide)), b1_s, nI_c (by omega)]
  have hu : ∀ i, u4 2 i = u1 2 i := fun i => (hu4 i).trans rfl
  refine ⟨_, _, _, x1, y2, rfl, d, c3, _, u4, w, z, rfl, rfl, rfl, R3.uw hu (fun _ => rfl), hN4, ?_⟩
  exact (hI.place0 ht hp h7 (by decide) (fun e => by omega) (fun e => by omega)).uw (fun i => (hu i).trans (hu1 i))
end CB2
