section CP
variable {n q z t p b0 : Nat} {D : Nat → Prop} {d : AD} {c : CH} {v : Nu} {u : Mu} {w w' : Me}
theorem b_near2 [Decidable (Near v t)] (R : RC d c v u w) (hI : iT v) (hN : Nv v u) (ht : t < v 9 0) : ∃ c' u', fX10_isNear (da d 100 0) (some (da d 1 t)) (cB d c) = some (if Near v t then 1 else 0, cB d c') ∧ fX11_isNear q (nI t) (mB q z u w) = some (if Near v t then 1 else 0, mB q z u' w) ∧ RC d c' v u' w ∧ Nv v u' ∧ (∀ i, u' 2 i = u 2 i) ∧ Scc 111 c c' := by
  obtain ⟨c', a1, a2, a3⟩ := e_isNear R hI ht
  obtain ⟨u', b1, b2⟩ := s_isNear (o := q) (z := z) (w := w) hN hI ht
  exact ⟨c', u', a1, b1, a3.uw b2.u2 (fun _ => rfl), hN.sc b2, b2.u2, a2⟩
def wcp (w : Me) (X Y i k : Nat) : Me := fun f j => if f = 13 ∧ 32 * Y ≤ j ∧ j < 32 * Y + k then w 13 (32 * X + i + (j - 32 * Y)) else w f j
theorem wcp_0 {X Y i : Nat} : wcp w X Y i 0 = w := by
  funext f j
  simp only [wcp]
  rw [if_neg (by omega)]
theorem wcp_s {X Y i k : Nat} : zu (wcp w X Y i k) 13 (32 * Y + k) (w 13 (32 * X + i + k)) = wcp w X Y i (k + 1) := by
  funext f j
  simp only [zu, wcp]
  by_cases e : f = 13
  · subst e
    by_cases e1 : j = 32 * Y + k
    · subst e1
      rw [if_pos ⟨rfl, rfl⟩, if_pos ⟨rfl, by omega, by omega⟩, show 32 * Y + k - 32 * Y = k by omega]
    · by_cases e2 : 32 * Y ≤ j ∧ j < 32 * Y + k
      · rw [if_neg (by omega), if_pos ⟨rfl, e2⟩, if_pos (by omega)]
      · rw [if_neg (by omega), if_neg (by omega), if_neg (by omega)]
  · rw [if_neg (fun h => e h.1), if_neg (fun h => e h.1), if_neg (fun h => e h.1)]
theorem wcp_r {X Y i k : Nat} (h : i + k < 32) : wcp w X Y i k 13 (32 * X + i + k) = w 13 (32 * X + i + k) := by
  simp only [wcp]
  rw [if_neg (by omega)]
/-- the copying of the reference -/
theorem s_copy_360 {X Y i m : Nat} (hX : X < 2400) (hY : Y < 2400) (him : i + m ≤ 32) (hne : X ≠ Y) : ∀ (j k n : Nat), k + j = m → j < n → fX11_copy_360 n q (nI t) (nI i) (nI m) (nI X) (nI Y) (nI k) (mB q z u (wcp w X Y i k)) = fX11_copy_409 q (nI t) (mB q z u (wcp w X Y i m)) := by
  intro j
  induction j with
  | zero =>
    intro k n e1 e2
    obtain ⟨n, rfl⟩ : ∃ n', n = n' + 1 := ⟨n - 1, by omega⟩
    have : k = m := by omega
    subst this
    rw [fX11_copy_360, if_pos (Int32.le_refl _)]
  | succ j ih =>
    intro k n e1 e2
    obtain ⟨n, rfl⟩ : ∃ n', n = n' + 1 := ⟨n - 1, by omega⟩
    rw [fX11_copy_360, nI_ifle (by omega) (by omega), if_neg (by omega), nI_ifeq (by omega) (by omega), if_neg hne, mA13, b1_s, b1_s, n32, nI_add, n32, mX13, mL_n (by omega) (by decide), b1_s, wcp_r (by omega), mY13 (mC_n (show 32 * Y + k < 76800 by omega) (by decide)), b1_s, nI_c (by omega), wcp_s, nI_1]
    exact ih (k + 1) n (by omega) (by omega)
theorem s_copy_315 {X i m : Nat} (hX : X < 2400) (him : i + m ≤ 32) : ∀ (j k n : Nat), k + j = m → j < n → fX11_copy_315 n q (nI t) (nI i) (nI m) (nI X) (nI X) (nI k) (mB q z u (wcp w X X i k)) = fX11_copy_409 q (nI t) (mB q z u (wcp w X X i m)) := by
  intro j
  induction j with
  | zero =>
    intro k n e1 e2
    obtain ⟨n, rfl⟩ : ∃ n', n = n' + 1 := ⟨n - 1, by omega⟩
    have : k = m := by omega
    subst this
    rw [fX11_copy_315, if_pos (Int32.le_refl _), fX11_copy_360]
    by_cases h : nI k ≤ 0
    · rw [if_pos h]
    · rw [if_neg h, if_pos rfl]
  | succ j ih =>
    intro k n e1 e2
    obtain ⟨n, rfl⟩ : ∃ n', n = n' + 1 := ⟨n - 1, by omega⟩
    rw [fX11_copy_315, nI_ifle (by omega) (by omega), if_neg (by omega), mA13, b1_s, b1_s, n32, nI_add, n32, mX13, mL_n (by omega) (by decide), b1_s, wcp_r (by omega), mY13 (mC_n (show 32 * X + k < 76800 by omega) (by decide)), b1_s, nI_c (by omega), wcp_s, nI_1]
    exact ih (k + 1) n (by omega) (by omega)
/-- what copy does where one of the places has no ROW -/
theorem b_copy0 {X Y : Nat} {v4 v5 : Int32} {v7 v8 : Option Nat} (R : RC d c v u w) (hN : Nv v u) (hI : Inv D0 n v u w) (ht : t < v 9 0) (hX : X < 2400) (hY : Y < 2400) (bX : v 10 X ≤ 2) (bY : v 10 Y ≤ 2) (h0 : v 10 X = 0 ∨ v 10 Y = 0) : ∃ (r : Int32) (x' y' : Hz), fX10_copy_175 (da d 100 0) v4 v5 (da d 1 t) v7 v8 0 (cB d c) = some (r, x') ∧ fX11_copy_251 q (nI t) v4 v5 (nI X) (nI Y) (mB q z u w) = some (r, y') ∧ zs y' = z ∧ Jx (da d 100 0) q (n + 1) x' y' := by
  have hF := R.2.1
  have hT := hI.1
  unfold fX10_copy_175 fX11_copy_251
  by_cases h5 : 0 ≤ v5
  rotate_left
  · rw [if_neg h5, if_neg h5]
    exact b_ref 3 R hN hI (by decide) (by decide)
  rw [if_pos h5, if_pos h5, qt_100 hF, b1_s, mtg, b1_s]
  haveI := Classical.propDecidable (Near v t)
  obtain ⟨c1, u1, n1, n2, R1, hN1, hu1, -⟩ := b_near2 (q := q) (z := z) R hT hN ht
  have hI1 := hI.uw hu1
  rw [n1, b2_s, n2, b2_s]
  by_cases ne : Near v t
  rotate_left
  · rw [if_neg ne, if_pos rfl, if_pos rfl]
    exact b_ref 4 R1 hN1 hI1 (by decide) (by decide)
  rw [if_pos ne, if_neg (show ¬ (1 : Int32) = 0 by decide), if_neg (show ¬ (1 : Int32) = 0 by decide), if_pos rfl, mA10, b1_s, mX10, mI_n hX (by decide), b1_s, hN1.k10, nI_if0 (by omega)]
  by_cases hx : v 10 X = 0
  · rw [if_pos hx]
    exact b_ref 6 R1 hN1 hI1 (by decide) (by decide)
  · rw [if_neg hx, b1_s, mX10, mI_n hY (by decide), b1_s, hN1.k10, nI_if0 (by omega), if_pos (h0.resolve_left hx)]
    exact b_ref 6 R1 hN1 hI1 (by decide) (by decide)
theorem copy_oe {o : Nat} {v2 v3 v4 v5 : Int32} {a5 : Nat} {r22 r25 : Option Nat} {s : Hz} (h : r22 = none ∨ r25 = none) : ∃ v7 v8, (oe r22 (fX10_copy_91 o v2 v3 v4 v5 a5 none r25 s) fun a27 => (oe r25 (fX10_copy_91 o v2 v3 v4 v5 a5 (some a27) none s) fun a28 => fX10_copy_92 o v2 v3 v4 v5 a5 (some a27) (some a28) 1 s)) = fX10_copy_119 o v2 v3 v4 v5 a5 v7 v8 0 s := by
  cases r22 with
  | none => exact ⟨none, r25, by rw [oe_0, fX10_copy_91, fX10_copy_92, if_pos rfl]⟩
  | some a =>
    have : r25 = none := h.resolve_left (by simp)
    subst this
    exact ⟨some a, none, by rw [oe_1, oe_0, fX10_copy_91, fX10_copy_92, if_pos rfl]⟩
theorem st_copy : st5 (Jx b0 q) b0 q fX10_copy fX11_copy := by
  intro n x y v1 v2 v3 v4 v5 hn hJ
  obtain ⟨d, c, v, u, w, z, rfl, rfl, rfl, R, hN, hI⟩ := id hJ
  have hF := R.2.1
  have hX := R.2.2.1
  have hT := hI.1
  have hb := hT.1
  unfold fX10_copy fX11_copy
  rw [qa_100_0 hF hX, b1_s, qt_101 hF, b1_s, mtg, b1_s]
  rcases b_place (q := q) (z := z) R hT hN v1 v2 with ⟨e1, e2, e2'⟩ | ⟨t, ht, h7, rfl, e1, e2', ⟨h0, h3, e3, e4, e5⟩ | ⟨h0, e3, hpl⟩⟩
  · rw [e1, b2_s, oe_0, e2', b2_s, if_pos rfl]
    exact b_ref 0 R hN hI (by decide) (by decide)
  · rw [e1, b2_s, oe_1, g_tg R ht, b1_s, e3, b2_s, if_pos rfl, e2', b2_s, if_neg (by decide), mtg, b1_s, s_hasPlaces hT hN ht, b2_s, if_neg h0, if_pos rfl]
    exact b_ref 1 R hN hI (by decide) (by decide)
  obtain ⟨k0, k1, k3, k7, -⟩ := hT.k ht
  rw [e1, b2_s, oe_1, g_tg R ht, b1_s, e3, b2_s, if_neg (show ¬ (1 : Int32) = 0 by decide), e2', b2_s, if_neg (show ¬ (1 : Int32) = 0 by decide), mtg, b1_s, s_hasPlaces hT hN ht, b2_s, if_pos h0, if_neg (show ¬ (1 : Int32) = 0 by decide), g_tg R ht, b1_s, mA3, b1_s, mX3, mI_n (by omega) (by decide), b1_s, hN.k3]
  -- the second place
  have sec : ((v3 < 0 ∨ nI (v 3 t) ≤ v3) ∧ fX5_thingAt (da d 1 t) v3 (cB d c) = some (none, cB d c) ∧ fX5_rowAt (da d 1 t) v3 (cB d c) = some (none, cB d c) ∧ fX5_hasPlace (da d 1 t) v3 (cB d c) = some (0, cB d c) ∧ fX11_isIn v3 (nI (v 3 t)) (mB q z u w) = some (0, mB q z u w)) ∨ ∃ p2, p2 < v 3 t ∧ v3 = nI p2 ∧ fX5_thingAt (da d 1 t) v3 (cB d c) = some (if v 10 (8 * t + p2) = 1 then some (da d 1 (v 11 (8 * t + p2))) else none, cB d c) ∧ fX5_rowAt (da d 1 t) v3 (cB d c) = some ((cQ c 3 t p2).map (fun q => da d q.1 q.2), cB d c) ∧ fX5_hasPlace (da d 1 t) v3 (cB d c) = some (1, cB d c) ∧ fX11_isIn v3 (nI (v 3 t)) (mB q z u w) = some (1, mB q z u w) := by
    rcases inOut v3 (n := v 3 t) (by omega) with hy | ⟨p2, hp2, rfl⟩
    · exact Or.inl ⟨hy, e_thingAtO R ht hy, e_rowAtO R ht hy, e_hasPlaceO R ht hy, isIn_o (by omega) hy⟩
    · exact Or.inr ⟨p2, hp2, rfl, e_thingAt R ht k3 hp2, e_rowAt R ht k3 hp2, e_hasPlace R ht k3 hp2, isIn_n hp2 (by omega)⟩
  rcases hpl with ⟨hy, e4, e5⟩ | ⟨p, hp, rfl, e4, e5⟩
  · -- the first place isn't there
    rw [e_thingAtO R ht hy, b2_s, oe_0, g_tg R ht, b1_s, isIn_o (by omega) hy, b2_s, mA3, b1_s, mX3, mI_n (by omega) (by decide), b1_s, hN.k3]
    rcases sec with ⟨hy2, s1, s2, s3, s4⟩ | ⟨p2, hp2, rfl, s1, s2, s3, s4⟩
    · rw [s1, b2_s, oe_0, g_tg R ht, b1_s, e_rowAtO R ht hy, b2_s, g_tg R ht, b1_s, s2, b2_s, s4, b2_s, if_pos rfl]
      obtain ⟨v7, v8, g⟩ := copy_oe (o := da d 100 0) (v2 := v2) (v3 := v3) (v4 := v4) (v5 := v5) (a5 := da d 1 t) (r22 := none) (r25 := none) (s := cB d c) (Or.inl rfl)
      rw [g]
      unfold fX10_copy_119 fX11_copy_85
      rw [g_tg R ht, b1_s, e4, b2_s, if_pos rfl, if_pos rfl]
      unfold fX11_copy_108
      rw [if_pos rfl]
      unfold fX11_copy_164
      rw [if_pos rfl]
      exact b_ref 2 R hN hI (by decide) (by decide)
    · rw [s1, b2_s, s4, b2_s, if_pos rfl]
      unfold fX11_copy_85
      rw [if_neg (show ¬ (1 : Int32) = 0 by decide), n8, mA10, b1_s, mX10, mI_n (by omega) (by decide), b1_s, hN.k10, nI_if1 (by have := (hT.pl ht hp2).1; omega)]
      by_cases g1 : v 10 (8 * t + p2) = 1
      · rw [if_pos g1, if_pos g1, oe_1]
        exact b_ref 1 R hN hI (by decide) (by decide)
      · rw [if_neg g1, if_neg g1, oe_0, g_tg R ht, b1_s, e_rowAtO R ht hy, b2_s, g_tg R ht, b1_s, s2, b2_s]
        obtain ⟨v7, v8, g⟩ := copy_oe (o := da d 100 0) (v2 := v2) (v3 := nI p2) (v4 := v4) (v5 := v5) (a5 := da d 1 t) (r22 := none) (r25 := (cQ c 3 t p2).map (fun q => da d q.1 q.2)) (s := cB d c) (Or.inl rfl)
        rw [g]
        unfold fX10_copy_119 fX11_copy_108
        rw [g_tg R ht, b1_s, e4, b2_s, if_pos rfl, if_pos rfl]
        unfold fX11_copy_164
        rw [if_pos rfl]
        exact b_ref 2 R hN hI (by decide) (by decide)
  obtain ⟨p1, p2', p3⟩ := hT.pl ht hp
  rw [e_thingAt R ht k3 hp, b2_s, isIn_n hp (by omega), b2_s, mA3, b1_s, mX3, mI_n (by omega) (by decide), b1_s, hN.k3]
  by_cases g1 : v 10 (8 * t + p) = 1
  · rw [if_pos g1, oe_1]
    rcases sec with ⟨hy2, s1, s2, s3, s4⟩ | ⟨p2, hp2, rfl, s1, s2, s3, s4⟩
    · rw [s4, b2_s, if_neg (show ¬ (1 : Int32) = 0 by decide), n8, mA10, b1_s, mX10, mI_n (by omega) (by decide), b1_s, hN.k10, nI_if1 (by omega), if_pos g1]
      exact b_ref 1 R hN hI (by decide) (by decide)
    · rw [s4, b2_s, if_neg (show ¬ (1 : Int32) = 0 by decide), n8, mA10, b1_s, mX10, mI_n (by omega) (by decide), b1_s, hN.k10, nI_if1 (by omega), if_pos g1]
      exact b_ref 1 R hN hI (by decide) (by decide)
  rw [if_neg g1, oe_0, g_tg R ht, b1_s]
  rcases sec with ⟨hy2, s1, s2, s3, s4⟩ | ⟨p2, hp2, rfl, s1, s2, s3, s4⟩
  · rw [s1, b2_s, oe_0, g_tg R ht, b1_s, e_rowAt R ht k3 hp, b2_s, g_tg R ht, b1_s, s2, b2_s, s4, b2_s, if_neg (show ¬ (1 : Int32) = 0 by decide), n8, mA10, b1_s, mX10, mI_n (by omega) (by decide), b1_s, hN.k10, nI_if1 (by omega), if_neg g1]
    obtain ⟨v7, v8, g⟩ := copy_oe (o := da d 100 0) (v2 := nI p) (v3 := v3) (v4 := v4) (v5 := v5) (a5 := da d 1 t) (r22 := (cQ c 3 t p).map (fun q => da d q.1 q.2)) (r25 := none) (s := cB d c) (Or.inr rfl)
    rw [g]
    unfold fX10_copy_119 fX11_copy_85
    rw [g_tg R ht, b1_s, e4, b2_s, if_neg (show ¬ (1 : Int32) = 0 by decide), g_tg R ht, b1_s, s3, b2_s, if_pos rfl, if_pos rfl]
    unfold fX11_copy_108
    rw [if_neg (show ¬ (1 : Int32) = 0 by decide), if_pos rfl]
    unfold fX11_copy_164
    rw [if_neg (show ¬ (1 : Int32) = 0 by decide), if_pos rfl]
    exact b_ref 2 R hN hI (by decide) (by decide)
  obtain ⟨q1, q2', q3⟩ := hT.pl ht hp2
  rw [s1, b2_s, s4, b2_s, if_neg (show ¬ (1 : Int32) = 0 by decide), n8, n8, mA10, b1_s, mX10, mI_n (by omega) (by decide), b1_s, hN.k10, nI_if1 (by omega), if_neg g1]
  unfold fX11_copy_85
  rw [if_neg (show ¬ (1 : Int32) = 0 by decide), mA10, b1_s, mX10, mI_n (by omega) (by decide), b1_s, hN.k10, nI_if1 (by omega)]
  by_cases g1' : v 10 (8 * t + p2) = 1
  · rw [if_pos g1', if_pos g1', oe_1]
    exact b_ref 1 R hN hI (by decide) (by decide)
  rw [if_neg g1', if_neg g1', oe_0, g_tg R ht, b1_s, e_rowAt R ht k3 hp, b2_s, g_tg R ht, b1_s, s2, b2_s]
  have e108 : fX11_copy_108 q (nI t) v4 v5 1 1 (nI (8 * t + p)) (nI (8 * t + p2)) (mB q z u w) = (if v 10 (8 * t + p) = 2 then (if v 10 (8 * t + p2) = 2 then (if v 11 (8 * t + p) = v 11 (8 * t + p2) then fX11_copy_164 q (nI t) v4 v5 1 1 (nI (8 * t + p)) (nI (8 * t + p2)) (mB q z u w) else (b1 (tg 11 q (mB q z u w)) fun _ => (b2 (fX11_refuse q (-2) (mB q z u w)) fun x15 s16 => some (x15, s16)))) else fX11_copy_164 q (nI t) v4 v5 1 1 (nI (8 * t + p)) (nI (8 * t + p2)) (mB q z u w)) else fX11_copy_164 q (nI t) v4 v5 1 1 (nI (8 * t + p)) (nI (8 * t + p2)) (mB q z u w)) := by
    unfold fX11_copy_108
    rw [if_neg (show ¬ (1 : Int32) = 0 by decide), if_neg (show ¬ (1 : Int32) = 0 by decide)]
    simp (disch := omega) only [mA10, mA11, b1_s, mX10, mX11, mI_n, hN.k10, hN.k11, nI_if2]
    by_cases gg : v 10 (8 * t + p) = 2
    · rw [if_pos gg, if_pos gg]
      by_cases gg' : v 10 (8 * t + p2) = 2
      · rw [if_pos gg', if_pos gg', nI_ifeq (by have := (p3 gg).1; omega) (by have := (q3 gg').1; omega)]
      · rw [if_neg gg', if_neg gg']
    · rw [if_neg gg, if_neg gg]
  rw [e108]
  by_cases both : v 10 (8 * t + p) = 2 ∧ v 10 (8 * t + p2) = 2
  rotate_left
  · -- not both are rows
    have e164 : fX11_copy_164 q (nI t) v4 v5 1 1 (nI (8 * t + p)) (nI (8 * t + p2)) (mB q z u w) = fX11_copy_251 q (nI t) v4 v5 (nI (8 * t + p)) (nI (8 * t + p2)) (mB q z u w) := by
      unfold fX11_copy_164
      rw [if_neg (show ¬ (1 : Int32) = 0 by decide), if_neg (show ¬ (1 : Int32) = 0 by decide)]
      by_cases h5 : v5 < 0
      · rw [if_pos h5]
      · rw [if_neg h5, mA10, b1_s, mX10, mI_n (by omega) (by decide), b1_s, hN.k10, nI_if2 (by omega)]
        by_cases gg : v 10 (8 * t + p) = 2
        · rw [if_pos gg, b1_s, mX10, mI_n (by omega) (by decide), b1_s, hN.k10, nI_if2 (by omega), if_neg (fun h => both ⟨gg, h⟩)]
        · rw [if_neg gg]
    have eif : (if v 10 (8 * t + p) = 2 then (if v 10 (8 * t + p2) = 2 then (if v 11 (8 * t + p) = v 11 (8 * t + p2) then fX11_copy_164 q (nI t) v4 v5 1 1 (nI (8 * t + p)) (nI (8 * t + p2)) (mB q z u w) else (b1 (tg 11 q (mB q z u w)) fun _ => (b2 (fX11_refuse q (-2) (mB q z u w)) fun x15 s16 => some (x15, s16)))) else fX11_copy_164 q (nI t) v4 v5 1 1 (nI (8 * t + p)) (nI (8 * t + p2)) (mB q z u w)) else fX11_copy_164 q (nI t) v4 v5 1 1 (nI (8 * t + p)) (nI (8 * t + p2)) (mB q z u w)) = fX11_copy_251 q (nI t) v4 v5 (nI (8 * t + p)) (nI (8 * t + p2)) (mB q z u w) := by
      by_cases gg : v 10 (8 * t + p) = 2
      · rw [if_pos gg, if_neg (fun h => both ⟨gg, h⟩), e164]
      · rw [if_neg gg, e164]
    rw [eif]
    have hnone : (cQ c 3 t p).map (fun q => da d q.1 q.2) = none ∨ (cQ c 3 t p2).map (fun q => da d q.1 q.2) = none := by
      by_cases gg : v 10 (8 * t + p) = 2
      · right
        rw [R.noRow ht hp2 (fun h => both ⟨gg, h⟩)]
        rfl
      · left
        rw [R.noRow ht hp gg]
        rfl
    obtain ⟨v7, v8, g⟩ := copy_oe (o := da d 100 0) (v2 := nI p) (v3 := nI p2) (v4 := v4) (v5 := v5) (a5 := da d 1 t) (s := cB d c) hnone
    rw [g]
    unfold fX10_copy_119
    rw [g_tg R ht, b1_s, e4, b2_s, if_neg (show ¬ (1 : Int32) = 0 by decide), g_tg R ht, b1_s, s3, b2_s, if_neg (show ¬ (1 : Int32) = 0 by decide), if_pos rfl]
    exact b_copy0 R hN hI ht (by omega) (by omega) p1 q1 (by omega)
  obtain ⟨gg, gg'⟩ := both
  obtain ⟨r, r1, r2, r2', r4, r5, r6, r7, r8⟩ := R.rowAt ht hp gg
  obtain ⟨r', z1, z2, z2', z4, z5, z6, z7, z8⟩ := R.rowAt ht hp2 gg'
  obtain ⟨h11, h32⟩ := p3 gg
  obtain ⟨h11', h32'⟩ := q3 gg'
  rw [if_pos gg, if_pos gg', r1, z1]
  show ∃ rr x' y', oe (some (da d 11 r)) _ (fun a27 => oe (some (da d 11 r')) _ _) = _ ∧ _
  rw [oe_1, oe_1]
  unfold fX10_copy_92
  rw [if_neg (show ¬ (1 : Int32) = 0 by decide), b1_s, r4, b1_s, b1_s, z4, b1_s, nI_ifeq (by omega) (by omega)]
  by_cases hs : v 11 (8 * t + p) = v 11 (8 * t + p2)
  rotate_left
  · rw [if_neg hs, if_neg hs]
    exact b_ref 1 R hN hI (by decide) (by decide)
  rw [if_pos hs, if_pos hs]
  unfold fX10_copy_119 fX11_copy_164
  rw [g_tg R ht, b1_s, e4, b2_s, if_neg (show ¬ (1 : Int32) = 0 by decide), g_tg R ht, b1_s, s3, b2_s, if_neg (show ¬ (1 : Int32) = 0 by decide), if_neg (show ¬ (1 : Int32) = 0 by decide), if_neg (show ¬ (1 : Int32) = 0 by decide), if_neg (show ¬ (1 : Int32) = 0 by decide)]
  by_cases h5 : v5 < 0
  · rw [if_pos h5, if_pos h5]
    unfold fX10_copy_175 fX11_copy_251
    have h5' : ¬ 0 ≤ v5 := (fa_of_lt h5).2.1
    rw [if_neg h5', if_neg h5']
    exact b_ref 3 R hN hI (by decide) (by decide)
  have h5' : 0 ≤ v5 := fa_of_nlt h5
  rw [if_neg h5, if_neg h5, b1_s, ctg (t := 4) z2 rfl, b1_s]
  simp (disch := omega) only [mA10, mA12, b1_s, mX10, mX12, mI_n, hN.k10, hN.k12, nI_if2]
  rw [if_pos gg, if_pos gg']
  unfold fX4_canTake
  by_cases h4 : v4 < 0
  · rw [if_pos h4, if_pos h4]
    show ∃ rr x' y', b2 (some ((0 : Int32), cB d c)) _ = _ ∧ _
    rw [b2_s, if_pos rfl]
    exact b_ref 2 R hN hI (by decide) (by decide)
  obtain ⟨i, hi, rfl⟩ := nI_of h4
  obtain ⟨m, hm, rfl⟩ := nI_of h5
  rw [if_neg h4, if_neg h4, if_pos h5', b1_s, r5, b1_s, r6, b1_s]
  have hc := lgc (i := i) (m := m) (len := v 12 (8 * t + p)) (by omega) (by omega) (by omega)
  by_cases h6 : v 12 (8 * t + p) < i + m
  · rw [if_pos (hc.mpr h6), if_pos (hc.mpr h6)]
    show ∃ rr x' y', b2 (some ((0 : Int32), cB d c)) _ = _ ∧ _
    rw [b2_s, if_pos rfl]
    exact b_ref 2 R hN hI (by decide) (by decide)
  rw [if_neg (fun h => h6 (hc.mp h)), if_neg (fun h => h6 (hc.mp h)), z5, b1_s, z6, b1_s, nI_iflt (by omega) (by omega), nI_ifle (by omega) (by omega)]
  by_cases h8 : v 12 (8 * t + p2) < m
  · rw [if_pos h8, if_neg (by omega)]
    show ∃ rr x' y', b2 (some ((0 : Int32), cB d c)) _ = _ ∧ _
    rw [b2_s, if_pos rfl]
    exact b_ref 2 R hN hI (by decide) (by decide)
  rw [if_neg h8, if_pos (by omega)]
  show ∃ rr x' y', b2 (some ((1 : Int32), cB d c)) _ = _ ∧ _
  rw [b2_s, if_neg (show ¬ (1 : Int32) = 0 by decide)]
  unfold fX10_copy_175 fX11_copy_251
  rw [if_pos h5', if_pos h5', qt_100 hF, b1_s, mtg, b1_s]
  haveI := Classical.propDecidable (Near v t)
  obtain ⟨c1, u1, n1, n2, R1, hN1, hu1, hsc⟩ := b_near2 (q := q) (z := z) R hT hN ht
  have hI1 := hI.uw hu1
  rw [n1, b2_s, n2, b2_s]
  by_cases ne : Near v t
  rotate_left
  · rw [if_neg ne, if_pos rfl, if_pos rfl]
    exact b_ref 4 R1 hN1 hI1 (by decide) (by decide)
  have r1' : cQ c1 3 t p = some (11, r) := by rw [hsc.2.1 3 t p (by decide)]; exact r1
  have z1' : cQ c1 3 t p2 = some (11, r') := by rw [hsc.2.1 3 t p2 (by decide)]; exact z1
  obtain ⟨c2, x1, R2⟩ := e_take (i := i) (m := m) (w' := wcp w (8 * t + p) (8 * t + p2) i m) R1 hT ht hp hp2 gg gg' r1' z1' (by omega) (by omega) (fun j => by
    simp only [wcp]
    by_cases hj : 32 * (8 * t + p2) ≤ j ∧ j < 32 * (8 * t + p2) + m
    · rw [if_pos ⟨trivial, hj⟩, if_pos hj]
    · rw [if_neg (fun h => hj h.2), if_neg hj])
  obtain ⟨c3, x2, R3⟩ := e_touch2 R2 k1
  rw [if_pos ne, if_neg (show ¬ (1 : Int32) = 0 by decide), if_neg (show ¬ (1 : Int32) = 0 by decide), if_neg (show ¬ (1 : Int32) = 0 by decide), b1_s, ctg (t := 4) z2 rfl, b1_s, x1, b2_s, g_host R2 ht, b1_s, qt_100 hF, b1_s, x2, b2_s]
  simp (disch := omega) only [mA10, b1_s, mX10, mI_n, hN1.k10, nI_if0]
  rw [if_neg (show ¬ v 10 (8 * t + p) = 0 by omega), if_neg (show ¬ v 10 (8 * t + p2) = 0 by omega)]
  have tail : ∃ u4, fX11_copy_409 q (nI t) (mB q z u1 (wcp w (8 * t + p) (8 * t + p2) i m)) = some (1, mB q z u4 (wcp w (8 * t + p) (8 * t + p2) i m)) ∧ Nv (tch v (v 1 t)) u4 ∧ ∀ i, u4 2 i = u1 2 i := s_cnt (K := fun s => some (1, s)) hN1 hT ht
  obtain ⟨u4, y2, hN4, hu4⟩ := tail
  have y1 : (if nI (8 * t + p) = nI (8 * t + p2) then fX11_copy_315 100000 q (nI t) (nI i) (nI m) (nI (8 * t + p)) (nI (8 * t + p2)) 0 (mB q z u1 w) else fX11_copy_360 100000 q (nI t) (nI i) (nI m) (nI (8 * t + p)) (nI (8 * t + p2)) 0 (mB q z u1 w)) = some (1, mB q z u4 (wcp w (8 * t + p) (8 * t + p2) i m)) := by
    rw [nI_ifeq (by omega) (by omega), ← y2]
    by_cases hpp : 8 * t + p = 8 * t + p2
    · rw [if_pos hpp, ← hpp]
      have := s_copy_315 (q := q) (z := z) (u := u1) (w := w) (t := t) (X := 8 * t + p) (i := i) (m := m) (by omega) (by omega) m 0 100000 (by omega) (by omega)
      rw [wcp_0] at this
      exact this
    · rw [if_neg hpp]
      have := s_copy_360 (q := q) (z := z) (u := u1) (w := w) (t := t) (X := 8 * t + p) (Y := 8 * t + p2) (i := i) (m := m) (by omega) (by omega) (by omega) hpp m 0 100000 (by omega) (by omega)
      rw [wcp_0] at this
      exact this
  refine ⟨_, _, _, rfl, y1, rfl, d, c3, _, u4, _, z, rfl, rfl, rfl, R3.uw hu4 (fun _ => rfl), hN4, ?_⟩
  refine ((hI1.touch0).uw hu4).wc (fun j => ?_)
  simp only [wcp]
  rw [if_neg (by omega)]
end CP
