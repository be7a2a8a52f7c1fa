/-! Calls that change nothing. -/
/-- a loop that looks for the first -/
theorem zfirst {β : Type} {F : Nat → Int32 → β} {p : Nat → Bool} {A : Nat → β} {B : β} {N : Nat} (step : ∀ n k, k < N → F (n + 1) (nI k) = if p k = true then A k else F n (nI (k + 1))) (done : ∀ n, F (n + 1) (nI N) = B) {m : Nat} (hm : N < m) : F m (nI 0) = if fa_first p N < N then A (fa_first p N) else B := by
  have h1 := fa_first_no p N
  have h2 := fa_first_yes p N
  have h3 := fa_first_le p N
  have key : ∀ (j k n : Nat), k + j = N → j < n → k ≤ fa_first p N → F n (nI k) = if fa_first p N < N then A (fa_first p N) else B := by
    intro j
    induction j with
    | zero =>
      intro k n e1 e2 e3
      obtain ⟨n, rfl⟩ : ∃ n', n = n' + 1 := ⟨n - 1, by omega⟩
      have : k = N := by omega
      subst this
      rw [done, if_neg (by omega)]
    | succ j ih =>
      intro k n e1 e2 e3
      obtain ⟨n, rfl⟩ : ∃ n', n = n' + 1 := ⟨n - 1, by omega⟩
      rw [step n k (by omega)]
      by_cases e : fa_first p N = k
      · have hk : fa_first p N < N := by omega
        have := h2 hk
        rw [if_pos (by rw [← e]; exact this), if_pos hk, e]
      · have := h1 k (by omega)
        rw [if_neg (by rw [this]; decide)]
        exact ih (k + 1) n (by omega) (by omega) (by omega)
  exact key N 0 m (by omega) hm (by omega)
/-- a loop that adds up -/
theorem zsum {β : Type} {F : Nat → Int32 → Int32 → β} {f : Nat → Nat} {G : Int32 → β} {N : Nat} (step : ∀ n a k, k < N → F (n + 1) a (nI k) = F n (a + nI (f k)) (nI (k + 1))) (done : ∀ n a, F (n + 1) a (nI N) = G a) {m : Nat} (hm : N < m) (a : Int32) : F m a (nI 0) = G (a + nI (fb_sm f N)) := by
  have key : ∀ (j k n : Nat), k + j = N → j < n → F n (a + nI (fb_sm f k)) (nI k) = G (a + nI (fb_sm f N)) := by
    intro j
    induction j with
    | zero =>
      intro k n e1 e2
      obtain ⟨n, rfl⟩ : ∃ n', n = n' + 1 := ⟨n - 1, by omega⟩
      have : k = N := by omega
      subst this
      rw [done]
    | succ j ih =>
      intro k n e1 e2
      obtain ⟨n, rfl⟩ : ∃ n', n = n' + 1 := ⟨n - 1, by omega⟩
      rw [step n _ k (by omega)]
      have e : a + nI (fb_sm f k) + nI (f k) = a + nI (fb_sm f (k + 1)) := by
        rw [fb_sm_succ, ← nI_add, Int32.add_assoc]
      rw [e]
      exact ih (k + 1) n (by omega) (by omega)
  have e0 : a = a + nI (fb_sm f 0) := by
    show a = a + nI 0
    rw [nI_0, Int32.add_zero]
  have := key N 0 m (by omega) hm
  rw [← e0] at this
  exact this
theorem n8 {t p : Nat} : (8 : Int32) * nI t + nI p = nI (8 * t + p) := by
  show nI 8 * nI t + nI p = _
  rw [pk_mul, nI_add]
theorem n32 {t p : Nat} : (32 : Int32) * nI t + nI p = nI (32 * t + p) := by
  show nI 32 * nI t + nI p = _
  rw [pk_mul, nI_add]
theorem n300 {t p : Nat} : (300 : Int32) * nI t + nI p = nI (300 * t + p) := by
  show nI 300 * nI t + nI p = _
  rw [pk_mul, nI_add]
theorem n5 {t p : Nat} : (5 : Int32) * nI t + nI p = nI (5 * t + p) := by
  show nI 5 * nI t + nI p = _
  rw [pk_mul, nI_add]
section RD
variable {d : AD} {c : CH} {v : Nu} {u : Mu} {w : Me} {q z t b0 : Nat}
/-- the gate of a host for a thing -/
def gp (v : Nu) (x : Int32) (t k : Nat) : Bool := v 7 k == 0 && v 0 k == 3 && decide (nI (v 1 k) = x) && v 5 k == t + 1
def gfi (v : Nu) (x : Int32) (t : Nat) : Nat := fa_first (gp v x t) (v 9 0)
theorem gp_iff {x : Int32} {k : Nat} : gp v x t k = true ↔ v 7 k = 0 ∧ v 0 k = 3 ∧ nI (v 1 k) = x ∧ v 5 k = t + 1 := by
  simp [gp, and_assoc]
theorem e_gateAt {x : Int32} (R : RC d c v u w) (hI : iT v) (ht : t < v 9 0) : fX6_gateAt (da d 101 0) x (some (da d 1 t)) (cB d c) = some (if gfi v x t < v 9 0 then some (da d 1 (gfi v x t)) else none, cB d c) := by
  have hb := hI.1
  have hF := R.2.1
  have h := zfirst (F := fun n k => fX6_gateAt_2 n (da d 101 0) x (some (da d 1 t)) k (cB d c)) (p := gp v x t) (A := fun k => some (some (da d 1 k), cB d c)) (B := some (none, cB d c)) (N := v 9 0)
    (by
      intro n k hk
      obtain ⟨k0, k1, k3, k7, -⟩ := hI.k hk
      show fX6_gateAt_2 (n + 1) (da d 101 0) x (some (da d 1 t)) (nI k) (cB d c) = _
      rw [fX6_gateAt_2, cgI (t := 6) (f101 hF) rfl, b1_s, show cI c 101 0 1 = nI (v 9 0) from R.2.2.2.1.1, nI_ifle (by omega) (by omega), if_neg (by omega), qt_101 hF, b1_s, e_find R hb hk k7, b2_s, nI_1]
      by_cases h7 : v 7 k = 0
      · rw [if_pos h7, oe_1, g_kind R hk, b1_s, nI_if3 (by omega)]
        by_cases h3 : v 0 k = 3
        · obtain ⟨⟨m, m1, m2, -⟩, -⟩ := hI.g hk h3
          rw [if_pos h3, g_host R hk, b1_s]
          by_cases hx : nI (v 1 k) = x
          · rw [if_pos hx, g_named R hk, b1_s, if_neg (show ¬ v 5 k = 0 by omega)]
            have m3 : v 5 k - 1 = m := by omega
            by_cases e : m = t
            · rw [if_pos (by rw [m3, e]), if_pos (gp_iff.mpr ⟨h7, h3, hx, by omega⟩)]
            · have e1 : ¬ some (da d 1 (v 5 k - 1)) = some (da d 1 t) := fun h => e (by rw [m3] at h; exact (da_inj (R.t m2).1 (R.t ht).1).mp (Option.some.inj h))
              rw [if_neg e1, if_neg (fun h => e (by have := (gp_iff.mp h).2.2.2; omega))]
          · rw [if_neg hx, if_neg (fun h => hx (gp_iff.mp h).2.2.1)]
        · rw [if_neg h3, if_neg (fun h => h3 (gp_iff.mp h).2.1)]
      · rw [if_neg h7, oe_0, if_neg (fun h => h7 (gp_iff.mp h).1)])
    (by
      intro n
      show fX6_gateAt_2 (n + 1) (da d 101 0) x (some (da d 1 t)) (nI (v 9 0)) (cB d c) = _
      rw [fX6_gateAt_2, cgI (t := 6) (f101 hF) rfl, b1_s, show cI c 101 0 1 = nI (v 9 0) from R.2.2.2.1.1, if_pos (Int32.le_refl _)])
    (m := 100000) (by omega)
  refine Eq.trans (show _ = fX6_gateAt_2 100000 (da d 101 0) x (some (da d 1 t)) (nI 0) (cB d c) from rfl) (h.trans ?_)
  show (if gfi v x t < v 9 0 then _ else _) = _
  by_cases e : gfi v x t < v 9 0
  · rw [if_pos e, if_pos e]; rfl
  · rw [if_neg e, if_neg e]
theorem s_gateOf {x : Int32} (hI : iT v) (hN : Nv v u) (ht : t < v 9 0) : fX11_gateOf q x (nI t) (mB q z u w) = some (if gfi v x t < v 9 0 then nI (gfi v x t) else -1, mB q z u w) := by
  have hb := hI.1
  have h := zfirst (F := fun n k => fX11_gateOf_2 n q x (nI t) k (mB q z u w)) (p := gp v x t) (A := fun k => some (nI k, mB q z u w)) (B := some (-1, mB q z u w)) (N := v 9 0)
    (by
      intro n k hk
      obtain ⟨k0, k1, k3, k7, -⟩ := hI.k hk
      show fX11_gateOf_2 (n + 1) q x (nI t) (nI k) (mB q z u w) = _
      rw [fX11_gateOf_2]
      simp (disch := omega) only [mG9, mA7, mA0, mA1, mA5, b1_s, mX7, mX0, mX1, mX5, mI_n, hN.k9, hN.k7, hN.k0, hN.k1, hN.k5, nI_1, nI_ifle, nI_if0, nI_if3]
      rw [if_neg (show ¬ v 9 0 ≤ k by omega)]
      by_cases h7 : v 7 k = 0
      · rw [if_pos h7]
        by_cases h3 : v 0 k = 3
        · obtain ⟨⟨m, m1, m2, -⟩, -⟩ := hI.g hk h3
          rw [if_pos h3]
          by_cases hx : nI (v 1 k) = x
          · have m4 : dv 5 (v 5 k) = nI m := by rw [m1, dv_e rfl]
            rw [if_pos hx, m4, nI_ifeq (by omega) (by omega)]
            by_cases e : m = t
            · rw [if_pos e, if_pos (gp_iff.mpr ⟨h7, h3, hx, by omega⟩)]
            · rw [if_neg e, if_neg (fun h => e (by have := (gp_iff.mp h).2.2.2; omega))]
          · rw [if_neg hx, if_neg (fun h => hx (gp_iff.mp h).2.2.1)]
        · rw [if_neg h3, if_neg (fun h => h3 (gp_iff.mp h).2.1)]
      · rw [if_neg h7, if_neg (fun h => h7 (gp_iff.mp h).1)])
    (by
      intro n
      show fX11_gateOf_2 (n + 1) q x (nI t) (nI (v 9 0)) (mB q z u w) = _
      rw [fX11_gateOf_2, mG9, b1_s, hN.k9, if_pos (Int32.le_refl _)])
    (m := 100000) (by omega)
  refine Eq.trans (show _ = fX11_gateOf_2 100000 q x (nI t) (nI 0) (mB q z u w) from rfl) (h.trans ?_)
  show (if gfi v x t < v 9 0 then _ else _) = _
  by_cases e : gfi v x t < v 9 0
  · rw [if_pos e, if_pos e]; rfl
  · rw [if_neg e, if_neg e]
theorem s_gateOfO {x y : Int32} (hI : iT v) (hN : Nv v u) (hy : y < 0 ∨ nI (v 9 0) ≤ y) : fX11_gateOf q x y (mB q z u w) = some (-1, mB q z u w) := by
  have hb := hI.1
  have h := zfirst (F := fun n k => fX11_gateOf_2 n q x y k (mB q z u w)) (p := fun _ => false) (A := fun k => some (nI k, mB q z u w)) (B := some (-1, mB q z u w)) (N := v 9 0)
    (by
      intro n k hk
      obtain ⟨k0, k1, k3, k7, -⟩ := hI.k hk
      show fX11_gateOf_2 (n + 1) q x y (nI k) (mB q z u w) = _
      rw [fX11_gateOf_2]
      simp (disch := omega) only [mG9, mA7, mA0, mA1, mA5, b1_s, mX7, mX0, mX1, mX5, mI_n, hN.k9, hN.k7, hN.k0, hN.k1, hN.k5, nI_1, nI_ifle, nI_if0, nI_if3]
      rw [if_neg (show ¬ v 9 0 ≤ k by omega), if_neg (show ¬ false = true by decide)]
      by_cases h7 : v 7 k = 0
      · rw [if_pos h7]
        by_cases h3 : v 0 k = 3
        · obtain ⟨⟨m, m1, m2, -⟩, -⟩ := hI.g hk h3
          rw [if_pos h3]
          by_cases hx : nI (v 1 k) = x
          · rw [if_pos hx, m1, dv_e rfl, if_neg]
            rintro rfl
            rcases hy with h | h
            · exact nI_pos (by omega) h
            · exact nI_ge m2 (by omega) h
          · rw [if_neg hx]
        · rw [if_neg h3]
      · rw [if_neg h7])
    (by
      intro n
      show fX11_gateOf_2 (n + 1) q x y (nI (v 9 0)) (mB q z u w) = _
      rw [fX11_gateOf_2, mG9, b1_s, hN.k9, if_pos (Int32.le_refl _)])
    (m := 100000) (by omega)
  refine Eq.trans (show _ = fX11_gateOf_2 100000 q x y (nI 0) (mB q z u w) from rfl) (h.trans ?_)
  by_cases e : fa_first (fun _ => false) (v 9 0) < v 9 0
  · have := fa_first_yes (fun _ => false) (v 9 0) e
    cases this
  · rw [if_neg e]
/-- a call that changes nothing -/
theorem same2 {f g : Nat → Int32 → Int32 → Hz → Option (Int32 × Hz)} (H : ∀ (n : Nat) (d : AD) (c : CH) (v : Nu) (u : Mu) (w : Me) (z : Nat) (v1 v2 : Int32), RC d c v u w → Nv v u → Inv D0 n v u w → ∃ r, f (da d 100 0) v1 v2 (cB d c) = some (r, cB d c) ∧ g q v1 v2 (mB q z u w) = some (r, mB q z u w)) : st2 (Jx b0 q) b0 q f g := by
  intro n x y v1 v2 hn hJ
  obtain ⟨d, c, v, u, w, z, rfl, rfl, rfl, R, hN, hI⟩ := id hJ
  obtain ⟨r, h1, h2⟩ := H n d c v u w z v1 v2 R hN hI
  exact ⟨r, _, _, h1, h2, rfl, hJ.up⟩
theorem same1 {f g : Nat → Int32 → Hz → Option (Int32 × Hz)} (H : ∀ (n : Nat) (d : AD) (c : CH) (v : Nu) (u : Mu) (w : Me) (z : Nat) (v1 : Int32), RC d c v u w → Nv v u → Inv D0 n v u w → ∃ r, f (da d 100 0) v1 (cB d c) = some (r, cB d c) ∧ g q v1 (mB q z u w) = some (r, mB q z u w)) : st1 (Jx b0 q) b0 q f g := by
  intro n x y v1 hn hJ
  obtain ⟨d, c, v, u, w, z, rfl, rfl, rfl, R, hN, hI⟩ := id hJ
  obtain ⟨r, h1, h2⟩ := H n d c v u w z v1 R hN hI
  exact ⟨r, _, _, h1, h2, rfl, hJ.up⟩
theorem same7 {f g : Nat → Int32 → Int32 → Int32 → Hz → Option (Int64 × Hz)} (H : ∀ (n : Nat) (d : AD) (c : CH) (v : Nu) (u : Mu) (w : Me) (z : Nat) (v1 v2 v3 : Int32), RC d c v u w → Nv v u → Inv D0 n v u w → ∃ r, f (da d 100 0) v1 v2 v3 (cB d c) = some (r, cB d c) ∧ g q v1 v2 v3 (mB q z u w) = some (r, mB q z u w)) : st7 (Jx b0 q) b0 q f g := by
  intro n x y v1 v2 v3 hn hJ
  obtain ⟨d, c, v, u, w, z, rfl, rfl, rfl, R, hN, hI⟩ := id hJ
  obtain ⟨r, h1, h2⟩ := H n d c v u w z v1 v2 v3 R hN hI
  exact ⟨r, _, _, h1, h2, rfl, hJ.up⟩
theorem st_gate : st2 (Jx b0 q) b0 q fX10_gate fX11_gate := same2 (by
  intro n d c v u w z v1 v2 R hN hI
  have hT := hI.1
  have hF := R.2.1
  have hX := R.2.2.1
  unfold fX10_gate fX11_gate
  rw [qa_100_0 hF hX, b1_s, qt_101 hF, b1_s, mtg, b1_s]
  rcases b_ever R hT v2 with ⟨t, ht, rfl, e1, -⟩ | ⟨ho, e1, -⟩
  · rw [e1, b2_s, oe_1, qa_100_0 hF hX, b1_s, qt_101 hF, b1_s, e_gateAt R hT ht, b2_s, s_gateOf hT hN ht, b2_s]
    by_cases e : gfi v v1 t < v 9 0
    · rw [if_pos e, if_pos e, oe_1, g_num R e, b1_s]
      exact ⟨_, rfl, rfl⟩
    · rw [if_neg e, if_neg e, oe_0]
      exact ⟨_, rfl, rfl⟩
  · rw [e1, b2_s, oe_0, s_gateOfO hT hN ho, b2_s]
    exact ⟨_, rfl, rfl⟩)
theorem st_holds : st2 (Jx b0 q) b0 q fX10_holds fX11_holds := same2 (by
  intro n d c v u w z v1 v2 R hN hI
  have hT := hI.1
  have hb := hT.1
  have hF := R.2.1
  have hX := R.2.2.1
  unfold fX10_holds fX11_holds
  rw [qa_100_0 hF hX, b1_s, qt_101 hF, b1_s, mtg, b1_s]
  rcases b_place (q := q) (z := z) R hT hN v1 v2 with ⟨e1, e2, -⟩ | ⟨t, ht, h7, rfl, e1, -, ⟨h0, h3, e3, e4, e5⟩ | ⟨h0, e3, ⟨hy, e4, e5⟩ | ⟨p, hp, rfl, e4, e5⟩⟩⟩
  · rw [e1, e2, b2_s, b2_s, oe_0, if_neg (by decide)]
    exact ⟨_, rfl, rfl⟩
  · rw [e1, b2_s, oe_1, g_tg R ht, b1_s, e4, b2_s, if_pos rfl, e5, b2_s, if_neg (by decide)]
    exact ⟨_, rfl, rfl⟩
  · rw [e1, b2_s, oe_1, g_tg R ht, b1_s, e4, b2_s, if_pos rfl, e5, b2_s, if_neg (by decide)]
    exact ⟨_, rfl, rfl⟩
  · obtain ⟨k0, k1, k3, k7, -⟩ := hT.k ht
    obtain ⟨p1, p2, p3⟩ := hT.pl ht hp
    rw [e1, b2_s, oe_1, g_tg R ht, b1_s, e4, b2_s, if_neg (by decide), g_tg R ht, b1_s, e_thingAt R ht k3 hp, b2_s, e5, b2_s, if_pos rfl]
    simp (disch := omega) only [n8, mA10, mA11, b1_s, mX10, mX11, mI_n, hN.k10, hN.k11, nI_if0, nI_if1]
    rcases (show v 10 (8 * t + p) = 0 ∨ v 10 (8 * t + p) = 1 ∨ v 10 (8 * t + p) = 2 by omega) with h | h | h
    · rw [if_neg (by omega), oe_0, g_tg R ht, b1_s, e_rowAt R ht k3 hp, b2_s, R.noRow ht hp (by omega), if_pos h]
      exact ⟨_, rfl, rfl⟩
    · rw [if_pos h, oe_1, g_num R (p2 h).1, b1_s, if_neg (by omega), if_pos h]
      exact ⟨_, rfl, rfl⟩
    · obtain ⟨r, r1, r2, r3, r4, -⟩ := R.rowAt ht hp h
      rw [if_neg (by omega), oe_0, g_tg R ht, b1_s, e_rowAt R ht k3 hp, b2_s, r1, if_neg (by omega), if_neg (by omega)]
      show ∃ r', oe (some (da d 11 r)) _ _ = _ ∧ _
      rw [oe_1, r4, b1_s]
      exact ⟨_, rfl, rfl⟩)
theorem st_element : st7 (Jx b0 q) b0 q fX10_element fX11_element := same7 (by
  intro n d c v u w z v1 v2 v3 R hN hI
  have hT := hI.1
  have hb := hT.1
  have hF := R.2.1
  have hX := R.2.2.1
  unfold fX10_element fX11_element
  rw [qa_100_0 hF hX, b1_s, qt_101 hF, b1_s, mtg, b1_s]
  rcases b_place (q := q) (z := z) R hT hN v1 v2 with ⟨e1, e2, -⟩ | ⟨t, ht, h7, rfl, e1, -, ⟨h0, h3, e3, e4, e5⟩ | ⟨h0, e3, ⟨hy, e4, e5⟩ | ⟨p, hp, rfl, e4, e5⟩⟩⟩
  · rw [e1, e2, b2_s, b2_s, oe_0, if_neg (by decide)]
    exact ⟨_, rfl, rfl⟩
  · have hy : v2 < 0 ∨ nI (v 3 t) ≤ v2 := by
      rw [h3]
      by_cases hy : v2 < 0
      · exact Or.inl hy
      · exact Or.inr (fa_of_nlt hy)
    rw [e1, b2_s, oe_1, g_tg R ht, b1_s, e_rowAtO R ht hy, b2_s, oe_0, e5, b2_s, if_neg (by decide)]
    exact ⟨_, rfl, rfl⟩
  · rw [e1, b2_s, oe_1, g_tg R ht, b1_s, e_rowAtO R ht hy, b2_s, oe_0, e5, b2_s, if_neg (by decide)]
    exact ⟨_, rfl, rfl⟩
  · obtain ⟨k0, k1, k3, k7, -⟩ := hT.k ht
    obtain ⟨p1, p2, p3⟩ := hT.pl ht hp
    rw [e1, b2_s, oe_1, g_tg R ht, b1_s, e_rowAt R ht k3 hp, b2_s, e5, b2_s, if_pos rfl]
    simp (disch := omega) only [n8, mA10, mA12, b1_s, mX10, mX12, mI_n, hN.k10, hN.k12, nI_if2]
    by_cases h : v 10 (8 * t + p) = 2
    · obtain ⟨r, r1, r2, r2', r4, r5, r6, r7, r8⟩ := R.rowAt ht hp h
      have h32 := (p3 h).2
      rw [if_pos h, r1]
      show ∃ r', oe (some (da d 11 r)) _ _ = _ ∧ _
      rw [oe_1, ctg (t := 4) r2 rfl, b1_s]
      unfold fX4_read
      rw [ctg (t := 4) r2 rfl, b1_s, e_hasElement r5 r6, b2_s]
      rcases inOut v3 (n := v 12 (8 * t + p)) (by omega) with ho | ⟨i, hi, rfl⟩
      · rw [if_pos ho, if_pos rfl, b2_s, isIn_o (by omega) ho, b2_s, if_pos rfl]
        exact ⟨_, rfl, rfl⟩
      · rw [inR hi (by omega), if_neg (by decide), r5, b1_s, cxL r2' rfl (by rw [r7]; exact hi) (by omega), b1_s, b2_s, isIn_n hi (by omega), b2_s, if_neg (by decide), r8 i hi]
        simp (disch := omega) only [n32, mA13, b1_s, mX13, mL_n]
        exact ⟨_, rfl, rfl⟩
    · rw [if_neg h, R.noRow ht hp h]
      exact ⟨_, rfl, rfl⟩)
theorem st_thing : st2 (Jx b0 q) b0 q fX10_thing fX11_thing := same2 (by
  intro n d c v u w z v1 v2 R hN hI
  have hT := hI.1
  have hb := hT.1
  have hF := R.2.1
  have hX := R.2.2.1
  unfold fX10_thing fX11_thing
  rw [qa_100_0 hF hX, b1_s, qt_101 hF, b1_s, mG9, b1_s, hN.k9]
  rcases b_ever R hT v1 with ⟨t, ht, rfl, e1, e2⟩ | ⟨ho, e1, e2⟩
  · obtain ⟨k0, k1, k3, k7, k8, -⟩ := hT.k ht
    rw [e1, b2_s, oe_1, e2, b2_s, if_neg (show ¬ (1 : Int32) = 0 by decide)]
    simp (maxSteps := 2000000) (disch := omega) only [mA0, mA1, mA2, mA3, mA4, mA5, mA6, mA7, mA8, b1_s, mX0, mX1, mX2, mX3, mX4, mX5, mX6, mX7, mX8, mI_n, hN.k0, hN.k1, hN.k3, hN.k4, hN.k5, hN.k6, hN.k7, hN.k8, g_kind R ht, g_host R ht, g_mark R ht, g_named R ht, g_weight R ht, g_exit R ht, g_broken R ht, g_there R ht, g_tg R ht, e_placesSize R ht, b2_s, nI_if0]
    by_cases c6 : v2 = 6
    · rw [if_pos c6, if_pos c6]
      exact ⟨_, rfl, rfl⟩
    rw [if_neg c6, if_neg c6]
    by_cases c7 : v2 = 7
    · rw [if_pos c7, if_pos c7]
      by_cases h8 : v 8 t = 0
      · rw [if_pos h8, if_pos h8]
        exact ⟨_, rfl, rfl⟩
      · rw [if_neg h8, if_neg h8]
        exact ⟨_, rfl, rfl⟩
    rw [if_neg c7, if_neg c7]
    by_cases h7 : v 7 t = 0
    · rw [if_neg (by omega), if_pos h7]
      by_cases c0 : v2 = 0
      · rw [if_pos c0, if_pos c0]
        exact ⟨_, rfl, rfl⟩
      rw [if_neg c0, if_neg c0]
      by_cases c1 : v2 = 1
      · rw [if_pos c1, if_pos c1]
        exact ⟨_, rfl, rfl⟩
      rw [if_neg c1, if_neg c1]
      by_cases c2 : v2 = 2
      · rw [if_pos c2, if_pos c2]
        exact ⟨_, rfl, rfl⟩
      rw [if_neg c2, if_neg c2]
      by_cases c3 : v2 = 3
      · rw [if_pos c3, if_pos c3]
        exact ⟨_, rfl, rfl⟩
      rw [if_neg c3, if_neg c3]
      by_cases c4 : v2 = 4
      · rw [if_pos c4, if_pos c4]
        by_cases g3 : v 0 t = 3
        · obtain ⟨⟨m, m1, m2, -⟩, -⟩ := hT.g ht g3
          rw [m1, if_neg (by omega), oe_1, b1_s, show m + 1 - 1 = m from rfl, g_num R m2, b1_s, dv_e rfl]
          exact ⟨_, rfl, rfl⟩
        · rw [(hT.ng ht g3).1, if_pos rfl, oe_0, dv_0 rfl]
          exact ⟨_, rfl, rfl⟩
      rw [if_neg c4, if_neg c4]
      by_cases c5 : v2 = 5
      · rw [if_pos c5, if_pos c5]
        exact ⟨_, rfl, rfl⟩
      rw [if_neg c5, if_neg c5]
      exact ⟨_, rfl, rfl⟩
    · rw [if_pos (by omega), if_neg h7]
      exact ⟨_, rfl, rfl⟩
  · rw [e1, b2_s, oe_0, e2, b2_s, if_pos rfl]
    exact ⟨_, rfl, rfl⟩)
end RD
