section RW
variable {d d' : AD} {c c' : CH} {v v' : Nu} {u u' : Mu} {w w' : Me} {n m r t p q k y g : Nat} {od : Nat → Nat}
/-- a new row in a place -/
theorem e_row {sort len : Nat} {K : Hz → Option (Int32 × Hz)} (R : RC d c v u w) (hI : iT v) (hn : n < v 9 0) (hp : p < v 3 n) (hl : len ≤ 32) (hv : ∀ k i, ¬ (10 ≤ k ∧ k ≤ 12 ∧ i = 8 * n + p) → v' k i = v k i) (hv1 : v' 10 (8 * n + p) = 2 ∧ v' 11 (8 * n + p) = sort ∧ v' 12 (8 * n + p) = len) (hw : ∀ i, (i < 32 * (8 * n + p) ∨ 32 * (8 * n + p) + 32 ≤ i) → w' 13 i = w 13 i) (hw0 : ∀ i, i < len → w' 13 (32 * (8 * n + p) + i) = 0) :
    ∃ d' c', (b2 (nO 4 (cB d c)) fun a25 s26 => (b2 (fX4_init a25 (nI sort) (nI len) s26) fun _ s28 => (b1 (tg 5 (da d 1 n) s28) fun _ => (b2 (fX5_holdRow (da d 1 n) (nI p) (some a25) s28) fun _ s31 => K s31)))) = K (cB d' c') ∧ Ex d d' ∧ RC d' c' v' u w' := by
  obtain ⟨l1, l2, l3, -, ⟨t0, t1, t2, t3, t4, t5, t6, t7, t8, t9, t10, t11, t12⟩, hpl⟩ := R.t hn
  have b3 := (hI.2 n hn).2.2.1
  obtain ⟨r, hr⟩ := R.nr
  obtain ⟨g11, g12⟩ := hr r (Nat.le_refl _)
  have hA := R.1.1
  have w1 := R.1.new (n := 0) (k0 := 11) (x0 := r) (by decide) g11
  have E1 : Ex d (dnew 11 r d) := Ex.rfl.new hA g11
  have L11 : lvd (dnew 11 r d) 11 r := (dnew_new (by decide)).2
  have hA1 := w1.1
  have w2 := w1.wI (i := 0) (v := nI sort) L11
  have g12' := dstep hA (by decide) g11 g12 (by omega)
  have w3 := w2.new (n := len) (k0 := 12) (x0 := r) (by decide) g12'
  have E2 : Ex (dnew 11 r d) (dnew 12 r (dnew 11 r d)) := Ex.rfl.new hA1 g12'
  have L12 : lvd (dnew 12 r (dnew 11 r d)) 12 r := (dnew_new (by decide)).2
  have L11' := E2 11 r L11
  have w4 := w3.wQ (i := 1) (q := some (12, r)) L11'.2 (fun y hy => by cases hy; exact L12)
  have hA2 := w4.1
  have EE := E1.trans E2
  have l1' := EE 1 n l1
  have l2' := EE 2 n l2
  have l3' := EE 3 n l3
  have w5 := (w4.wQ (i := p) (q := none) l2'.2 (fun y hy => by cases hy)).wQ (i := p) (q := some (11, r)) l3'.2 (fun y hy => by cases hy; exact L11'.2)
  have hiff : ∀ k x, lvd (dnew 12 r (dnew 11 r d)) k x ↔ lvd d k x ∨ ((k = 11 ∨ k = 12) ∧ x = r) := by
    intro k x
    rw [dnew_iff hA1 (by decide) g12', dnew_iff hA (by decide) g11]
    constructor
    · rintro ((h | h) | h)
      · exact Or.inl h
      · exact Or.inr (by omega)
      · exact Or.inr (by omega)
    · rintro (h | ⟨h1 | h1, h2⟩)
      · exact Or.inl (Or.inl h)
      · exact Or.inl (Or.inr ⟨h1, h2⟩)
      · exact Or.inr ⟨h1, h2⟩
  have hfr : ∀ x i r', cQ c 3 x i = some (11, r') → r' ≠ r := fun x i r' h e => by
    rw [e] at h
    exact g11 (R.1.2.2 3 x i _ h)
  refine ⟨_, _, ?_, EE, R.hold hI hn hp w5 EE (fun k x h1 h2 => by rw [hiff]; exact ⟨fun h => h.elim id (by omega), Or.inl⟩) ⟨r + 1, fun x hx => ?_⟩ (fun k h2 h3 h4 h5 => (((((sm.rfl.N h4).I h4).N h5).Q h4).Q h2).Q h3) (fun x => ⟨rfl, rfl⟩) (fun x i h => ⟨?_, ?_⟩) (fun x i r' h h2 => ?_) ?_ hv hw ?_⟩
  · rw [cnO (t := 4) (k0 := 11) (x0 := r) R.1 (by decide) g11 rfl, b2_s]
    have e1 : fX4_init (da (dnew 11 r d) 11 r) (nI sort) (nI len) (cB (dnew 11 r d) (kwN 11 r 0 c)) = some ((), cB (dnew 12 r (dnew 11 r d)) (kwQ 11 r 1 (some (12, r)) (kwN 12 r len (kwI 11 r 0 (nI sort) (kwN 11 r 0 c))))) := by
      unfold fX4_init
      rw [cpI (t := 4) hA1 L11 rfl, b1_s, cut32 hl, cnA (t := 13) (k0 := 12) (x0 := r) w2 (by decide) g12' rfl hl (by omega), b2_s, ← L11'.1, cpP (t := 4) (r := some (da (dnew 12 r (dnew 11 r d)) 12 r)) (some (12, r)) hA2 L11'.2 rfl rfl, b1_s]
    rw [e1, b2_s, ← l1'.1, ctg (t := 5) l1'.2 rfl, b1_s, ← L11'.1]
    have e2 : fX5_hasPlace (da (dnew 12 r (dnew 11 r d)) 1 n) (nI p) (cB (dnew 12 r (dnew 11 r d)) (kwQ 11 r 1 (some (12, r)) (kwN 12 r len (kwI 11 r 0 (nI sort) (kwN 11 r 0 c))))) = some (1, cB (dnew 12 r (dnew 11 r d)) (kwQ 11 r 1 (some (12, r)) (kwN 12 r len (kwI 11 r 0 (nI sort) (kwN 11 r 0 c))))) := by
      unfold fX5_hasPlace
      rw [if_neg (nI_pos (by omega)), cgA (c := (kwQ 11 r 1 (some (12, r)) (kwN 12 r len (kwI 11 r 0 (nI sort) (kwN 11 r 0 c))))) (t := 5) (q := (2, n)) l1'.2 rfl t3, b1_s]
      dsimp only
      rw [cxN (t := 17) l2'.2 rfl, b1_s, show cN (kwQ 11 r 1 (some (12, r)) (kwN 12 r len (kwI 11 r 0 (nI sort) (kwN 11 r 0 c)))) 2 n = v 3 n from t11, nI_ifle (by omega) (by omega), if_neg (by omega), cgA (c := (kwQ 11 r 1 (some (12, r)) (kwN 12 r len (kwI 11 r 0 (nI sort) (kwN 11 r 0 c))))) (t := 5) (q := (3, n)) l1'.2 rfl t4, b1_s]
      dsimp only
      rw [cxN (t := 16) l3'.2 rfl, b1_s, show cN (kwQ 11 r 1 (some (12, r)) (kwN 12 r len (kwI 11 r 0 (nI sort) (kwN 11 r 0 c)))) 3 n = v 3 n from t12, nI_ifle (by omega) (by omega), if_neg (by omega)]
      rfl
    unfold fX5_holdRow
    rw [ctg (t := 5) l1'.2 rfl, b1_s, e2, b2_s, if_neg (by decide), cgA (c := (kwQ 11 r 1 (some (12, r)) (kwN 12 r len (kwI 11 r 0 (nI sort) (kwN 11 r 0 c))))) (t := 5) (q := (2, n)) l1'.2 rfl t3, b1_s]
    dsimp only
    rw [cyP (t := 17) (e := 5) (r := none) none hA2 l2'.2 rfl (by show p < c.2.2.2 2 n; rw [show c.2.2.2 2 n = v 3 n from t11]; exact hp) (by omega) rfl (fun y hy => by cases hy), b1_s, cgA (c := kwQ 2 n p none (kwQ 11 r 1 (some (12, r)) (kwN 12 r len (kwI 11 r 0 (nI sort) (kwN 11 r 0 c))))) (t := 5) (q := (3, n)) l1'.2 rfl t4, b1_s]
    dsimp only
    rw [cyP (t := 16) (e := 4) (r := some (da (dnew 12 r (dnew 11 r d)) 11 r)) (some (11, r)) hA2 l3'.2 rfl (by show p < c.2.2.2 3 n; rw [show c.2.2.2 3 n = v 3 n from t12]; exact hp) (by omega) rfl (fun y hy => by cases hy; exact ⟨L11'.2, rfl⟩), b1_s, b2_s]
  · rw [hiff, hiff]
    exact ⟨fun h => h.elim (hr x (by omega)).1 (by omega), fun h => h.elim (hr x (by omega)).2 (by omega)⟩
  · exact z3_n (f := c.2.2.1) (by omega)
  · exact z3_n (f := c.2.2.1) (by omega)
  · have := hfr x i r' h2
    refine ⟨fun j => ⟨?_, ?_⟩, ?_, fun j => rfl⟩
    · exact z3_n (f := c.1) (by omega)
    · exact z3_n (f := c.2.2.1) (by omega)
    · show zu (zu c.2.2.2 11 r 0) 12 r len 12 r' = c.2.2.2 12 r'
      rw [zu_n (by omega), zu_n (by omega)]
  · right; right
    refine ⟨hv1.1, z3_s (f := c.2.2.1), r, z3_s, ?_, ?_, ?_, fun i hi => ?_⟩
    · rw [hv1.2.1]; exact z3_s (f := c.1)
    · exact z3_s (f := c.2.2.1)
    · rw [hv1.2.2]; exact zu_s
    · rw [hv1.2.2] at hi
      rw [hw0 i hi]
      exact (R.1.2.1 12 r g12).2.1 i
  · intro r' n' p' h1 h2
    have e1 : cQ (kwQ 3 n p (some (11, r)) (kwQ 2 n p none (kwQ 11 r 1 (some (12, r)) (kwN 12 r len (kwI 11 r 0 (nI sort) (kwN 11 r 0 c)))))) 3 n p = some (11, r) := z3_s
    rw [e1] at h1
    cases h1
    by_cases e : n' = n ∧ p' = p
    · exact e
    · have e2 : cQ (kwQ 3 n p (some (11, r)) (kwQ 2 n p none (kwQ 11 r 1 (some (12, r)) (kwN 12 r len (kwI 11 r 0 (nI sort) (kwN 11 r 0 c)))))) 3 n' p' = cQ c 3 n' p' := z3_n (f := c.2.2.1) (by omega)
      rw [e2] at h2
      exact absurd rfl (hfr n' p' r h2)
/-- the row of a place -/
theorem RC.rowAt (R : RC d c v u w) (hn : n < v 9 0) (hp : p < v 3 n) (h2 : v 10 (8 * n + p) = 2) : ∃ r, cQ c 3 n p = some (11, r) ∧ lvd d 11 r ∧ lvd d 12 r ∧ gI 4 0 (da d 11 r) (cB d c) = some (nI (v 11 (8 * n + p))) ∧ gA 4 1 (da d 11 r) (cB d c) = some (da d 12 r) ∧ xN 13 (da d 12 r) (cB d c) = some (nI (v 12 (8 * n + p))) ∧ cN c 12 r = v 12 (8 * n + p) ∧ ∀ i, i < v 12 (8 * n + p) → cJ c 12 r i = w 13 (32 * (8 * n + p) + i) := by
  rcases (R.t hn).2.2.2.2.2 p hp with ⟨a1, -⟩ | ⟨a1, -⟩ | ⟨a1, a2, r, a3, a4, a5, a6, a7⟩
  · omega
  · omega
  · have l11 := R.1.2.2 3 n p _ a3
    have l12 := R.1.2.2 11 r 1 _ a5
    exact ⟨r, a3, l11, l12, by rw [cgI (t := 4) l11 rfl, a4], cgA l11 rfl a5, by rw [cxN (t := 13) l12 rfl, a6], a6, a7⟩
theorem RC.noRow (R : RC d c v u w) (hn : n < v 9 0) (hp : p < v 3 n) (h2 : v 10 (8 * n + p) ≠ 2) : cQ c 3 n p = none := by
  rcases (R.t hn).2.2.2.2.2 p hp with ⟨a1, -, a3⟩ | ⟨a1, -, a3⟩ | ⟨a1, -⟩
  · exact a3
  · exact a3
  · exact absurd a1 h2
/-- as a SORT could hold it -/
def lowf (s : Nat) (x : Int64) : Int64 := if s = 0 then x.toInt32.toInt8.toInt32.toInt64 else if s = 1 then x.toInt32.toInt16.toInt32.toInt64 else if s = 2 then x.toInt32.toInt64 else x
theorem s_low {s : Nat} {x : Int64} {h : Hz} (hs : s ≤ 3) : fX11_low (nI s) x h = some (lowf s x, h) := by
  unfold fX11_low lowf
  rw [nI_if0 (by omega), nI_if1 (by omega), nI_if2 (by omega)]
  by_cases h0 : s = 0
  · rw [if_pos h0, if_pos h0]
  · rw [if_neg h0, if_neg h0]
    by_cases h1 : s = 1
    · rw [if_pos h1, if_pos h1]
    · rw [if_neg h1, if_neg h1]
      by_cases h2 : s = 2
      · rw [if_pos h2, if_pos h2]
      · rw [if_neg h2, if_neg h2]
theorem e_hasElement {len : Nat} {x : Int32} (h1 : gA 4 1 (da d 11 r) (cB d c) = some (da d 12 r)) (h2 : xN 13 (da d 12 r) (cB d c) = some (nI len)) : fX4_hasElement (da d 11 r) x (cB d c) = some (if x < 0 ∨ nI len ≤ x then 0 else 1, cB d c) := by
  unfold fX4_hasElement
  by_cases h : x < 0
  · rw [if_pos h, if_pos (Or.inl h)]; rfl
  · rw [if_neg h, h1, b1_s, h2, b1_s]
    by_cases h3 : nI len ≤ x
    · rw [if_pos h3, if_pos (Or.inr h3)]; rfl
    · rw [if_neg h3, if_neg (fun h4 => h4.elim h h3)]; rfl
theorem inR {i len : Nat} (hi : i < len) (hl : len < 2147483648) : (if nI i < 0 ∨ nI len ≤ nI i then (0 : Int32) else 1) = 1 := by
  rw [if_neg]
  rw [nI_leI (by omega) (by omega)]
  rintro (h1 | h1)
  · exact nI_pos (by omega) h1
  · omega
/-- elements of a row change -/
theorem RC.elem (R : RC d c v u w) (hI : iT v) (hn : n < v 9 0) (hp : p < v 3 n) (h2 : v 10 (8 * n + p) = 2) (hr : cQ c 3 n p = some (11, r)) (hw' : WF d c') (hs : ∀ k, k ≠ 12 → sm k c c') (h12 : ∀ x i, x ≠ r → cJ c' 12 x i = cJ c 12 x i) (hN : ∀ x, cN c' 12 x = cN c 12 x) (hw : ∀ i, (i < 32 * (8 * n + p) ∨ 32 * (8 * n + p) + 32 ≤ i) → w' 13 i = w 13 i) (he : ∀ i, i < v 12 (8 * n + p) → cJ c' 12 r i = w' 13 (32 * (8 * n + p) + i)) : RC d c' v u w' := by
  have a4 := R.2.2.2.1.2.2.2.1
  refine R.hold hI hn hp hw' Ex.rfl (fun _ _ _ _ => Iff.rfl) R.nr (fun k _ _ _ h => hs k h) (fun x => ⟨(hs 2 (by decide)).2.2.2 x, (hs 3 (by decide)).2.2.2 x⟩) (fun x i _ => ⟨(hs 2 (by decide)).2.1 x i, (hs 3 (by decide)).2.1 x i⟩) (fun x i r' h h3 => ⟨fun j => ⟨(hs 11 (by decide)).1 r' j, (hs 11 (by decide)).2.1 r' j⟩, hN r', fun j => h12 r' j (fun e => ?_)⟩) ?_ (fun _ _ _ => rfl) hw (fun r' n' p' h3 h4 => ?_)
  · rw [e] at h3
    obtain ⟨e1, e2⟩ := a4 x i n p r h3 hr
    exact h ⟨e1, e2⟩
  · rcases (R.t hn).2.2.2.2.2 p hp with ⟨b1, -⟩ | ⟨b1, -⟩ | ⟨b1, b2, r', b3, b4, b5, b6, b7⟩
    · omega
    · omega
    · rw [hr] at b3
      cases b3
      right; right
      refine ⟨b1, by rw [(hs 2 (by decide)).2.1]; exact b2, r, by rw [(hs 3 (by decide)).2.1]; exact hr, by rw [(hs 11 (by decide)).1]; exact b4, by rw [(hs 11 (by decide)).2.1]; exact b5, by rw [hN]; exact b6, he⟩
  · rw [(hs 3 (by decide)).2.1] at h3 h4
    obtain ⟨e1, e2⟩ := a4 n p n' p' r' h3 h4
    exact ⟨e1.symm, e2.symm⟩
theorem e_write {i : Nat} {x : Int64} (R : RC d c v u w) (hI : iT v) (hn : n < v 9 0) (hp : p < v 3 n) (h2 : v 10 (8 * n + p) = 2) (hr : cQ c 3 n p = some (11, r)) (hi : i < v 12 (8 * n + p)) : ∃ c', fX4_write (da d 11 r) (nI i) x (cB d c) = some ((), cB d c') ∧ RC d c' v u (zu w 13 (32 * (8 * n + p) + i) (lowf (v 11 (8 * n + p)) x)) := by
  obtain ⟨r', a1, l11, l12, a2, a3, a4, a5, a6⟩ := R.rowAt hn hp h2
  rw [hr] at a1
  cases a1
  obtain ⟨hs, hl⟩ := ((hI.2 n hn).2.2.2.2.2.2.2.2.2.2.2.2 p hp).2.2 h2
  refine ⟨kwL 12 r i (lowf (v 11 (8 * n + p)) x) c, ?_, R.elem hI hn hp h2 hr (R.1.wL l12) (fun k hk => sm.rfl.L hk) (fun x j hx => z3_n (by omega)) (fun _ => rfl) (fun j hj => zu_n (by omega)) (fun j hj => ?_)⟩
  · unfold fX4_write
    rw [ctg (t := 4) l11 rfl, b1_s, e_hasElement a3 a4, b2_s, inR hi (by omega), if_neg (by decide), a3, b1_s, ctg (t := 4) l11 rfl, b1_s]
    have e1 : fX4_cut (da d 11 r) x (cB d c) = some (lowf (v 11 (8 * n + p)) x, cB d c) := by
      unfold fX4_cut lowf
      rw [a2, b1_s, nI_if0 (by omega), nI_if1 (by omega), nI_if2 (by omega)]
      by_cases h0 : v 11 (8 * n + p) = 0
      · rw [if_pos h0, if_pos h0]
      · rw [if_neg h0, if_neg h0]
        by_cases h1 : v 11 (8 * n + p) = 1
        · rw [if_pos h1, if_pos h1]
        · rw [if_neg h1, if_neg h1]
          by_cases h2 : v 11 (8 * n + p) = 2
          · rw [if_pos h2, if_pos h2]
          · rw [if_neg h2, if_neg h2]
    rw [e1, b2_s, cyL R.1.1 l12 rfl (by rw [a5]; exact hi) (by omega), b1_s]
  · by_cases e : j = i
    · subst e
      rw [zu_s]
      exact z3_s
    · rw [zu_n (by omega), ← a6 j hj]
      exact z3_n (by omega)
theorem lgc {i m len : Nat} (hi : i < 2147483648) (hm : m < 2147483648) (hl : len < 2147483648) : 0 < lg_cmp ((nI i).toInt64 + (nI m).toInt64) (nI len).toInt64 ↔ len < i + m := by
  rw [lg_cmp_gt, fa_lt64, Int32.toInt_toInt64, nI_toInt (by omega)]
  have h1 : ((nI i).toInt64).toInt = (i : Int) := by rw [Int32.toInt_toInt64, nI_toInt (by omega)]
  have h2 : ((nI m).toInt64).toInt = (m : Int) := by rw [Int32.toInt_toInt64, nI_toInt (by omega)]
  rw [fb_addL (by rw [h1, h2]; omega) (by rw [h1, h2]; omega), h1, h2]
  omega
/-- n elements from one row to another -/
theorem e_take {i m r2 : Nat} (R : RC d c v u w) (hI : iT v) (hn : n < v 9 0) (hp : p < v 3 n) (hq : q < v 3 n) (h2 : v 10 (8 * n + p) = 2) (h2' : v 10 (8 * n + q) = 2) (hr : cQ c 3 n p = some (11, r)) (hr2 : cQ c 3 n q = some (11, r2)) (h1 : i + m ≤ v 12 (8 * n + p)) (h3 : m ≤ v 12 (8 * n + q)) (hw : ∀ j, w' 13 j = if 32 * (8 * n + q) ≤ j ∧ j < 32 * (8 * n + q) + m then w 13 (32 * (8 * n + p) + i + (j - 32 * (8 * n + q))) else w 13 j) : ∃ c', fX4_take (da d 11 r2) (some (da d 11 r)) (nI i) (nI m) (cB d c) = some ((), cB d c') ∧ RC d c' v u w' := by
  obtain ⟨r', a1, l11, l12, a2, a3, a4, a5, a6⟩ := R.rowAt hn hp h2
  rw [hr] at a1
  cases a1
  obtain ⟨r', a1, m11, m12, c2, c3, c4, c5, c6⟩ := R.rowAt hn hq h2'
  rw [hr2] at a1
  cases a1
  obtain ⟨-, hl⟩ := ((hI.2 n hn).2.2.2.2.2.2.2.2.2.2.2.2 p hp).2.2 h2
  obtain ⟨-, hl'⟩ := ((hI.2 n hn).2.2.2.2.2.2.2.2.2.2.2.2 q hq).2.2 h2'
  have hT1 : zT (cB d c) (da d 12 r) = 13 := cTt l12
  have hT2 : zT (cB d c) (da d 12 r2) = 13 := cTt m12
  have e1 : cL (da d 12 r) (nI i) (da d 12 r2) 0 (nI m) (cB d c) = some (cB d (c.1, fun k x j => if k = 12 ∧ x = r2 ∧ j < m then c.2.1 12 r (i + j) else c.2.1 k x j, c.2.2)) := by
    rw [cL, if_pos ⟨hT1, hT2, nI_pos (by omega), by decide, nI_pos (by omega), by rw [nI_c (by omega), nI_c (by omega), cNn l12, a5]; exact h1, by rw [nI_c (by omega), cNn m12, c5]; show 0 + m ≤ _; omega⟩]
    congr 1
    rw [nI_c (by omega), nI_c (by omega)]
    simp only [cB]
    congr 2
    funext a j
    by_cases e : a = d.2.2.2 12 r2
    · subst e
      rw [va_up_self]
      have k1 : d.2.1 (d.2.2.2 12 r2) = 12 := m12.2.1
      have k2 : d.2.2.1 (d.2.2.2 12 r2) = r2 := m12.2.2
      have k3 : d.2.1 (d.2.2.2 12 r) = 12 := l12.2.1
      have k4 : d.2.2.1 (d.2.2.2 12 r) = r := l12.2.2
      show va_cpy (fun j => c.2.1 (d.2.1 (d.2.2.2 12 r)) (d.2.2.1 (d.2.2.2 12 r)) j) (fun j => c.2.1 (d.2.1 (d.2.2.2 12 r2)) (d.2.2.1 (d.2.2.2 12 r2)) j) i 0 m j = _
      rw [k1, k2, k3, k4]
      simp only [va_cpy]
      by_cases e2 : j < m
      · rw [if_pos ⟨Nat.zero_le _, by show j < 0 + m; omega⟩, if_pos ⟨trivial, trivial, e2⟩]
        rfl
      · rw [if_neg (fun h => e2 (by have := h.2; omega)), if_neg (fun h => e2 h.2.2)]
    · rw [va_up_ne _ _ e]
      have hne : ¬ (d.2.1 a = 12 ∧ d.2.2.1 a = r2 ∧ j < m) := by
        rintro ⟨g1, g2, -⟩
        have g3 := (R.1.1 a (by rw [g1]; decide)).2
        rw [g1, g2] at g3
        exact e g3.symm
      rw [if_neg hne]
  have W : WF d (c.1, fun k x j => if k = 12 ∧ x = r2 ∧ j < m then c.2.1 12 r (i + j) else c.2.1 k x j, c.2.2) := by
    obtain ⟨hA, hZ, hQ⟩ := R.1
    refine ⟨hA, fun k x h => ?_, hQ⟩
    obtain ⟨z1, z2, z3', z4⟩ := hZ k x h
    refine ⟨z1, fun j => ?_, z3', z4⟩
    show (if k = 12 ∧ x = r2 ∧ j < m then c.2.1 12 r (i + j) else c.2.1 k x j) = 0
    rw [if_neg (fun h2 => h (by rw [h2.1, h2.2.1]; exact m12))]
    exact z2 j
  refine ⟨_, ?_, R.elem hI hn hq h2' hr2 W (fun k hk => ⟨fun _ _ => rfl, fun _ _ => rfl, fun x j => if_neg (fun h => hk h.1), fun _ => rfl⟩) (fun x j hx => if_neg (fun h => hx h.2.1)) (fun _ => rfl) (fun j hj => by rw [hw, if_neg (by omega)]) (fun j hj => ?_)⟩
  · unfold fX4_take
    have e2 : fX4_canTake (da d 11 r2) (some (da d 11 r)) (nI i) (nI m) (cB d c) = some (1, cB d c) := by
      unfold fX4_canTake
      rw [if_neg (nI_pos (by omega)), if_pos (nI_pos' (by omega)), b1_s, a3, b1_s, a4, b1_s, if_neg, c3, b1_s, c4, b1_s, nI_iflt (by omega) (by omega), if_neg (by omega)]
      · rfl
      · rw [lgc (by omega) (by omega) (by omega)]
        omega
    rw [ctg (t := 4) m11 rfl, b1_s, e2, b2_s, if_neg (by decide), b1_s, a3, b1_s, c3, b1_s, e1, b1_s]
  · show (if 12 = 12 ∧ r2 = r2 ∧ j < m then c.2.1 12 r (i + j) else c.2.1 12 r2 j) = _
    rw [hw]
    by_cases e : j < m
    · rw [if_pos ⟨rfl, rfl, e⟩, if_pos (by omega), show 32 * (8 * n + p) + i + (32 * (8 * n + q) + j - 32 * (8 * n + q)) = 32 * (8 * n + p) + (i + j) by omega]
      exact a6 (i + j) (by omega)
    · rw [if_neg (fun h => e h.2.2), if_neg (by omega)]
      exact c6 j hj
end RW
