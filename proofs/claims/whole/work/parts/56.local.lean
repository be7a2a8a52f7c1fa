/-! What one HOST's calls leave as it was at the others. -/
def tch (v : Nu) (h : Nat) : Nu := zu v 30 h (v 30 h + 1)
/-- a HOST's things are as they were -/
def Loc (v v' : Nu) (h : Nat) : Prop :=
  (∀ x, x < v 9 0 → v 1 x = h → x < v' 9 0 ∧ v' 1 x = h ∧ v' 0 x = v 0 x ∧ v' 3 x = v 3 x ∧ v' 4 x = v 4 x ∧ v' 6 x = v 6 x ∧ v' 7 x = v 7 x ∧ v' 8 x = v 8 x ∧ (Wtd v' x ↔ Wtd v x) ∧ ∀ p, p < v 3 x → v' 10 (8 * x + p) = v 10 (8 * x + p) ∧ (v 10 (8 * x + p) = 1 → v' 11 (8 * x + p) = v 11 (8 * x + p))) ∧
  ∀ x, x < v' 9 0 → v' 1 x = h → x < v 9 0 ∧ v 1 x = h
section LC
variable {n k x y g : Nat} {D : Nat → Prop} {d : AD} {c : CH} {v v' : Nu} {u u' : Mu} {w w' : Me}
theorem Loc.symm (h : Loc v v' g) : Loc v' v g := by
  refine ⟨fun x hx hh => ?_, fun x hx hh => ⟨(h.1 x hx hh).1, (h.1 x hx hh).2.1⟩⟩
  obtain ⟨a, b⟩ := h.2 x hx hh
  obtain ⟨c1, c2, c3, c4, c5, c6, c7, c8, c9, cp⟩ := h.1 x a b
  refine ⟨a, b, c3.symm, c4.symm, c5.symm, c6.symm, c7.symm, c8.symm, c9.symm, fun p hp => ?_⟩
  obtain ⟨q1, q2⟩ := cp p (by omega)
  exact ⟨q1.symm, fun e => (q2 (by rw [← q1]; exact e)).symm⟩
theorem Loc.cl (hT : iT v) (hl : Loc v v' g) {B B' : Nat → Prop} (hB : ∀ b, B b → b < v 9 0 ∧ v 1 b = g) (hBB : ∀ b, B b → B' b) (h : Cl (LEv v) B y) : (y < v 9 0 ∧ v 1 y = g) ∧ Cl (LEv v') B' y := by
  refine h (fun y => (y < v 9 0 ∧ v 1 y = g) ∧ Cl (LEv v') B' y) (fun b hb => ⟨hB b hb, Cl.base (hBB b hb)⟩) ?_
  rintro x y ⟨⟨h1, h2⟩, h3⟩ ⟨p, hp, hd⟩
  simp only [hdv] at hd
  by_cases e : v 10 (8 * x + p) = 1
  · rw [if_pos e] at hd
    have := Option.some.inj hd
    subst this
    obtain ⟨a1, a2, -⟩ := (hT.pl h1 hp).2.1 e
    obtain ⟨c1, c2, c3, c4, c5, c6, c7, c8, c9, cp⟩ := hl.1 x h1 h2
    refine ⟨⟨a1, a2.trans h2⟩, h3.step ⟨p, by rw [c4]; exact hp, ?_⟩⟩
    simp only [hdv]
    rw [(cp p hp).1, if_pos e, (cp p hp).2 e]
  · rw [if_neg e] at hd
    cases hd
theorem Loc.near (hT : iT v) (hl : Loc v v' g) (hx : x < v 9 0) (hg : v 1 x = g) (h : Near v x) : Near v' x := by
  unfold Near at h ⊢
  rw [(hl.1 x hx hg).2.1]
  rw [hg] at h
  refine (hl.cl hT (fun b hb => ⟨hb.1, hb.2.2.1⟩) (fun b hb => ?_) h).2
  obtain ⟨b1, b2, b3, b4⟩ := hb
  obtain ⟨c1, c2, c3, c4, c5, c6, c7, c8, c9, cp⟩ := hl.1 b b1 b3
  exact ⟨c1, by rw [c7]; exact b2, c2, by rw [c3]; exact b4⟩
theorem Loc.held (hT : iT v) (hl : Loc v v' g) (hx : x < v 9 0) (hg : v 1 x = g) (h : Held v x y) : Held v' x y := by
  obtain ⟨h1, h2, h3, ⟨a1, a2, a3, a4⟩, h5⟩ := h
  obtain ⟨c1, c2, c3, c4, c5, c6, c7, c8, c9, cp⟩ := hl.1 y h1 (h3.trans hg)
  refine ⟨c1, h2, by rw [c2, (hl.1 x hx hg).2.1], ⟨by rw [c7]; exact a1, by rw [c3]; exact a2, by rw [c5]; exact a3, by rw [c8]; exact a4⟩, ?_⟩
  exact (hl.cl hT (fun b hb => by rw [hb]; exact ⟨h1, h3.trans hg⟩) (fun b hb => hb) h5).2
theorem Loc.nok (hT : iT v) (hT' : iT v') (hl : Loc v v' g) (hx : x < v 9 0) (hg : v 1 x = g) (h43 : v' 43 (300 * k + x) = v 43 (300 * k + x)) (h44 : v' 44 (300 * k + x) = v 44 (300 * k + x)) (hw : ∀ i, w' 45 i = w 45 i) (h : nOK v w k x) : nOK v' w' k x := by
  obtain ⟨h1, h2, h3, h4⟩ := h
  obtain ⟨c1, c2, c3, c4, c5, c6, c7, c8, c9, cp⟩ := hl.1 x hx hg
  refine ⟨by rw [c7]; exact h1, by rw [h44, c3, c5, c6]; exact h2, ?_, fun y hy => ?_⟩
  · rw [h43, h3]
    constructor
    · rintro (h | h)
      · exact Or.inl (c9.mpr h)
      · exact Or.inr (hl.near hT hx hg h)
    · rintro (h | h)
      · exact Or.inl (c9.mp h)
      · exact Or.inr (hl.symm.near hT' c1 c2 h)
  · have e : hbt w' k x y = hbt w k x y := by simp only [hbt, hw]
    rw [e, h4 y hy]
    exact ⟨hl.held hT hx hg, hl.symm.held hT' c1 c2⟩
/-- the WALKS' notes stay, where the HOST is as it was -/
theorem iK.loc (hT : iT v) (hT' : iT v') (h : iK D n v w) (hl : ∀ g, g < 8 → ¬ D g → Loc v v' g) (h30 : ∀ g, g < 8 → v' 30 g = v 30 g) (h9 : v 9 0 ≤ v' 9 0) (ho : ∀ x, x < v 9 0 → v' 0 x = v 0 x ∧ v' 1 x = v 1 x) (hk : ∀ f i, 37 ≤ f ∧ f ≤ 46 → v' f i = v f i) (hw : ∀ i, w' 45 i = w 45 i) : iK D n v' w' := by
  obtain ⟨h1, h2, h3, h4⟩ := h
  refine ⟨by rw [hk 46 0 (by decide)]; exact h1, fun k hk' => ?_, ?_, ?_⟩
  · rw [hk 46 0 (by decide)] at hk'
    obtain ⟨a1, a2, a3, a4, a5, a6, a7, a8⟩ := h2 k hk'
    refine ⟨by rw [hk 38 _ (by decide)]; omega, by rw [hk 38 _ (by decide), (ho _ a1).1]; exact a2, by rw [hk 39 _ (by decide)]; exact a3, by rw [hk 40 _ (by decide)]; exact a4, by rw [hk 37 _ (by decide)]; exact a5, fun x hx => ?_, fun g hg => ?_, ?_⟩
    · rw [hk 42 _ (by decide), hk 43 _ (by decide), hk 44 _ (by decide)]
      obtain ⟨b1, b2, b3, b4⟩ := a6 x hx
      exact ⟨b1, b2, b3, fun e => by have := b4 e; omega⟩
    · rw [hk 41 _ (by decide), h30 g hg]
      exact a7 g hg
    · rw [hk 37 _ (by decide), hk 39 _ (by decide), hk 40 _ (by decide)]
      intro e
      obtain ⟨b1, b2⟩ := a8 e
      refine ⟨b1, fun x hx hx2 => ?_⟩
      rw [hk 42 _ (by decide)] at hx2
      obtain ⟨d1, d2⟩ := b2 x hx hx2
      have hx3 := (a6 x hx).2.2.2 hx2
      have hg := (hT.k hx3).2.1
      rw [(ho x hx3).2, hk 41 _ (by decide), h30 _ hg]
      exact ⟨d1, fun e1 e2 => (hl _ hg e2).nok hT hT' hx3 rfl (hk 43 _ (by decide)) (hk 44 _ (by decide)) hw (d2 e1 e2)⟩
  · intro k k1 k2
    rw [hk 46 0 (by decide)] at k1
    obtain ⟨b1, b2, b3, b4⟩ := h3 k k1 k2
    rw [hk 37 _ (by decide), hk 39 _ (by decide), hk 40 _ (by decide)]
    refine ⟨b1, b2, b3, fun x hx => ?_⟩
    rw [hk 42 _ (by decide), hk 43 _ (by decide), hk 44 _ (by decide)]
    exact b4 x hx
  · intro k x j k1 k2 k3 e
    rw [hk 42 _ (by decide)] at e
    rw [hw]
    exact h4 k x j k1 k2 k3 e
theorem iK.dirty (h : iK D0 n v w) : iK D n v w := by
  refine ⟨h.1, fun k hk => ?_, h.2.2⟩
  obtain ⟨a1, a2, a3, a4, a5, a6, a7, a8⟩ := h.2.1 k hk
  exact ⟨a1, a2, a3, a4, a5, a6, a7, fun e => ⟨(a8 e).1, fun x hx hx2 => ⟨((a8 e).2 x hx hx2).1, fun e1 _ => ((a8 e).2 x hx hx2).2 e1 id⟩⟩⟩
theorem Inv.dirty (h : Inv D0 n v u w) : Inv D n v u w := by
  obtain ⟨h1, h2, h3, h4, h5, h6, h7⟩ := h
  exact ⟨h1, h2, h3, h4, h5, h6.dirty, h7⟩
theorem tch_30 {h : Nat} : tch v h 30 h = v 30 h + 1 := zu_s
theorem tch_n {h i : Nat} (hi : i ≠ h) : tch v h 30 i = v 30 i := zu_n (by omega)
theorem iK.touch {h0 : Nat} (hT : iT v) (h : iK (fun g => g = h0) n v w) : iK D0 (n + 1) (tch v h0) w := by
  have up := h.up
  obtain ⟨h1, h2, h3⟩ := up
  refine ⟨h1, fun k hk => ?_, h3⟩
  obtain ⟨a1, a2, a3, a4, a5, a6, a7, a8⟩ := h2 k hk
  refine ⟨a1, a2, a3, a4, a5, a6, fun g hg => ?_, fun e => ⟨(a8 e).1, fun x hx hx2 => ⟨((a8 e).2 x hx hx2).1, fun e1 _ => ?_⟩⟩⟩
  · by_cases e : g = h0
    · subst e
      rw [tch_30]
      have := a7 g hg
      show v 41 (8 * k + g) ≤ _
      omega
    · rw [tch_n e]
      exact a7 g hg
  · have e1' : v 41 (8 * k + v 1 x) = tch v h0 30 (v 1 x) + 1 := e1
    by_cases e2 : v 1 x = h0
    · have hg := (hT.k ((a6 x hx).2.2.2 hx2)).2.1
      have := a7 _ hg
      rw [e2] at e1' this
      rw [tch_30] at e1'
      omega
    · rw [tch_n e2] at e1'
      exact ((a8 e).2 x hx hx2).2 e1' e2
theorem Inv.touch {h0 : Nat} (h : Inv (fun g => g = h0) n v u w) : Inv D0 (n + 1) (tch v h0) u w := by
  obtain ⟨h1, h2, h3, h4, h5, h6, h7, h8, h9⟩ := h
  refine ⟨h1, h2, h3, h4, ⟨fun g hg => ?_, h5.2⟩, h6.touch h1, h7, h8.up, h9⟩
  have := h5.1 g hg
  by_cases e : g = h0
  · subst e
    rw [tch_30]
    omega
  · rw [tch_n e]
    omega
theorem Inv.refuse {i e : Nat} (h : Inv D n v u w) : Inv D (n + 1) (zu v 31 i e) u w := h.up
theorem Inv.again {e : Nat} (h : Inv D n v u w) : Inv D (n + 1) (zu v 25 0 e) u w := h.up
end LC
section GL
variable {n q z t b0 : Nat} {d : AD} {c : CH} {v : Nu} {u : Mu} {w : Me}
theorem s_refuse {i : Nat} {x : Int32} (hN : Nv v u) (hi : i < 7) (hx : -x = nI (i + 1)) : ∃ u', fX11_refuse q x (mB q z u w) = some (x, mB q z u' w) ∧ Nv (zu v 31 (i + 1) (v 31 (i + 1) + 1)) u' ∧ ∀ j, u' 2 j = u 2 j := by
  unfold fX11_refuse
  rw [hx]
  simp (disch := omega) only [mA31, b1_s, mX31, mI_n, hN.k31, mY31 (mC_n (show i + 1 < 8 by omega) (by decide)), nI_c, nI_1]
  refine ⟨_, rfl, hN.wr (by rw [dv_n rfl]), fun j => zu_n (by omega)⟩
/-- both refuse -/
theorem b_refuse {x : Int32} (i : Nat) (R : RC d c v u w) (hN : Nv v u) (hI : Inv D0 n v u w) (hi : i < 7) (hx : x = -1 - nI i) : ∃ c' u', fX10_refuse (da d 100 0) x (cB d c) = some (x, cB d c') ∧ fX11_refuse q x (mB q z u w) = some (x, mB q z u' w) ∧ Jx (da d 100 0) q (n + 1) (cB d c') (mB q z u' w) := by
  have e1 : (-1) - x = nI i := by
    subst hx
    rcases (show i = 0 ∨ i = 1 ∨ i = 2 ∨ i = 3 ∨ i = 4 ∨ i = 5 ∨ i = 6 by omega) with rfl | rfl | rfl | rfl | rfl | rfl | rfl <;> decide
  have e2 : -x = nI (i + 1) := by
    subst hx
    rcases (show i = 0 ∨ i = 1 ∨ i = 2 ∨ i = 3 ∨ i = 4 ∨ i = 5 ∨ i = 6 by omega) with rfl | rfl | rfl | rfl | rfl | rfl | rfl <;> decide
  obtain ⟨c', r1, r2⟩ := e_refuse R hi e1
  obtain ⟨u', s1, s2, s3⟩ := s_refuse (q := q) (z := z) (w := w) hN hi e2
  exact ⟨c', u', r1, s1, d, c', _, u', w, z, rfl, rfl, rfl, r2.uw s3 (fun _ => rfl), s2, (hI.refuse).uw s3⟩
/-- both look whether a thing is NEAR -/
theorem b_near [Decidable (Near v t)] (R : RC d c v u w) (hI : iT v) (hN : Nv v u) (ht : t < v 9 0) : ∃ c' u', fX10_isNear (da d 100 0) (some (da d 1 t)) (cB d c) = some (if Near v t then 1 else 0, cB d c') ∧ fX11_isNear q (nI t) (mB q z u w) = some (if Near v t then 1 else 0, mB q z u' w) ∧ RC d c' v u' w ∧ Nv v u' ∧ ∀ i, u' 2 i = u 2 i := by
  obtain ⟨c', a1, a2, a3⟩ := e_isNear R hI ht
  obtain ⟨u', b1, b2⟩ := s_isNear (o := q) (z := z) (w := w) hN hI ht
  exact ⟨c', u', a1, b1, a3.uw b2.u2 (fun _ => rfl), hN.sc b2, b2.u2⟩
theorem e_touch2 {h : Nat} (R : RC d c v u w) (hh : h < 8) : ∃ c', fX10_touch (da d 100 0) (nI h) (cB d c) = some ((), cB d c') ∧ RC d c' (tch v h) u w := e_touch R hh
/-- the count of a HOST, in the reference -/
theorem Nv.touch {h : Nat} (hN : Nv v u) (hh : h < 8) : xI 12 (q + 27) (nI h) (mB q z u w) = some (nI (v 30 h)) ∧ yI (q + 27) (nI h) (nI (v 30 h) + 1) (mB q z u w) = some (mB q z (zu u 30 h (nI (v 30 h + 1))) w) ∧ Nv (tch v h) (zu u 30 h (nI (v 30 h + 1))) := by
  refine ⟨?_, ?_, hN.wr (by rw [dv_n rfl])⟩
  · rw [mX30, mI_n hh (by decide), hN.k30]
  · rw [mY30 (mC_n hh (by decide)), nI_c (by omega), nI_1]
end GL
