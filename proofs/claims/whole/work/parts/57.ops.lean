/-! A place changes; a thing is made: what holds between calls goes on. -/
def plc (v : Nu) (t p a b e : Nat) : Nu := zu (zu (zu v 10 (8 * t + p) a) 11 (8 * t + p) b) 12 (8 * t + p) e
def mk5 (v : Nu) (kd h pl m wt : Nat) : Nu := zu (zu (mkv v kd h pl) 5 (v 9 0) m) 6 (v 9 0) wt
section OP
variable {n t p a b e x y : Nat} {D : Nat → Prop} {v v' : Nu} {u u' : Mu} {w w' : Me}
theorem iL.lt (hL : iL v) {l : Nat} (hl : l < v 24 0) : v 17 l < v 9 0 := (hL.2.1 l hl).2.2.2.1
theorem Mt.lt (hT : iT v) (hL : iL v) (hW : iW v) (h : Mt v x) : x < v 9 0 := by
  refine h (fun x => x < v 9 0) ?_ ?_
  · rintro b (h | ⟨l, h1, h2, h3, h4⟩ | ⟨k, h1, h2⟩)
    · exact h.1
    · rw [← h4]; exact hL.lt h1
    · rw [← h2]; exact (hW.2 k h1).1
  · rintro x y hx (⟨q, hq, hd⟩ | ⟨h3, h5⟩)
    · simp only [hdv] at hd
      by_cases e : v 10 (8 * x + q) = 1
      · rw [if_pos e] at hd
        have := Option.some.inj hd
        subst this
        exact ((hT.pl hx hq).2.1 e).1
      · rw [if_neg e] at hd
        cases hd
    · obtain ⟨⟨m, m1, m2, -⟩, -⟩ := hT.g hx h3
      omega
theorem LEv.at (h : LEv v x y) : ∃ q, q < v 3 x ∧ v 10 (8 * x + q) = 1 ∧ v 11 (8 * x + q) = y := by
  obtain ⟨q, hq, hd⟩ := h
  simp only [hdv] at hd
  by_cases e : v 10 (8 * x + q) = 1
  · rw [if_pos e] at hd
    exact ⟨q, hq, e, Option.some.inj hd⟩
  · rw [if_neg e] at hd
    cases hd
theorem LEv.mk {q : Nat} (h1 : q < v 3 x) (h2 : v 10 (8 * x + q) = 1) (h3 : v 11 (8 * x + q) = y) : LEv v x y := ⟨q, h1, by simp only [hdv]; rw [if_pos h2, h3]⟩
theorem plc_in : plc v t p a b e 10 (8 * t + p) = a ∧ plc v t p a b e 11 (8 * t + p) = b ∧ plc v t p a b e 12 (8 * t + p) = e := by
  refine ⟨?_, ?_, ?_⟩ <;> simp [plc, zu]
theorem plc_n {k i : Nat} (h : ¬ (10 ≤ k ∧ k ≤ 12 ∧ i = 8 * t + p)) : plc v t p a b e k i = v k i := by
  simp only [plc]
  rw [zu_n (by omega), zu_n (by omega), zu_n (by omega)]
theorem Inv.uf (h : Inv D n v u w) (hu : ∀ i, v 9 0 ≤ i → u' 2 i = u 2 i) : Inv D n v u' w := by
  refine ⟨h.1, fun t h1 h2 => ?_, h.2.2⟩
  rw [hu t h1]
  exact h.2.1 t h1 h2
/-- a place changes -/
theorem Inv.atPl (h : Inv D n v u w) (ht : t < v 9 0) (hp : p < v 3 t) (h7 : v 7 t = 0) (hD : D (v 1 t)) (ha : a ≤ 2) (h1 : a = 1 → b < v 9 0 ∧ v 1 b = v 1 t ∧ v 7 b = 0 ∧ ∀ x, Cl (MtE v) (fun y => y = b) x → v 7 x = 0 ∧ v 8 x = 0) (h2 : a = 2 → b ≤ 3 ∧ e ≤ 32) : Inv D n (plc v t p a b e) u w := by
  obtain ⟨hT, hF, hL, hW, hC, hK, hX, hS, hG, hQ, hM⟩ := h
  have h3t := (hT.k ht).2.2.1
  obtain ⟨i10, i11, i12⟩ := plc_in (v := v) (t := t) (p := p) (a := a) (b := b) (e := e)
  have hT' : iT (plc v t p a b e) := by
    refine ⟨hT.1, fun s hs => ?_⟩
    obtain ⟨c1, c2, c3, c4, c5, c6, c7, c8, c9, c10, c11, c12, c13⟩ := hT.2 s hs
    refine ⟨c1, c2, c3, c4, c5, c6, c7, c8, c9, c10, c11, c12, fun q hq => ?_⟩
    have hq' : q < v 3 s := hq
    by_cases es : s = t ∧ q = p
    · obtain ⟨rfl, rfl⟩ := es
      rw [i10, i11, i12]
      exact ⟨ha, fun e1 => ⟨(h1 e1).1, (h1 e1).2.1, fun _ => (h1 e1).2.2.1⟩, h2⟩
    · rw [plc_n (k := 10) (by omega), plc_n (k := 11) (by omega), plc_n (k := 12) (by omega)]
      exact c13 q hq
  refine ⟨hT', fun s h1 h2 => ?_, hL, hW, hC, hK.loc hT hT' (fun g hg hd => ?_) (fun _ _ => rfl) (Nat.le_refl _) (fun _ _ => ⟨rfl, rfl⟩) (fun f i hf => plc_n (by omega)) (fun _ => rfl), hX, hS, hG, hQ, fun x hx => ?_⟩
  · obtain ⟨c1, c2, c3, c4, c5, c6, c7⟩ := hF s h1 h2
    refine ⟨c1, c2, c3, c4, c5, fun q hq => ?_, c7⟩
    have h1' : v 9 0 ≤ s := h1
    rw [plc_n (by omega)]
    exact c6 q hq
  · refine ⟨fun x hx hg' => ⟨hx, hg', rfl, rfl, rfl, rfl, rfl, rfl, Iff.rfl, fun q hq => ?_⟩, fun x hx hg' => ⟨hx, hg'⟩⟩
    have hne : x ≠ t := fun e2 => hd (by rw [← hg', e2]; exact hD)
    have h3x := (hT.k hx).2.2.1
    exact ⟨plc_n (by omega), fun _ => plc_n (by omega)⟩
  · have key : Mt v x ∨ (a = 1 ∧ Cl (MtE v) (fun y => y = b) x) := by
      refine hx (fun x => Mt v x ∨ (a = 1 ∧ Cl (MtE v) (fun y => y = b) x)) (fun b hb => Or.inl (Cl.base hb)) ?_
      intro x y hS hE
      have hold : MtE v x y ∨ (a = 1 ∧ y = b) := by
        rcases hE with hE | hE
        · obtain ⟨q, q1, q2, q3⟩ := hE.at
          by_cases es : x = t ∧ q = p
          · obtain ⟨rfl, rfl⟩ := es
            rw [i10] at q2
            rw [i11] at q3
            exact Or.inr ⟨q2, q3.symm⟩
          · by_cases ei : 8 * x + q = 8 * t + p
            · rw [ei, i10] at q2
              rw [ei, i11] at q3
              exact Or.inr ⟨q2, q3.symm⟩
            · rw [plc_n (by omega)] at q2 q3
              exact Or.inl (Or.inl (LEv.mk q1 q2 q3))
        · exact Or.inl (Or.inr hE)
      rcases hold with hold | ⟨e1, e2⟩
      · rcases hS with hS | ⟨s1, s2⟩
        · exact Or.inl (hS.step hold)
        · exact Or.inr ⟨s1, s2.step hold⟩
      · exact Or.inr ⟨e1, Cl.base e2⟩
    rcases key with key | ⟨k1, k2⟩
    · exact hM x key
    · exact (h1 k1).2.2.2 x k2
/-- of what is meant, what it means -/
theorem iM.from (hM : iM v) (hb : Mt v b) : ∀ x, Cl (MtE v) (fun y => y = b) x → v 7 x = 0 ∧ v 8 x = 0 := fun x hx => hM x (hx (Mt v) (fun y hy => by rw [hy]; exact hb) (fun _ _ h1 h2 => h1.step h2))
/-- NEAR is meant -/
theorem Near.mt (h : Near v x) : Mt v x := h (Mt v) (fun b hb => Cl.base (Or.inl ⟨hb.1, hb.2.2.2⟩)) (fun _ _ h1 h2 => h1.step (Or.inl h2))
/-! a thing is made -/
theorem fb_sm_no {f : Nat → Nat} {m : Nat} (h : ∀ k, k < m → f k = 0) : fb_sm f m = 0 := by
  rw [fb_sm_cong (g := fun _ => 0) h, fb_sm_const]
  omega
section MK5
variable {kd h pl m wt : Nat}
theorem mk5_9 : mk5 v kd h pl m wt 9 0 = v 9 0 + 1 := mkv_9 (kd := kd) (h := h) (pl := pl)
theorem mk5_at : mk5 v kd h pl m wt 0 (v 9 0) = kd ∧ mk5 v kd h pl m wt 1 (v 9 0) = h ∧ mk5 v kd h pl m wt 3 (v 9 0) = pl ∧ mk5 v kd h pl m wt 5 (v 9 0) = m ∧ mk5 v kd h pl m wt 6 (v 9 0) = wt := by
  refine ⟨?_, ?_, ?_, ?_, ?_⟩ <;> simp [mk5, mkv, zu]
theorem mk5_n {k i : Nat} (hi : i ≠ v 9 0) (hk : ¬ (k = 9 ∧ i = 0)) : mk5 v kd h pl m wt k i = v k i := by
  simp only [mk5, mkv]
  rw [zu_n (by omega), zu_n (by omega), zu_n (by omega), zu_n (by omega), zu_n (by omega), zu_n (by omega), zu_n (by omega)]
theorem mk5_0 {i : Nat} (hi : i < v 9 0) : mk5 v kd h pl m wt 0 i = v 0 i ∧ mk5 v kd h pl m wt 1 i = v 1 i ∧ mk5 v kd h pl m wt 3 i = v 3 i ∧ mk5 v kd h pl m wt 5 i = v 5 i ∧ mk5 v kd h pl m wt 6 i = v 6 i := ⟨mk5_n (by omega) (by omega), mk5_n (by omega) (by omega), mk5_n (by omega) (by omega), mk5_n (by omega) (by omega), mk5_n (by omega) (by omega)⟩
theorem mk5_eq (hw : v 6 (v 9 0) = 0) : mk5 v kd h pl 0 0 = mkv v kd h pl := by
  funext k i
  simp only [mk5, mkv, zu]
  by_cases e1 : k = 6 ∧ i = v 9 0
  · obtain ⟨rfl, rfl⟩ := e1
    simp [hw]
  · rw [if_neg e1]
    by_cases e2 : k = 5 ∧ i = v 9 0
    · obtain ⟨rfl, rfl⟩ := e2
      simp
    · rw [if_neg e2]
theorem iT.mkx (hT : iT v) (hF : iF v u) (h300 : v 9 0 < 300) (hh : h < 8) (hkd : kd ≤ 3) (hpl : pl ≤ 8) (hp0 : kd = 0 ∨ kd = 3 → pl = 0) (hp1 : kd = 1 ∨ kd = 2 → 1 ≤ pl) (hg : kd = 3 → (∃ a, m = a + 1 ∧ a < v 9 0 ∧ v 0 a ≠ 3 ∧ v 1 a ≠ h) ∧ 1 ≤ wt ∧ wt ≤ 40000) (hng : kd ≠ 3 → m = 0 ∧ wt = 0) : iT (mk5 v kd h pl m wt) := by
  obtain ⟨t0, t1, t3, t5, t6⟩ := mk5_at (v := v) (kd := kd) (h := h) (pl := pl) (m := m) (wt := wt)
  refine ⟨by rw [mk5_9]; omega, fun s hs => ?_⟩
  rw [mk5_9] at hs ⊢
  by_cases es : s = v 9 0
  · subst es
    obtain ⟨f1, f2, f3, f4, f5, f6, f7⟩ := hF _ (Nat.le_refl _) h300
    rw [t0, t1, t3, t5, t6]
    have e7 : mk5 v kd h pl m wt 7 (v 9 0) = 0 := f4
    have e8 : mk5 v kd h pl m wt 8 (v 9 0) = 0 := f5
    have e4 : mk5 v kd h pl m wt 4 (v 9 0) = 0 := f2
    rw [e7, e8, e4]
    refine ⟨hkd, hh, hpl, by omega, by omega, by omega, ?_, fun _ => rfl, hp1, hp0, fun e => ?_, hng, fun p hp => ?_⟩
    · by_cases e : kd = 3
      · exact (hg e).2.2
      · rw [(hng e).2]; omega
    · obtain ⟨⟨a, a1, a2, a3, a4⟩, a5, -⟩ := hg e
      refine ⟨⟨a, a1, by omega, ?_, ?_⟩, rfl, rfl, a5⟩
      · rw [(mk5_0 a2).1]; exact a3
      · rw [(mk5_0 a2).2.1]; exact a4
    · have e10 : mk5 v kd h pl m wt 10 (8 * v 9 0 + p) = 0 := f6 p (by omega)
      rw [e10]
      exact ⟨by omega, fun e => by omega, fun e => by omega⟩
  · have hs' : s < v 9 0 := by omega
    obtain ⟨c1, c2, c3, c4, c5, c6, c7, c8, c9, c10, c11, c12, c13⟩ := hT.2 s hs'
    obtain ⟨g0, g1, g3, g5, g6⟩ := mk5_0 (v := v) (kd := kd) (h := h) (pl := pl) (m := m) (wt := wt) hs'
    rw [g0, g1, g3, g5, g6]
    refine ⟨c1, c2, c3, c4, c5, c6, c7, c8, c9, c10, fun e => ?_, c12, fun p hp => ?_⟩
    · obtain ⟨⟨a, a1, a2, a3, a4⟩, a5⟩ := c11 e
      refine ⟨⟨a, a1, by omega, ?_, ?_⟩, a5⟩
      · rw [(mk5_0 a2).1]; exact a3
      · rw [(mk5_0 a2).2.1]; exact a4
    · obtain ⟨q1, q2, q3⟩ := c13 p hp
      refine ⟨q1, fun e => ?_, q3⟩
      obtain ⟨r1, r2, r3⟩ := q2 e
      have e11 : mk5 v kd h pl m wt 11 (8 * s + p) = v 11 (8 * s + p) := rfl
      rw [e11]
      refine ⟨by omega, ?_, r3⟩
      rw [(mk5_0 r1).2.1]
      exact r2
theorem iL.mkx (hL : iL v) : iL (mk5 v kd h pl m wt) := by
  refine ⟨hL.1, fun l hl => ?_, hL.2.2⟩
  obtain ⟨o1, o2, o3, o4, o5, o6, o7, o8, o9, o10, o11, o12, o13, o14⟩ := hL.2.1 l hl
  have e17 : mk5 v kd h pl m wt 17 l = v 17 l := rfl
  refine ⟨o1, o2, o3, by rw [mk5_9, e17]; omega, by rw [e17, (mk5_0 o4).1]; exact o5, o6, o7, fun e => ?_, o9, fun e => by rw [e17, (mk5_0 o4).2.1]; exact o10 e, o11, o12, o13, o14⟩
  obtain ⟨r, p, a1, a2, a3, a4, a5, a6, a7⟩ := o8 e
  obtain ⟨g0, g1, g3, g5, g6⟩ := mk5_0 (v := v) (kd := kd) (h := h) (pl := pl) (m := m) (wt := wt) a3
  exact ⟨r, p, a1, a2, by rw [mk5_9]; omega, by rw [g0]; exact a4, by rw [g1]; exact a5, by rw [g3]; exact a6, a7⟩
theorem iW.mkx (hW : iW v) : iW (mk5 v kd h pl m wt) := by
  refine ⟨hW.1, fun k hk => ?_⟩
  obtain ⟨a1, a2, a3, a4, a5, a6⟩ := hW.2 k hk
  have e26 : mk5 v kd h pl m wt 26 k = v 26 k := rfl
  have e27 : mk5 v kd h pl m wt 27 k = v 27 k := rfl
  rw [mk5_9, e26, e27, (mk5_0 a1).1, (mk5_0 a4).1, (mk5_0 a4).2.2.1]
  exact ⟨by omega, a2, a3, by omega, a5, a6⟩
theorem iF.mkx (hF : iF v u) : iF (mk5 v kd h pl m wt) u := by
  intro s h1 h2
  rw [mk5_9] at h1
  obtain ⟨c1, c2, c3, c4⟩ := hF s (by omega) h2
  exact ⟨c1, c2, by rw [mk5_n (by omega) (by omega)]; exact c3, c4⟩
theorem iQ.mkx (hQ : iQ v) (hW : iW v) : iQ (mk5 v kd h pl m wt) := by
  intro g s
  refine Eq.trans (hQ g s) ?_
  refine fb_ct_cong (fun k hk => ?_)
  obtain ⟨a1, -⟩ := hW.2 k hk
  have e26 : mk5 v kd h pl m wt 26 k = v 26 k := rfl
  simp only [qwai]
  rw [e26, (mk5_0 a1).2.1, (mk5_0 a1).2.2.2.1]
theorem iK.mkx (hT : iT v) (hT' : iT (mk5 v kd h pl m wt)) (hK : iK D n v w) (hD : D h) : iK D n (mk5 v kd h pl m wt) w := by
  have hb := hT'.1
  rw [mk5_9] at hb
  obtain ⟨t0, t1, t3, t5, t6⟩ := mk5_at (v := v) (kd := kd) (h := h) (pl := pl) (m := m) (wt := wt)
  refine hK.loc hT hT' (fun g hg hd => ⟨fun x hx hg' => ?_, fun x hx hg' => ?_⟩) (fun _ _ => rfl) (by rw [mk5_9]; omega) (fun x hx => ⟨(mk5_0 hx).1, (mk5_0 hx).2.1⟩) (fun f i hf => ?_) (fun _ => rfl)
  · obtain ⟨g0, g1, g3, g5, g6⟩ := mk5_0 (v := v) (kd := kd) (h := h) (pl := pl) (m := m) (wt := wt) hx
    exact ⟨by rw [mk5_9]; omega, by rw [g1]; exact hg', g0, g3, rfl, g6, rfl, rfl, Iff.rfl, fun _ _ => ⟨rfl, fun _ => rfl⟩⟩
  · rw [mk5_9] at hx
    by_cases es : x = v 9 0
    · subst es
      rw [t1] at hg'
      subst hg'
      exact absurd hD hd
    · have hx' : x < v 9 0 := by omega
      exact ⟨hx', by rw [← hg', (mk5_0 hx').2.1]⟩
  · simp only [mk5, mkv]
    rw [zu_n (by omega), zu_n (by omega), zu_n (by omega), zu_n (by omega), zu_n (by omega), zu_n (by omega), zu_n (by omega)]
theorem iM.mkx (hT : iT v) (hF : iF v u) (hL : iL v) (hW : iW v) (h300 : v 9 0 < 300) (hpl : pl ≤ 8) (hM : iM v) : iM (mk5 v kd h pl m wt) := by
  obtain ⟨t0, t1, t3, t5, t6⟩ := mk5_at (v := v) (kd := kd) (h := h) (pl := pl) (m := m) (wt := wt)
  obtain ⟨f1, f2, f3, f4, f5, f6, f7⟩ := hF _ (Nat.le_refl _) h300
  intro x hx
  have key : Mt v x ∨ (x = v 9 0 ∧ kd ≠ 3) := by
    refine hx (fun x => Mt v x ∨ (x = v 9 0 ∧ kd ≠ 3)) ?_ ?_
    · rintro b (⟨b1, b2⟩ | hb | hb)
      · rw [mk5_9] at b1
        by_cases es : b = v 9 0
        · subst es
          rw [t0] at b2
          exact Or.inr ⟨rfl, by omega⟩
        · have hb' : b < v 9 0 := by omega
          rw [(mk5_0 hb').1] at b2
          exact Or.inl (Cl.base (Or.inl ⟨hb', b2⟩))
      · exact Or.inl (Cl.base (Or.inr (Or.inl hb)))
      · exact Or.inl (Cl.base (Or.inr (Or.inr hb)))
    · rintro x y hS hE
      rcases hS with hS | ⟨rfl, hk3⟩
      · have hx' := hS.lt hT hL hW
        obtain ⟨g0, g1, g3, g5, g6⟩ := mk5_0 (v := v) (kd := kd) (h := h) (pl := pl) (m := m) (wt := wt) hx'
        left
        refine hS.step ?_
        rcases hE with hE | ⟨e1, e2⟩
        · obtain ⟨q, q1, q2, q3⟩ := hE.at
          rw [g3] at q1
          exact Or.inl (LEv.mk q1 q2 q3)
        · rw [g0] at e1
          rw [g5] at e2
          exact Or.inr ⟨e1, e2⟩
      · exfalso
        rcases hE with hE | ⟨e1, e2⟩
        · obtain ⟨q, q1, q2, q3⟩ := hE.at
          rw [t3] at q1
          have e10 : mk5 v kd h pl m wt 10 (8 * v 9 0 + q) = 0 := f6 q (by omega)
          rw [e10] at q2
          cases q2
        · rw [t0] at e1
          exact hk3 e1
  rcases key with key | ⟨rfl, -⟩
  · exact hM x key
  · exact ⟨f4, f5⟩
end MK5
end OP
