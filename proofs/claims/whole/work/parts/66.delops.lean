/-! A letter is delivered: what holds between calls. -/
def tkv (v : Nu) (t wt : Nat) : Nu := zu (zu v 4 t (v 4 t - wt)) 8 t (if v 4 t - wt = 0 then 0 else v 8 t)
section DO
variable {n t p x y h s l g wt : Nat} {D : Nat → Prop} {v v' : Nu} {u u' : Mu} {w w' : Me}
theorem lsum_23 (hl : l < v 24 0) (h1 : v 23 l = 1) : lsum (zu v 23 l 0) s + (if v 17 l = s then v 18 l else 0) = lsum v s := by
  have e1 : lsum (zu v 23 l 0) s = fb_sm (fun k => if k = l then 0 else (if v 23 k = 1 ∧ v 17 k = s then v 18 k else 0)) (v 24 0) := by
    refine fb_sm_cong (fun k hk => ?_)
    have e17 : zu v 23 l 0 17 k = v 17 k := rfl
    have e18 : zu v 23 l 0 18 k = v 18 k := rfl
    rw [e17, e18]
    by_cases e : k = l
    · subst e
      rw [if_pos rfl, zu_s, if_neg (by omega)]
    · rw [if_neg e, zu_n (by omega)]
  rw [e1]
  have := fb_sm_upd (fun k => if v 23 k = 1 ∧ v 17 k = s then v 18 k else 0) 0 hl
  simp only [h1, true_and] at this
  exact this
theorem qlet_23 {hh : Nat} (hl : l < v 24 0) : fb_ct (qlet (zu v 23 l 0) hh s) (v 24 0) + (if qlet v hh s l = true then 1 else 0) = fb_ct (qlet v hh s) (v 24 0) := by
  have e1 : fb_ct (qlet (zu v 23 l 0) hh s) (v 24 0) = fb_ct (fun k => if k = l then false else qlet v hh s k) (v 24 0) := by
    refine fb_ct_cong (fun k hk => ?_)
    by_cases e : k = l
    · subst e
      rw [if_pos rfl]
      cases e2 : qlet (zu v 23 k 0) hh s k with
      | false => rfl
      | true =>
        have := (qlet_iff.mp e2).1
        rw [zu_s] at this
        cases this
    · rw [if_neg e]
      simp only [qlet]
      rw [zu_n (by omega)]
      rfl
  rw [e1]
  have := fb_ct_upd (qlet v hh s) false hl
  simp only [Bool.false_eq_true, if_false, Nat.add_zero] at this
  exact this
theorem iL.came (hL : iL v) : iL (zu v 23 l 0) := by
  refine ⟨hL.1, fun k hk => ?_, hL.2.2⟩
  obtain ⟨o1, o2, o3, o4, o5, o6, o7, o8⟩ := hL.2.1 k hk
  refine ⟨o1, o2, o3, o4, o5, ?_, o7, o8⟩
  by_cases e : k = l
  · subst e
    rw [zu_s]
    omega
  · rw [zu_n (by omega)]
    exact o6
theorem iM.came (hM : iM v) : iM (zu v 23 l 0) := by
  intro x hx
  refine hM x (hx (Mt v) ?_ (fun x y hS hE => hS.step hE))
  rintro b (hb | ⟨k, h1, h2, h3, h4⟩ | hb)
  · exact Cl.base (Or.inl hb)
  · by_cases e : k = l
    · subst e
      rw [zu_s] at h2
      cases h2
    · rw [zu_n (by omega)] at h2
      exact Cl.base (Or.inr (Or.inl ⟨k, h1, h2, h3, h4⟩))
  · exact Cl.base (Or.inr (Or.inr hb))
theorem lsum_ge (hl : l < v 24 0) (h1 : v 23 l = 1) : v 18 l ≤ lsum v (v 17 l) := by
  have := fb_sm_part (fun k => if v 23 k = 1 ∧ v 17 k = v 17 l then v 18 k else 0) hl
  simp only [h1, true_and, if_true] at this
  simp only [lsum]
  omega
theorem gsum_ge (hg : g < v 9 0) (h7 : v 7 g = 0) (h3 : v 0 g = 3) (h5 : v 5 g = t + 1) : v 6 g ≤ gsum v t := by
  have := fb_sm_part (fun k => if v 7 k = 0 ∧ v 0 k = 3 ∧ v 5 k = t + 1 then v 6 k else 0) hg
  simp only [h7, h3, h5, true_and, if_true] at this
  simp only [gsum]
  omega
theorem iT.brk {e : Nat} (hT : iT v) (h3 : v 0 t ≠ 3) (he : e ≤ 1) : iT (zu v 8 t e) := by
  refine ⟨hT.1, fun s hs => ?_⟩
  obtain ⟨c1, c2, c3, c4, c5, c6, c7, c8, c9, c10, c11, c12, c13⟩ := hT.2 s hs
  by_cases e1 : s = t
  · subst e1
    exact ⟨c1, c2, c3, c4, by rw [zu_s]; exact he, c6, c7, c8, c9, c10, fun h => absurd h h3, c12, c13⟩
  · have e4 : zu v 8 t e 8 s = v 8 s := zu_n (by omega)
    exact ⟨c1, c2, c3, c4, by rw [e4]; exact c5, c6, c7, c8, c9, c10, fun h => by rw [e4]; exact c11 h, c12, c13⟩
theorem tkv_4 : tkv v t wt 4 t = v 4 t - wt := by
  show zu v 4 t (v 4 t - wt) 4 t = _
  exact zu_s
theorem tkv_8 : tkv v t wt 8 t = (if v 4 t - wt = 0 then 0 else v 8 t) := zu_s
theorem tkv_n {k i : Nat} (h : i ≠ t ∨ (k ≠ 4 ∧ k ≠ 8)) : tkv v t wt k i = v k i := by
  simp only [tkv]
  rw [zu_n (by omega), zu_n (by omega)]
/-- its WEIGHT is taken from an EXIT -/
theorem Inv.takes (hI : Inv D n v u w) (hl : l < v 24 0) (h23 : v 23 l = 1) (h14 : v 14 l = 0 ∨ v 14 l = 3) (hD : D (v 1 (v 17 l))) : Inv D n (tkv (zu v 23 l 0) (v 17 l) (v 18 l)) u w := by
  obtain ⟨hT, hF, hL, hW, hC, hK, hX, hS, hG, hQ, hM⟩ := hI
  obtain ⟨o1, o2, o3, o4, o5, o6, -⟩ := hL.2.1 l hl
  have k8 := (hT.k o4).2.2.2.2.1
  have k4 := (hT.k o4).2.2.2.2.2.1
  have hT1 : iT (tkv (zu v 23 l 0) (v 17 l) (v 18 l)) := by
    refine iT.brk (v := zu (zu v 23 l 0) 4 (v 17 l) (v 4 (v 17 l) - v 18 l)) (iT.exit (v := zu v 23 l 0) hT o4 o5 (by omega)) o5 ?_
    show (if v 4 (v 17 l) - v 18 l = 0 then 0 else v 8 (v 17 l)) ≤ 1
    split <;> omega
  have e4 : tkv (zu v 23 l 0) (v 17 l) (v 18 l) 4 (v 17 l) = v 4 (v 17 l) - v 18 l := tkv_4
  have e8 : tkv (zu v 23 l 0) (v 17 l) (v 18 l) 8 (v 17 l) = (if v 4 (v 17 l) - v 18 l = 0 then 0 else v 8 (v 17 l)) := tkv_8
  have en : ∀ k i, i ≠ v 17 l ∨ (k ≠ 4 ∧ k ≠ 8) → k ≠ 23 → tkv (zu v 23 l 0) (v 17 l) (v 18 l) k i = v k i := fun k i hk h2 => by
    rw [tkv_n hk, zu_n (by omega)]
  have hge := lsum_ge hl h23
  refine ⟨hT1, fun s h1 h2 => ?_, hL.came, hW, hC, ?_, hX, fun s hs h3 => ?_, hG, fun g s => ?_, fun x hx => ?_⟩
  · obtain ⟨c1, c2, c3, c4, c5, c6⟩ := hF s h1 h2
    have h1' : v 9 0 ≤ s := h1
    exact ⟨c1, by rw [en 4 s (by omega) (by decide)]; exact c2, c3, c4, by rw [en 8 s (by omega) (by decide)]; exact c5, c6⟩
  · refine hK.loc hT hT1 (fun g hg hd => ⟨fun x hx hg' => ?_, fun x hx hg' => ⟨hx, hg'⟩⟩) (fun _ _ => rfl) (Nat.le_refl _) (fun _ _ => ⟨rfl, rfl⟩) (fun f i hf => en f i (by omega) (by omega)) (fun _ => rfl)
    have hne : x ≠ v 17 l := fun e => hd (by rw [← hg', e]; exact hD)
    exact ⟨hx, hg', rfl, rfl, en 4 x (by omega) (by decide), rfl, rfl, en 8 x (by omega) (by decide), Iff.rfl, fun _ _ => ⟨rfl, fun _ => rfl⟩⟩
  · obtain ⟨s1, s2⟩ := hS s hs h3
    have q1 : gsum (tkv (zu v 23 l 0) (v 17 l) (v 18 l)) s = gsum v s := rfl
    have q2 : lsum (tkv (zu v 23 l 0) (v 17 l) (v 18 l)) s = lsum (zu v 23 l 0) s := rfl
    have q3 := lsum_23 (s := s) hl h23
    rw [q1, q2]
    by_cases e : s = v 17 l
    · subst e
      rw [if_pos rfl] at q3
      rw [e4]
      omega
    · rw [if_neg (fun h => e h.symm)] at q3
      rw [en 4 s (by omega) (by decide)]
      omega
  · have q2 : fb_ct (qlet (tkv (zu v 23 l 0) (v 17 l) (v 18 l)) g s) (v 24 0) = fb_ct (qlet (zu v 23 l 0) g s) (v 24 0) := rfl
    have q3 := qlet_23 (hh := g) (s := s) hl
    rw [if_neg (fun h => by have := (qlet_iff.mp h).2.2; omega)] at q3
    exact (q2.trans q3).trans (hQ g s)
  · have hx' : Mt (zu v 23 l 0) x := hx
    obtain ⟨m1, m2⟩ := hM.came x hx'
    refine ⟨m1, ?_⟩
    by_cases e : x = v 17 l
    · subst e
      rw [e8]
      have : v 8 (v 17 l) = 0 := m2
      rw [this]
      split <;> rfl
    · rw [en 8 x (by omega) (by decide)]
      exact m2
/-- a GATE gets a NAME's WEIGHT -/
theorem Inv.gmore (hI : Inv D n v u w) (hl : l < v 24 0) (h23 : v 23 l = 1) (h14 : v 14 l = 0) (hg : g < v 9 0) (h7 : v 7 g = 0) (h3 : v 0 g = 3) (h5 : v 5 g = v 17 l + 1) (hD : D (v 1 g)) : Inv D n (zu (zu v 23 l 0) 6 g (v 6 g + v 18 l)) u w := by
  obtain ⟨hT, hF, hL, hW, hC, hK, hX, hS, hG, hQ, hM⟩ := hI
  obtain ⟨o1, o2, o3, o4, o5, o6, -⟩ := hL.2.1 l hl
  have k4 := (hT.k o4).2.2.2.2.2.1
  have hge := lsum_ge hl h23
  have gge := gsum_ge hg h7 h3 h5
  have hs0 := (hS _ o4 o5).1
  have g1 := (hT.g hg h3).2.2.2
  have hT1 : iT (zu (zu v 23 l 0) 6 g (v 6 g + v 18 l)) := iT.weight (v := zu v 23 l 0) hT hg h3 (by omega)
  refine ⟨hT1, iF.weight (v := zu v 23 l 0) hF hg, hL.came, hW, hC, ?_, hX, fun s hs hs3 => ?_, hG, fun h s => ?_, hM.came⟩
  · refine hK.loc hT hT1 (fun h hh hd => ?_) (fun _ _ => rfl) (Nat.le_refl _) (fun _ _ => ⟨rfl, rfl⟩) (fun f i hf => by rw [zu_n (by omega), zu_n (by omega)]) (fun _ => rfl)
    exact loc_weight (v := zu v 23 l 0) (fun e => hd (by rw [← e]; exact hD))
  · obtain ⟨s1, s2⟩ := hS s hs hs3
    have q1 := gsum_6 (v := zu v 23 l 0) (g := g) (e := v 6 g + v 18 l) (s := s) hg
    have q1a : gsum (zu v 23 l 0) s = gsum v s := rfl
    have q2 : lsum (zu (zu v 23 l 0) 6 g (v 6 g + v 18 l)) s = lsum (zu v 23 l 0) s := rfl
    have q3 := lsum_23 (s := s) hl h23
    have q4 : zu (zu v 23 l 0) 6 g (v 6 g + v 18 l) 4 s = v 4 s := rfl
    have q5 : zu v 23 l 0 6 g = v 6 g := rfl
    rw [q2, q4]
    rw [q1a, q5] at q1
    by_cases e : s = v 17 l
    · subst e
      rw [if_pos ⟨h7, h3, h5⟩, if_pos ⟨h7, h3, h5⟩] at q1
      rw [if_pos rfl] at q3
      omega
    · rw [if_neg (fun h => e (by have : v 5 g = s + 1 := h.2.2; omega)), if_neg (fun h => e (by have : v 5 g = s + 1 := h.2.2; omega))] at q1
      rw [if_neg (fun h => e h.symm)] at q3
      omega
  · have q2 : fb_ct (qlet (zu (zu v 23 l 0) 6 g (v 6 g + v 18 l)) h s) (v 24 0) = fb_ct (qlet (zu v 23 l 0) h s) (v 24 0) := rfl
    have q3 := qlet_23 (hh := h) (s := s) hl
    rw [if_neg (fun h => by have := (qlet_iff.mp h).2.2; omega)] at q3
    exact (q2.trans q3).trans (hQ h s)
/-- a new GATE gets it -/
theorem Inv.gnew {hst : Nat} (hI : Inv D n v u w) (hl : l < v 24 0) (h23 : v 23 l = 1) (h14 : v 14 l = 0) (h300 : v 9 0 < 300) (hh : hst < 8) (hne : v 1 (v 17 l) ≠ hst) (hno : ∀ g, g < v 9 0 → v 7 g = 0 → v 0 g = 3 → v 1 g = hst → v 5 g ≠ v 17 l + 1) (hD : D hst) : Inv D n (mk5 (zu v 23 l 0) 3 hst 0 (v 17 l + 1) (v 18 l)) u w := by
  obtain ⟨hT, hF, hL, hW, hC, hK, hX, hS, hG, hQ, hM⟩ := hI
  obtain ⟨o1, o2, o3, o4, o5, o6, o7, o8, -⟩ := hL.2.1 l hl
  obtain ⟨r, p, -, -, -, -, -, -, o18⟩ := o8 h14
  obtain ⟨f1, f2, f3, f4, f5, f6, f7⟩ := hF _ (Nat.le_refl _) h300
  have k4 := (hT.k o4).2.2.2.2.2.1
  have hge := lsum_ge hl h23
  have hs0 := (hS _ o4 o5).1
  have hT0 : iT (zu v 23 l 0) := hT
  have hF0 : iF (zu v 23 l 0) u := hF
  have hW0 : iW (zu v 23 l 0) := hW
  have hK0 : iK D n (zu v 23 l 0) w := hK
  have hQ0 : iQ (zu v 23 l 0) := fun h s => by
    have q3 := qlet_23 (hh := h) (s := s) hl
    rw [if_neg (fun h => by have := (qlet_iff.mp h).2.2; omega)] at q3
    exact q3.trans (hQ h s)
  have hT1 : iT (mk5 (zu v 23 l 0) 3 hst 0 (v 17 l + 1) (v 18 l)) := hT0.mkx hF0 h300 hh (by decide) (by decide) (fun _ => rfl) (fun e => by omega) (fun _ => ⟨⟨v 17 l, rfl, o4, o5, hne⟩, o18, by omega⟩) (fun e => absurd rfl e)
  obtain ⟨t0, t1, t3, t5, t6⟩ := mk5_at (v := zu v 23 l 0) (kd := 3) (h := hst) (pl := 0) (m := v 17 l + 1) (wt := v 18 l)
  have m9 : mk5 (zu v 23 l 0) 3 hst 0 (v 17 l + 1) (v 18 l) 9 0 = v 9 0 + 1 := mk5_9
  refine ⟨hT1, hF0.mkx, hL.came.mkx, hW0.mkx, ⟨hC.1, hC.2.1, fun i hi => by rw [m9]; have := hC.2.2 i hi; show v 32 i < _; omega⟩, hK0.mkx hT0 hT1 hD, hX, fun s hs hs3 => ?_, fun a b ha hb h1 h2 h3 h4 => ?_, hQ0.mkx hW0, (hM.came (l := l)).mkx hT0 hF0 hL.came hW0 h300 (by decide)⟩
  · rw [m9] at hs
    have e4 : mk5 (zu v 23 l 0) 3 hst 0 (v 17 l + 1) (v 18 l) 4 s = v 4 s := rfl
    have el : lsum (mk5 (zu v 23 l 0) 3 hst 0 (v 17 l + 1) (v 18 l)) s = lsum (zu v 23 l 0) s := rfl
    have q3 := lsum_23 (s := s) hl h23
    have q1 := gsum_mk5 (v := zu v 23 l 0) (kd := 3) (h := hst) (pl := 0) (m := v 17 l + 1) (wt := v 18 l) (s := s) f4
    have q1a : gsum (zu v 23 l 0) s = gsum v s := rfl
    rw [q1a] at q1
    rw [q1, e4, el]
    by_cases es : s = v 9 0
    · have b1 : gsum v s = 0 := by rw [es]; exact gsum_new hT
      have b2 : lsum v s = 0 := by rw [es]; exact lsum_new hL
      have b3 : v 4 s = 0 := by rw [es]; exact f2
      rw [if_neg (show ¬ (3 = 3 ∧ v 17 l + 1 = s + 1) by omega)]
      omega
    · have hs' : s < v 9 0 := by omega
      have hs3' : v 0 s ≠ 3 := by
        have := (mk5_0 (v := zu v 23 l 0) (kd := 3) (h := hst) (pl := 0) (m := v 17 l + 1) (wt := v 18 l) hs').1
        rw [this] at hs3
        exact hs3
      obtain ⟨s1, s2⟩ := hS s hs' hs3'
      by_cases e : s = v 17 l
      · rw [if_pos (show 3 = 3 ∧ v 17 l + 1 = s + 1 by omega)]
        rw [if_pos e.symm] at q3
        omega
      · rw [if_neg (show ¬ (3 = 3 ∧ v 17 l + 1 = s + 1) by omega)]
        rw [if_neg (fun h => e h.symm)] at q3
        omega
  · rw [m9] at ha hb
    intro h5 h6
    have t0' : mk5 (zu v 23 l 0) 3 hst 0 (v 17 l + 1) (v 18 l) 1 (v 9 0) = hst := t1
    have t5' : mk5 (zu v 23 l 0) 3 hst 0 (v 17 l + 1) (v 18 l) 5 (v 9 0) = v 17 l + 1 := t5
    have old : ∀ b, b < v 9 0 → mk5 (zu v 23 l 0) 3 hst 0 (v 17 l + 1) (v 18 l) 0 b = v 0 b ∧ mk5 (zu v 23 l 0) 3 hst 0 (v 17 l + 1) (v 18 l) 1 b = v 1 b ∧ mk5 (zu v 23 l 0) 3 hst 0 (v 17 l + 1) (v 18 l) 5 b = v 5 b := fun b hb => by
      obtain ⟨g0, g1, g3, g5, g6⟩ := mk5_0 (v := zu v 23 l 0) (kd := 3) (h := hst) (pl := 0) (m := v 17 l + 1) (wt := v 18 l) hb
      exact ⟨g0, g1, g5⟩
    by_cases ea : a = v 9 0
    · by_cases eb : b = v 9 0
      · omega
      · exfalso
        obtain ⟨g0, g1, g5⟩ := old b (by omega)
        rw [ea, t0', g1] at h5
        rw [ea, t5', g5] at h6
        rw [g0] at h4
        exact hno b (by omega) h2 h4 h5.symm h6.symm
    · obtain ⟨g0, g1, g5⟩ := old a (by omega)
      by_cases eb : b = v 9 0
      · exfalso
        rw [eb, t0', g1] at h5
        rw [eb, t5', g5] at h6
        rw [g0] at h3
        exact hno a (by omega) h1 h3 h5 h6
      · obtain ⟨j0, j1, j5⟩ := old b (by omega)
        rw [g0] at h3
        rw [j0] at h4
        rw [g1, j1] at h5
        rw [g5, j5] at h6
        exact hG a b (by omega) (by omega) h1 h2 h3 h4 h5 h6
/-- MORE -/
theorem Inv.more (hI : Inv D n v u w) (hn : n < 512) (h600 : v 24 0 < 600) (hl : l < v 24 0) (h23 : v 23 l = 1) (h14 : v 14 l = 1) (hD : D (v 1 (v 17 l))) : Inv D (n + 1) (ltz (zu (zu v 23 l 0) 4 (v 17 l) (v 4 (v 17 l) + 64)) 2 (v 16 l) (v 15 l) (v 17 l) 64 0 0 0 0) u w := by
  obtain ⟨hT, hF, hL, hW, hC, hK, hX, hS, hG, hQ, hM⟩ := hI
  obtain ⟨o1, o2, o3, o4, o5, o6, o7, o8, o9, o10, o11, o12, o13, o14⟩ := hL.2.1 l hl
  have h18 := o12 (Or.inl h14)
  have hle := (hS _ o4 o5).2
  have hT1 : iT (zu (zu v 23 l 0) 4 (v 17 l) (v 4 (v 17 l) + 64)) := iT.exit (v := zu v 23 l 0) hT o4 o5 (by omega)
  have hL1 : iL (zu (zu v 23 l 0) 4 (v 17 l) (v 4 (v 17 l) + 64)) := hL.came
  obtain ⟨a14, a15, a16, a17, a18, a19, a20, a21, a22, a23⟩ := ltz_l (v := zu (zu v 23 l 0) 4 (v 17 l) (v 4 (v 17 l) + 64)) (kd := 2) (to := v 16 l) (fr := v 15 l) (t := v 17 l) (wt := 64) (rt := 0) (pl := 0) (wk := 0) (st := 0)
  have hK' : iK D n (ltz (zu (zu v 23 l 0) 4 (v 17 l) (v 4 (v 17 l) + 64)) 2 (v 16 l) (v 15 l) (v 17 l) 64 0 0 0 0) w := by
    refine hK.loc hT (show iT (zu (zu v 23 l 0) 4 (v 17 l) (v 4 (v 17 l) + 64)) from hT1) (fun g hg hd => ?_) (fun _ _ => rfl) (Nat.le_refl _) (fun _ _ => ⟨rfl, rfl⟩) (fun f i hf => ?_) (fun _ => rfl)
    · exact loc_exit (v := zu v 23 l 0) (fun e => hd (by rw [← e]; exact hD))
    · rw [ltz_o (by omega), zu_n (by omega), zu_n (by omega)]
  refine ⟨hT1, iF.exit (v := zu v 23 l 0) hF o4, hL1.ltz h600 ?_, hW, hC.up, hK'.up, ?_, fun s hs hs3 => ?_, hG, fun g s => ?_, ?_⟩
  · have b24 : zu (zu v 23 l 0) 4 (v 17 l) (v 4 (v 17 l) + 64) 24 0 = v 24 0 := rfl
    rw [b24] at a14 a15 a16 a17 a18 a19 a20 a21 a22 a23 ⊢
    simp only [LO]
    rw [a14, a15, a16, a17, a18, a19, a20, a21, a22, a23]
    refine ⟨by decide, o3, o2, o4, o5, by decide, by decide, fun e => by omega, fun _ => ⟨rfl, rfl⟩, fun e => by omega, fun _ => rfl, fun e => by omega, fun e => by omega, fun _ => rfl⟩
  · exact (show iX (zu (zu v 23 l 0) 4 (v 17 l) (v 4 (v 17 l) + 64)) from hX).ltz (fun k e => by omega)
  · obtain ⟨s1, s2⟩ := hS s hs hs3
    rw [lsum_ltz]
    have e1 : gsum (ltz (zu (zu v 23 l 0) 4 (v 17 l) (v 4 (v 17 l) + 64)) 2 (v 16 l) (v 15 l) (v 17 l) 64 0 0 0 0) s = gsum v s := rfl
    have e2 : lsum (zu (zu v 23 l 0) 4 (v 17 l) (v 4 (v 17 l) + 64)) s = lsum (zu v 23 l 0) s := rfl
    have e3 : ltz (zu (zu v 23 l 0) 4 (v 17 l) (v 4 (v 17 l) + 64)) 2 (v 16 l) (v 15 l) (v 17 l) 64 0 0 0 0 4 s = zu v 4 (v 17 l) (v 4 (v 17 l) + 64) 4 s := rfl
    have q3 := lsum_23 (s := s) hl h23
    rw [h18] at q3
    have q4 : (if v 17 l = s then 0 else 0 : Nat) = 0 := by split <;> rfl
    rw [q4] at q3
    rw [e1, e2, e3]
    by_cases e : s = v 17 l
    · subst e
      rw [zu_s, if_pos rfl]
      omega
    · rw [zu_n (by omega), if_neg (fun h => e h.symm)]
      omega
  · rw [qlet_ltz]
    have e1 : fb_ct (qlet (zu (zu v 23 l 0) 4 (v 17 l) (v 4 (v 17 l) + 64)) g s) (zu (zu v 23 l 0) 4 (v 17 l) (v 4 (v 17 l) + 64) 24 0) = fb_ct (qlet (zu v 23 l 0) g s) (v 24 0) := rfl
    have q3 := qlet_23 (hh := g) (s := s) hl
    have q5 : (if qlet v g s l = true then 1 else 0 : Nat) = (if v 17 l = s ∧ ((2 = 1 ∧ v 15 l = g) ∨ (2 = 2 ∧ v 16 l = g)) then 1 else 0) := if_iff (by
      rw [qlet_iff]
      omega)
    rw [e1, ← q5, q3]
    exact hQ g s
  · exact (show iM (zu (zu v 23 l 0) 4 (v 17 l) (v 4 (v 17 l) + 64)) from hM.came).ltz (fun e => by omega)
theorem wrv_k {i f j : Nat} (hf : 26 ≤ f ∧ f ≤ 28) (hj : j + 1 < v 29 0) : wrv v i f j = v f (if i ≤ j then j + 1 else j) := by
  simp only [wrv]
  by_cases e : i ≤ j
  · rw [if_pos (by omega), if_pos e]
  · rw [if_neg (by omega), if_neg (by omega), if_neg e]
theorem wrv_29 {i : Nat} : wrv v i 29 0 = v 29 0 - 1 := by simp [wrv]
theorem wrv_o {i f j : Nat} (hf : f < 26 ∨ 29 < f) : wrv v i f j = v f j := by
  simp only [wrv]
  rw [if_neg (by omega), if_neg (by omega)]
theorem wtd_wrv {i : Nat} (h : Wtd (wrv v i) x) : Wtd v x := by
  obtain ⟨k, h1, h2⟩ := h
  rw [wrv_29] at h1
  rw [wrv_k (f := 26) (by decide) (by omega)] at h2
  exact ⟨_, by split <;> omega, h2⟩
theorem wtd_wrv' {i : Nat} (h : Wtd v x) (hne : v 26 i ≠ x) (hi : i < v 29 0) : Wtd (wrv v i) x := by
  obtain ⟨k, h1, h2⟩ := h
  by_cases e : k < i
  · refine ⟨k, by rw [wrv_29]; omega, ?_⟩
    rw [wrv_k (f := 26) (by decide) (by omega), if_neg (by omega)]
    exact h2
  · have : k ≠ i := fun e2 => hne (by rw [← e2]; exact h2)
    refine ⟨k - 1, by rw [wrv_29]; omega, ?_⟩
    rw [wrv_k (f := 26) (by decide) (by omega), if_pos (by omega), show k - 1 + 1 = k by omega]
    exact h2
theorem qwai_wrv {i hh : Nat} (hi : i < v 29 0) : fb_ct (qwai (wrv v i) hh s) (v 29 0 - 1) + (if qwai v hh s i = true then 1 else 0) = fb_ct (qwai v hh s) (v 29 0) := by
  obtain ⟨m, hm⟩ : ∃ m, v 29 0 = i + (1 + m) := ⟨v 29 0 - i - 1, by omega⟩
  have e1 : v 29 0 - 1 = i + m := by omega
  rw [e1, hm, fb_ct_split, fb_ct_split, fb_ct_split]
  have f1 : fb_ct (qwai (wrv v i) hh s) i = fb_ct (qwai v hh s) i := fb_ct_cong (fun k hk => by
    simp only [qwai]
    rw [wrv_k (f := 26) (by decide) (by omega), if_neg (by omega)]
    rfl)
  have f2 : fb_ct (fun k => qwai (wrv v i) hh s (i + k)) m = fb_ct (fun k => qwai v hh s (i + (1 + k))) m := fb_ct_cong (fun k hk => by
    simp only [qwai]
    rw [wrv_k (f := 26) (by decide) (by omega), if_pos (by omega), show i + k + 1 = i + (1 + k) by omega]
    rfl)
  have f3 : fb_ct (fun k => qwai v hh s (i + k)) 1 = (if qwai v hh s i = true then 1 else 0) := by
    rw [fb_ct_succ]
    show 0 + _ = _
    rw [Nat.zero_add]
    rfl
  rw [f1, f2, f3]
  omega
/-- GIVE, ahead of the sending -/
theorem Inv.give {k0 : Nat} (hI : Inv D n v u w) (hl : l < v 24 0) (h23 : v 23 l = 1) (h14 : v 14 l = 2) (hk : k0 < v 29 0) (hgh : v 1 (v 26 k0) = v 15 l) (hg5 : v 5 (v 26 k0) = v 17 l + 1) (hD : D (v 1 (v 26 k0))) : Inv D n (zu (zu (wrv v k0) 23 l 0) 6 (v 26 k0) (v 6 (v 26 k0) + 64)) u w := by
  obtain ⟨hT, hF, hL, hW, hC, hK, hX, hS, hG, hQ, hM⟩ := hI
  obtain ⟨o1, o2, o3, o4, o5, o6, o7, o8, o9, o10, o11, o12, o13, o14⟩ := hL.2.1 l hl
  obtain ⟨w1, w2, w3, w4, w5, w6⟩ := hW.2 k0 hk
  have h18 := o11 h14
  have k4 := (hT.k o4).2.2.2.2.2.1
  have hge := lsum_ge hl h23
  have gge := gsum_ge w1 w3 w2 hg5
  have hs0 := (hS _ o4 o5).1
  have g1 := (hT.g w1 w2).2.2.2
  have hT1 : iT (zu (zu (wrv v k0) 23 l 0) 6 (v 26 k0) (v 6 (v 26 k0) + 64)) := iT.weight (v := zu (wrv v k0) 23 l 0) hT w1 w2 (by omega)
  have hW1 : iW (wrv v k0) := by
    refine ⟨by rw [wrv_29]; have := hW.1; omega, fun k hk' => ?_⟩
    rw [wrv_29] at hk'
    rw [wrv_k (f := 26) (by decide) (by omega), wrv_k (f := 27) (by decide) (by omega), wrv_k (f := 28) (by decide) (by omega)]
    exact hW.2 _ (by split <;> omega)
  have hM1 : iM (wrv v k0) := fun x hx => hM x (hx (Mt v) (fun b hb => by
    rcases hb with hb | hb | hb
    · exact Cl.base (Or.inl hb)
    · exact Cl.base (Or.inr (Or.inl hb))
    · exact Cl.base (Or.inr (Or.inr (wtd_wrv hb)))) (fun x y hS hE => hS.step hE))
  have hL1 : iL (wrv v k0) := hL
  refine ⟨hT1, iF.weight (v := zu (wrv v k0) 23 l 0) hF w1, hL1.came, hW1, hC, ?_, hX, fun s hs hs3 => ?_, hG, fun h s => ?_, hM1.came⟩
  · refine hK.loc hT hT1 (fun h hh hd => ⟨fun x hx hg' => ?_, fun x hx hg' => ⟨hx, hg'⟩⟩) (fun _ _ => rfl) (Nat.le_refl _) (fun _ _ => ⟨rfl, rfl⟩) (fun f i hf => by rw [zu_n (by omega), zu_n (by omega), wrv_o (by omega)]) (fun _ => rfl)
    have hne : x ≠ v 26 k0 := fun e => hd (by rw [← hg', e]; exact hD)
    refine ⟨hx, hg', rfl, rfl, rfl, zu_n (by omega), rfl, rfl, ?_, fun _ _ => ⟨rfl, fun _ => rfl⟩⟩
    exact ⟨fun h => wtd_wrv (i := k0) h, fun h => wtd_wrv' h (fun e => hne e.symm) hk⟩
  · obtain ⟨s1, s2⟩ := hS s hs hs3
    have q1 := gsum_6 (v := zu (wrv v k0) 23 l 0) (g := v 26 k0) (e := v 6 (v 26 k0) + 64) (s := s) w1
    have q1a : gsum (zu (wrv v k0) 23 l 0) s = gsum v s := rfl
    have q2 : lsum (zu (zu (wrv v k0) 23 l 0) 6 (v 26 k0) (v 6 (v 26 k0) + 64)) s = lsum (zu v 23 l 0) s := rfl
    have q3 := lsum_23 (s := s) hl h23
    have q4 : zu (zu (wrv v k0) 23 l 0) 6 (v 26 k0) (v 6 (v 26 k0) + 64) 4 s = v 4 s := rfl
    have q5 : zu (wrv v k0) 23 l 0 6 (v 26 k0) = v 6 (v 26 k0) := rfl
    rw [q2, q4]
    rw [q1a, q5] at q1
    rw [h18] at q3
    by_cases e : s = v 17 l
    · subst e
      rw [if_pos ⟨w3, w2, hg5⟩, if_pos ⟨w3, w2, hg5⟩] at q1
      rw [if_pos rfl] at q3
      omega
    · rw [if_neg (fun h => e (by have : v 5 (v 26 k0) = s + 1 := h.2.2; omega)), if_neg (fun h => e (by have : v 5 (v 26 k0) = s + 1 := h.2.2; omega))] at q1
      rw [if_neg (fun h => e h.symm)] at q3
      omega
  · have q2 : fb_ct (qlet (zu (zu (wrv v k0) 23 l 0) 6 (v 26 k0) (v 6 (v 26 k0) + 64)) h s) (v 24 0) = fb_ct (qlet (zu v 23 l 0) h s) (v 24 0) := rfl
    have q3 := qlet_23 (hh := h) (s := s) hl
    have q6 := qwai_wrv (hh := h) (s := s) hk
    have q7 : fb_ct (qwai (zu (zu (wrv v k0) 23 l 0) 6 (v 26 k0) (v 6 (v 26 k0) + 64)) h s) (wrv v k0 29 0) = fb_ct (qwai (wrv v k0) h s) (v 29 0 - 1) := by
      rw [wrv_29]
      rfl
    have q8 : (if qlet v h s l = true then 1 else 0 : Nat) = (if qwai v h s k0 = true then 1 else 0) := if_iff (by
      rw [qlet_iff, qwai_iff]
      omega)
    have q9 := hQ h s
    refine q2.trans (Eq.trans ?_ q7.symm)
    omega
end DO
