def hdv (v : Nu) (x p : Nat) : Option Nat := if v 10 (8 * x + p) = 1 then some (v 11 (8 * x + p)) else none
/-- what leads where, by the tables -/
abbrev LEv (v : Nu) : Nat → Nat → Prop := gE (v 3) (hdv v)
section SP
variable {d : AD} {c : CH} {v : Nu} {u : Mu} {w : Me} {r nT m t : Nat} {od : Nat → Nat}
theorem e_rat2 (hR : RR d c r) (s1 : m ≤ 300) (s2 : cI c r 0 2 = nI m) (s3 : ∀ i, i < m → cQ c (r + 2) 0 i = some (1, od i)) {i : Nat} (hi : i < m) : fX3_at (da d r 0) (nI i) (cB d c) = some (some (da d 1 (od i)), cB d c) := by
  obtain ⟨h1, h2, h3, h4, h5, h6, h7, h8, h9, h10, -⟩ := hR
  unfold fX3_at
  rw [if_neg (nI_pos (by omega)), cgI (t := 3) h1 h4, b1_s, s2, if_neg (by rw [nI_leI (by omega) (by omega)]; omega), cgA (t := 3) h1 h4 h8, b1_s, cxN (t := 17) h3 h6, b1_s, h10, if_neg (by rw [nI_leI (by omega) (by omega)]; omega), b1_s, cxP (t := 17) h3 h6 (by rw [h10]; omega) (by omega), b1_s, s3 i hi]
  rfl
theorem e_restart (hw : WF d c) (hR : RR d c r) (hT : TN d c nT) (hS : SR c r nT m od) : ∃ c', fX3_restart (da d r 0) (cB d c) = some ((), cB d c') ∧ Scc r c c' ∧ WF d c' ∧ SR c' r nT 0 od := by
  obtain ⟨s1, s2, s3, s4, s5⟩ := id hS
  have hn := hT.1
  have hA := hw.1
  have key := zlp (F := fun n k (c' : CH) => fX3_restart_2 n (da d r 0) k (cB d c')) (N := m)
    (fun k c' => Scc r c c' ∧ WF d c' ∧ cI c' r 0 2 = nI m ∧ (∀ i, i < m → cQ c' (r + 2) 0 i = some (1, od i)) ∧ ∀ n, n < 300 → (cI c' (r + 1) 0 n = 1 ∧ ∃ i, k ≤ i ∧ i < m ∧ od i = n) ∨ (cI c' (r + 1) 0 n = 0 ∧ ¬ ∃ i, k ≤ i ∧ i < m ∧ od i = n))
    (fun x => ∃ c', x = some ((), cB d c') ∧ Scc r c c' ∧ WF d c' ∧ SR c' r nT 0 od)
    (by
      rintro n k c' hk ⟨p1, p2, p3, p4, p5⟩
      left
      have hR' := hR.sc p1
      obtain ⟨h1, h2, h3, h4, h5, h6, h7, h8, h9, h10, h11⟩ := id hR'
      obtain ⟨l1, n1⟩ := (hT.sc p1 h11).2 (od k) (s3 k hk).1
      have hb := (s3 k hk).1
      refine ⟨kwI (r + 1) 0 (od k) 0 c', ?_, ?_, p2.wI h2, ?_, p4, ?_⟩
      · show fX3_restart_2 (n + 1) (da d r 0) (nI k) (cB d c') = _
        rw [fX3_restart_2, cgI (t := 3) h1 h4, b1_s, p3, if_neg (by rw [nI_leI (by omega) (by omega)]; omega), ctg (t := 3) h1 h4, b1_s, e_rat2 hR' s1 p3 p4 hk, b2_s, oe_1, cgI (t := 5) l1 rfl, b1_s, n1, if_neg (nI_pos (by omega)), b1_s, cgA (t := 3) h1 h4 h7, b1_s, cxN (t := 14) h2 h5, b1_s, h9, if_neg (by rw [nI_leI (by omega) (by omega)]; omega), b1_s, b1_s, cyZ hA h2 h5 (by rw [h9]; omega) (by omega), b1_s, nar0, nI_1]
      · exact p1.trans ⟨fun k x i g1 g2 => z3_n (by omega), fun _ _ _ _ => rfl, rfl, rfl⟩
      · show z3 c'.1 (r + 1) 0 (od k) 0 r 0 2 = _
        rw [z3_n (by omega)]
        exact p3
      · intro n hn
        by_cases e : n = od k
        · right
          refine ⟨by rw [e]; exact z3_s, ?_⟩
          rintro ⟨i, g1, g2, g3⟩
          have := s4 i k g2 hk (by rw [g3, e])
          omega
        · have ev : cI (kwI (r + 1) 0 (od k) 0 c') (r + 1) 0 n = cI c' (r + 1) 0 n := z3_n (by omega)
          rw [ev]
          rcases p5 n hn with ⟨a1, i, a2, a3, a4⟩ | ⟨a1, a2⟩
          · left
            refine ⟨a1, i, ?_, a3, a4⟩
            rcases Nat.lt_or_ge k i with h | h
            · exact h
            · exact absurd (by rw [show k = i by omega]; exact a4.symm) e
          · right
            exact ⟨a1, fun ⟨i, g1, g2, g3⟩ => a2 ⟨i, by omega, g2, g3⟩⟩)
    (by
      rintro n c' ⟨p1, p2, p3, p4, p5⟩
      have hR' := hR.sc p1
      obtain ⟨h1, h2, h3, h4, h5, h6, h7, h8, h9, h10, h11⟩ := id hR'
      refine ⟨kwI r 0 2 0 c', ?_, ?_, p2.wI h1, ?_⟩
      · show fX3_restart_2 (n + 1) (da d r 0) (nI m) (cB d c') = _
        rw [fX3_restart_2, cgI (t := 3) h1 h4, b1_s, p3, if_pos (Int32.le_refl _), cpI hA h1 h4, b1_s]
      · exact p1.trans ⟨fun k x i g1 g2 => z3_n (by omega), fun _ _ _ _ => rfl, rfl, rfl⟩
      · refine ⟨by omega, z3_s, fun i hi => by omega, fun i j hi => by omega, fun n hn => ?_⟩
        right
        have ev : cI (kwI r 0 2 0 c') (r + 1) 0 n = cI c' (r + 1) 0 n := z3_n (by omega)
        rw [ev]
        rcases p5 n hn with ⟨a1, i, a2, a3, a4⟩ | ⟨a1, a2⟩
        · omega
        · exact ⟨a1, fun ⟨i, g1, _⟩ => by omega⟩)
  refine key m 100000 0 c (by omega) (by omega) ⟨Scc.rfl, hw, s2, fun i hi => (s3 i hi).2, fun n hn => ?_⟩
  rcases s5 n hn with ⟨a1, i, a2, a3⟩ | ⟨a1, a2⟩
  · exact Or.inl ⟨a1, i, by omega, a2, a3⟩
  · exact Or.inr ⟨a1, fun ⟨i, _, g2, g3⟩ => a2 ⟨i, g2, g3⟩⟩
/-- places of things, within bounds -/
def TB (v : Nu) : Prop := v 9 0 ≤ 300 ∧ ∀ n, n < v 9 0 → v 3 n ≤ 8 ∧ ∀ p, p < v 3 n → v 10 (8 * n + p) = 1 → v 11 (8 * n + p) < v 9 0
theorem RC.tn (R : RC d c v u w) (hb : v 9 0 ≤ 300) : TN d c (v 9 0) := ⟨hb, fun n hn => ⟨(R.t hn).1, (R.t hn).2.2.2.2.1.1⟩⟩
theorem RC.rr (R : RC d c v u w) (hr : r = 111 ∨ r = 114 ∨ r = 118) : RR d c r := by
  rcases hr with rfl | rfl | rfl
  · exact rr_111 R.2.1 R.2.2.1
  · exact rr_114 R.2.1 R.2.2.1
  · exact rr_118 R.2.1 R.2.2.1
theorem e_addHeldBy (R : RC d c v u w) (hB : TB v) (hr : r = 111 ∨ r = 114 ∨ r = 118) (hS : SR c r (v 9 0) m od) (ht : t < v 9 0) : ∃ (c' : CH) (m' : Nat) (od' : Nat → Nat), fX3_addHeldBy (da d r 0) (some (da d 1 t)) (cB d c) = some ((), cB d c') ∧ Scc r c c' ∧ RC d c' v u w ∧ SR c' r (v 9 0) m' od' ∧ m ≤ m' ∧ (∀ i, i < m → od' i = od i) ∧ ∀ x, In m' od' x ↔ In m od x ∨ LEv v t x := by
  obtain ⟨hb3, hb11⟩ := hB.2 t ht
  have key := zlp (F := fun n k (c' : CH) => fX3_addHeldBy_2 n (da d r 0) (some (da d 1 t)) k (cB d c')) (N := v 3 t)
    (fun k c' => ∃ (m' : Nat) (od' : Nat → Nat), Scc r c c' ∧ RC d c' v u w ∧ SR c' r (v 9 0) m' od' ∧ m ≤ m' ∧ (∀ i, i < m → od' i = od i) ∧ ∀ x, In m' od' x ↔ In m od x ∨ ∃ p, p < k ∧ hdv v t p = some x)
    (fun y => ∃ (c' : CH) (m' : Nat) (od' : Nat → Nat), y = some ((), cB d c') ∧ Scc r c c' ∧ RC d c' v u w ∧ SR c' r (v 9 0) m' od' ∧ m ≤ m' ∧ (∀ i, i < m → od' i = od i) ∧ ∀ x, In m' od' x ↔ In m od x ∨ LEv v t x)
    (by
      rintro n k c' hk ⟨m', od', p1, p2, p3, p4, p5, p6⟩
      left
      have l1 := (p2.t ht).1
      have hR := p2.rr hr
      have e1 : fX3_addHeldBy_2 (n + 1) (da d r 0) (some (da d 1 t)) (nI k) (cB d c') = oe (if v 10 (8 * t + k) = 1 then some (da d 1 (v 11 (8 * t + k))) else none) (fX3_addHeldBy_2 n (da d r 0) (some (da d 1 t)) (nI k + 1) (cB d c')) fun a9 => (b2 (fX3_add (da d r 0) (some a9) (cB d c')) fun _ s12 => fX3_addHeldBy_2 n (da d r 0) (some (da d 1 t)) (nI k + 1) s12) := by
        rw [fX3_addHeldBy_2, b1_s, ctg (t := 5) l1 rfl, b1_s, e_placesSize p2 ht, b2_s, if_neg (by rw [nI_leI (by omega) (by omega)]; omega), ctg (t := 5) l1 rfl, b1_s, e_thingAt p2 ht hb3 hk, b2_s, ctg (t := 3) hR.1 hR.2.2.2.1]
        simp only [b1_s]
      by_cases e : v 10 (8 * t + k) = 1
      · rw [if_pos e, oe_1] at e1
        obtain ⟨c2, m2, od2, q1, q2, q3, q4, q5, q6, q7⟩ := e_add p2.1 hR (p2.tn hB.1) p3 (hb11 k hk e)
        rw [q1, b2_s, nI_1] at e1
        refine ⟨c2, e1, m2, od2, p1.trans q2, p2.sc hr q2 q3 q4, q4, by omega, fun i hi => by rw [q6 i (by omega)]; exact p5 i hi, fun x => ?_⟩
        rw [q7, p6]
        constructor
        · rintro ((h | ⟨p, h1, h2⟩) | h)
          · exact Or.inl h
          · exact Or.inr ⟨p, by omega, h2⟩
          · exact Or.inr ⟨k, by omega, by simp only [hdv, if_pos e]; rw [h]⟩
        · rintro (h | ⟨p, h1, h2⟩)
          · exact Or.inl (Or.inl h)
          · by_cases e2 : p = k
            · subst e2
              simp only [hdv, if_pos e] at h2
              exact Or.inr (Option.some.inj h2).symm
            · exact Or.inl (Or.inr ⟨p, by omega, h2⟩)
      · rw [if_neg e, oe_0, nI_1] at e1
        refine ⟨c', e1, m', od', p1, p2, p3, p4, p5, fun x => ?_⟩
        rw [p6]
        constructor
        · rintro (h | ⟨p, h1, h2⟩)
          · exact Or.inl h
          · exact Or.inr ⟨p, by omega, h2⟩
        · rintro (h | ⟨p, h1, h2⟩)
          · exact Or.inl h
          · by_cases e2 : p = k
            · subst e2
              simp only [hdv, if_neg e] at h2
              cases h2
            · exact Or.inr ⟨p, by omega, h2⟩)
    (by
      rintro n c' ⟨m', od', p1, p2, p3, p4, p5, p6⟩
      refine ⟨c', m', od', ?_, p1, p2, p3, p4, p5, p6⟩
      show fX3_addHeldBy_2 (n + 1) (da d r 0) (some (da d 1 t)) (nI (v 3 t)) (cB d c') = _
      rw [fX3_addHeldBy_2, b1_s, ctg (t := 5) (p2.t ht).1 rfl, b1_s, e_placesSize p2 ht, b2_s, if_pos (Int32.le_refl _)])
  exact key (v 3 t) 100000 0 c (by omega) (by omega) ⟨m, od, Scc.rfl, R, hS, Nat.le_refl _, fun _ _ => rfl, fun x => ⟨Or.inl, fun h => h.elim id (fun ⟨p, h1, _⟩ => by omega)⟩⟩
/-- spreading makes the closure -/
theorem e_spread (R : RC d c v u w) (hB : TB v) (hr : r = 111 ∨ r = 114 ∨ r = 118) (hS : SR c r (v 9 0) m od) : ∃ (c' : CH) (m' : Nat) (od' : Nat → Nat), fX3_spread (da d r 0) (cB d c) = some ((), cB d c') ∧ Scc r c c' ∧ RC d c' v u w ∧ SR c' r (v 9 0) m' od' ∧ ∀ x, In m' od' x ↔ Cl (LEv v) (In m od) x := by
  have key : ∀ (g n k : Nat) (c1 : CH) (m1 : Nat) (od1 : Nat → Nat), k + g = 300 → g < n → k ≤ m1 → Scc r c c1 → RC d c1 v u w → SR c1 r (v 9 0) m1 od1 → (∀ x, In m od x → In m1 od1 x) → (∀ x, In m1 od1 x → Cl (LEv v) (In m od) x) → (∀ i x, i < k → LEv v (od1 i) x → In m1 od1 x) → ∃ (c' : CH) (m' : Nat) (od' : Nat → Nat), fX3_spread_2 n (da d r 0) (nI k) (cB d c1) = some ((), cB d c') ∧ Scc r c c' ∧ RC d c' v u w ∧ SR c' r (v 9 0) m' od' ∧ ∀ x, In m' od' x ↔ Cl (LEv v) (In m od) x := by
    intro g
    induction g with
    | zero =>
      intro n k c1 m1 od1 h1 h2 h3 p1 p2 p3 p4 p5 p6
      obtain ⟨n, rfl⟩ : ∃ n', n = n' + 1 := ⟨n - 1, by omega⟩
      have hm := p3.1
      have hR := p2.rr hr
      refine ⟨c1, m1, od1, ?_, p1, p2, p3, fun x => ⟨p5 x, fun h => h (In m1 od1) p4 (fun a b ha hab => ?_)⟩⟩
      · rw [fX3_spread_2, cgI (t := 3) hR.1 hR.2.2.2.1, b1_s, p3.2.1, if_pos (by rw [nI_leI (by omega) (by omega)]; omega)]
      · obtain ⟨i, i1, i2⟩ := ha
        exact p6 i b (by omega) (by rw [i2]; exact hab)
    | succ g ih =>
      intro n k c1 m1 od1 h1 h2 h3 p1 p2 p3 p4 p5 p6
      obtain ⟨n, rfl⟩ : ∃ n', n = n' + 1 := ⟨n - 1, by omega⟩
      have hm := p3.1
      have hR := p2.rr hr
      obtain ⟨r1, r2, r3, r4, r5, r6, r7, r8, r9, r10, r11⟩ := id hR
      rcases Nat.lt_or_ge k m1 with hk | hk
      · obtain ⟨a1, a2⟩ := p3.2.2.1 k hk
        obtain ⟨c2, m2, od2, q1, q2, q3, q4, q5, q6, q7⟩ := e_addHeldBy p2 hB hr p3 a1
        have e1 : fX3_spread_2 (n + 1) (da d r 0) (nI k) (cB d c1) = fX3_spread_2 n (da d r 0) (nI (k + 1)) (cB d c2) := by
          rw [fX3_spread_2, cgI (t := 3) r1 r4, b1_s, p3.2.1, if_neg (by rw [nI_leI (by omega) (by omega)]; omega), cgA (t := 3) r1 r4 r8, b1_s, cxN (t := 17) r3 r6, b1_s, r10, if_neg (by rw [nI_leI (by omega) (by omega)]; omega), b1_s, cxP (t := 17) r3 r6 (by rw [r10]; omega) (by omega), b1_s, a2]
          show oe (some (da d 1 (od1 k))) _ _ = _
          rw [oe_1, ctg (t := 3) r1 r4, b1_s, q1, b2_s, nI_1]
        rw [e1]
        refine ih n (k + 1) c2 m2 od2 (by omega) (by omega) (by omega) (p1.trans q2) q3 q4 (fun x hx => (q7 x).mpr (Or.inl (p4 x hx))) (fun x hx => ?_) (fun i x hi hx => ?_)
        · rcases (q7 x).mp hx with h | h
          · exact p5 x h
          · exact (p5 (od1 k) ⟨k, hk, rfl⟩).step h
        · rw [q6 i (by omega)] at hx
          refine (q7 x).mpr ?_
          by_cases e : i = k
          · right
            rw [e] at hx
            exact hx
          · left
            exact p6 i x (by omega) hx
      · refine ⟨c1, m1, od1, ?_, p1, p2, p3, fun x => ⟨p5 x, fun h => h (In m1 od1) p4 (fun a b ha hab => ?_)⟩⟩
        · rw [fX3_spread_2, cgI (t := 3) hR.1 hR.2.2.2.1, b1_s, p3.2.1, if_pos (by rw [nI_leI (by omega) (by omega)]; omega)]
        · obtain ⟨i, i1, i2⟩ := ha
          exact p6 i b (by omega) (by rw [i2]; exact hab)
  exact key 300 100000 0 c m od (by omega) (by omega) (by omega) Scc.rfl R hS (fun _ h => h) (fun _ h => Cl.base h) (fun _ _ h => by omega)
/-- a set of the class, set up anew -/
theorem RC.set (R : RC d c v u w) (hr : r = 111 ∨ r = 114 ∨ r = 118) : ∃ m od, SR c r (v 9 0) m od := by
  obtain ⟨h1, h2, h3, -, -⟩ := R.2.2.2.2.2.2.2.2
  rcases hr with rfl | rfl | rfl
  · exact h1
  · exact h2
  · exact h3
theorem e_restart2 (R : RC d c v u w) (hb : v 9 0 ≤ 300) (hr : r = 111 ∨ r = 114 ∨ r = 118) : ∃ c' od', fX3_restart (da d r 0) (cB d c) = some ((), cB d c') ∧ Scc r c c' ∧ RC d c' v u w ∧ SR c' r (v 9 0) 0 od' := by
  obtain ⟨m, od, hS⟩ := R.set hr
  obtain ⟨c', q1, q2, q3, q4⟩ := e_restart R.1 (R.rr hr) (R.tn hb) hS
  exact ⟨c', od, q1, q2, R.sc hr q2 q3 q4, q4⟩
end SP
