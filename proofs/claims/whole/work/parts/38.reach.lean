/-- all else is the same -/
def Scc (r : Nat) (c c' : CH) : Prop := (∀ k x i, k ≠ r → k ≠ r + 1 → cI c' k x i = cI c k x i) ∧ (∀ k x i, k ≠ r + 2 → cQ c' k x i = cQ c k x i) ∧ c'.2.1 = c.2.1 ∧ c'.2.2.2 = c.2.2.2
theorem Scc.rfl {r : Nat} {c : CH} : Scc r c c := ⟨fun _ _ _ _ _ => Eq.refl _, fun _ _ _ _ => Eq.refl _, Eq.refl _, Eq.refl _⟩
theorem Scc.trans {r : Nat} {a b c : CH} (h1 : Scc r a b) (h2 : Scc r b c) : Scc r a c := ⟨fun k x i g1 g2 => (h2.1 k x i g1 g2).trans (h1.1 k x i g1 g2), fun k x i g1 => (h2.2.1 k x i g1).trans (h1.2.1 k x i g1), h2.2.2.1.trans h1.2.2.1, h2.2.2.2.trans h1.2.2.2⟩
/-- the cells of such a set -/
def RR (d : AD) (c : CH) (r : Nat) : Prop := lvd d r 0 ∧ lvd d (r + 1) 0 ∧ lvd d (r + 2) 0 ∧ TK r = 3 ∧ TK (r + 1) = 14 ∧ TK (r + 2) = 17 ∧ cQ c r 0 0 = some (r + 1, 0) ∧ cQ c r 0 1 = some (r + 2, 0) ∧ cN c (r + 1) 0 = 300 ∧ cN c (r + 2) 0 = 300 ∧ 100 < r
theorem RR.sc {d : AD} {c c' : CH} {r : Nat} (h : RR d c r) (hs : Scc r c c') : RR d c' r := by
  obtain ⟨h1, h2, h3, h4, h5, h6, h7, h8, h9, h10, h11⟩ := h
  refine ⟨h1, h2, h3, h4, h5, h6, ?_, ?_, ?_, ?_, h11⟩
  · rw [hs.2.1 r 0 0 (by omega)]; exact h7
  · rw [hs.2.1 r 0 1 (by omega)]; exact h8
  · show c'.2.2.2 (r + 1) 0 = 300; rw [hs.2.2.2]; exact h9
  · show c'.2.2.2 (r + 2) 0 = 300; rw [hs.2.2.2]; exact h10
theorem rr_111 {d : AD} {c : CH} (hF : FL d) (hX : FX c) : RR d c 111 := ⟨f111 hF, f112 hF, f113 hF, rfl, rfl, rfl, hX.2.1.2.2.2.1, hX.2.1.2.2.2.2.1, hX.2.2.2.2.2.2.2.2.2.1, hX.2.2.2.2.2.2.2.2.2.2.1, by decide⟩
theorem rr_114 {d : AD} {c : CH} (hF : FL d) (hX : FX c) : RR d c 114 := ⟨f114 hF, f115 hF, f116 hF, rfl, rfl, rfl, hX.2.1.2.2.2.2.2.1, hX.2.1.2.2.2.2.2.2.1, hX.2.2.2.2.2.2.2.2.2.2.2.1, hX.2.2.2.2.2.2.2.2.2.2.2.2.1, by decide⟩
theorem rr_118 {d : AD} {c : CH} (hF : FL d) (hX : FX c) : RR d c 118 := ⟨f118 hF, f119 hF, f120 hF, rfl, rfl, rfl, hX.2.1.2.2.2.2.2.2.2.2.2.2.2.1, hX.2.1.2.2.2.2.2.2.2.2.2.2.2.2, hX.2.2.2.2.2.2.2.2.2.2.2.2.2.1, hX.2.2.2.2.2.2.2.2.2.2.2.2.2.2.1, by decide⟩
/-- of a thing: its number, where it is -/
def TN (d : AD) (c : CH) (nT : Nat) : Prop := nT ≤ 300 ∧ ∀ n, n < nT → lvd d 1 n ∧ cI c 1 n 0 = nI n
theorem TN.sc {d : AD} {c c' : CH} {r nT : Nat} (h : TN d c nT) (hs : Scc r c c') (hr : 100 < r) : TN d c' nT := ⟨h.1, fun n hn => ⟨(h.2 n hn).1, by rw [hs.1 1 n 0 (by omega) (by omega)]; exact (h.2 n hn).2⟩⟩
def In (m : Nat) (od : Nat → Nat) (x : Nat) : Prop := ∃ i, i < m ∧ od i = x
theorem SR_room {c : CH} {r nT m t : Nat} {od : Nat → Nat} (h : SR c r nT m od) (hn : nT ≤ 300) (ht : t < nT) (hx : ¬ In m od t) : m < 300 := by
  obtain ⟨h1, h2, h3, h4, h5⟩ := h
  have := fb_holes nT (m + 1) (fun i => if i < m then od i else t) (by
    intro i hi
    by_cases e : i < m
    · simp only [if_pos e]; exact (h3 i e).1
    · simp only [if_neg e]; exact ht) (by
    intro i j hij hj
    by_cases e : j < m
    · simp only [if_pos e, if_pos (show i < m by omega)]
      intro q
      have := h4 i j (by omega) e q
      omega
    · simp only [if_neg e, if_pos (show i < m by omega)]
      intro q
      exact hx ⟨i, by omega, q⟩)
  omega
section RE
variable {d : AD} {c : CH} {r nT m t : Nat} {od : Nat → Nat}
theorem e_has (hR : RR d c r) (hT : TN d c nT) (hS : SR c r nT m od) (ht : t < nT) : fX3_has (da d r 0) (some (da d 1 t)) (cB d c) = some (cI c (r + 1) 0 t, cB d c) := by
  obtain ⟨h1, h2, h3, h4, h5, h6, h7, h8, h9, h10, -⟩ := hR
  obtain ⟨l1, n1⟩ := hT.2 t ht
  have hn := hT.1
  unfold fX3_has
  rw [b1_s, cgI (t := 5) l1 rfl, b1_s, n1, if_neg (nI_pos (by omega)), b1_s, cgA (t := 3) h1 h4 h7, b1_s, cxN (t := 14) h2 h5, b1_s, h9, if_neg (by rw [nI_leI (by omega) (by omega)]; omega), b1_s, b1_s, cxI (t := 14) h2 h5 (by rw [h9]; omega) (by omega), b1_s]
  rcases hS.2.2.2.2 t (by omega) with ⟨e, -⟩ | ⟨e, -⟩
  · rw [e]; rfl
  · rw [e]; rfl
theorem e_rat (hR : RR d c r) (hS : SR c r nT m od) {i : Nat} (hi : i < m) : fX3_at (da d r 0) (nI i) (cB d c) = some (some (da d 1 (od i)), cB d c) := by
  obtain ⟨h1, h2, h3, h4, h5, h6, h7, h8, h9, h10, -⟩ := hR
  obtain ⟨s1, s2, s3, -⟩ := hS
  unfold fX3_at
  rw [if_neg (nI_pos (by omega)), cgI (t := 3) h1 h4, b1_s, s2, if_neg (by rw [nI_leI (by omega) (by omega)]; omega), cgA (t := 3) h1 h4 h8, b1_s, cxN (t := 17) h3 h6, b1_s, h10, if_neg (by rw [nI_leI (by omega) (by omega)]; omega), b1_s, cxP (t := 17) h3 h6 (by rw [h10]; omega) (by omega), b1_s, (s3 i hi).2]
  rfl
theorem e_rsize (hR : RR d c r) (hS : SR c r nT m od) : fX3_size (da d r 0) (cB d c) = some (nI m, cB d c) := by
  unfold fX3_size
  rw [cgI (t := 3) hR.1 hR.2.2.2.1, b1_s, hS.2.1]
theorem e_add (hw : WF d c) (hR : RR d c r) (hT : TN d c nT) (hS : SR c r nT m od) (ht : t < nT) : ∃ (c' : CH) (m' : Nat) (od' : Nat → Nat), fX3_add (da d r 0) (some (da d 1 t)) (cB d c) = some ((), cB d c') ∧ Scc r c c' ∧ WF d c' ∧ SR c' r nT m' od' ∧ m ≤ m' ∧ (∀ i, i < m → od' i = od i) ∧ ∀ x, In m' od' x ↔ In m od x ∨ x = t := by
  obtain ⟨h1, h2, h3, h4, h5, h6, h7, h8, h9, h10, h11⟩ := id hR
  obtain ⟨l1, n1⟩ := hT.2 t ht
  obtain ⟨s1, s2, s3, s4, s5⟩ := id hS
  have hn := hT.1
  have hA := hw.1
  unfold fX3_add
  rw [b1_s, cgI (t := 5) l1 rfl, b1_s, n1, if_neg (nI_pos (by omega)), b1_s, cgA (t := 3) h1 h4 h7, b1_s, cxN (t := 14) h2 h5, b1_s, h9, if_neg (by rw [nI_leI (by omega) (by omega)]; omega), b1_s, b1_s, cxI (t := 14) h2 h5 (by rw [h9]; omega) (by omega), b1_s]
  rcases s5 t (by omega) with ⟨e, hin⟩ | ⟨e, hin⟩
  · rw [e, if_neg (by decide)]
    refine ⟨c, m, od, rfl, Scc.rfl, hw, hS, Nat.le_refl _, fun i _ => rfl, fun x => ⟨Or.inl, fun h => h.elim id (fun h => by rw [h]; exact hin)⟩⟩
  · have hm := SR_room hS hn ht hin
    rw [e, if_pos rfl, cgI (t := 3) h1 h4, b1_s, s2, cgA (t := 3) h1 h4 h8, b1_s, cxN (t := 17) h3 h6, b1_s, h10, if_pos (by rw [nI_ltI (by omega) (by omega)]; omega), b1_s, b1_s, cyZ hA h2 h5 (by rw [h9]; omega) (by omega), b1_s, nar1]
    have w1 : WF d (kwI (r + 1) 0 t 1 c) := hw.wI h2
    have g8 : cQ (kwI (r + 1) 0 t 1 c) r 0 1 = some (r + 2, 0) := h8
    have g2 : cI (kwI (r + 1) 0 t 1 c) r 0 2 = nI m := by
      show z3 c.1 (r + 1) 0 t 1 r 0 2 = nI m
      simp only [z3]
      rw [if_neg (by omega)]
      exact s2
    rw [cgA (t := 3) h1 h4 g8, b1_s, cgI (t := 3) h1 h4, b1_s, g2]
    dsimp only
    rw [cyP (t := 17) (e := 5) (r := some (da d 1 t)) (some (1, t)) hA h3 h6 (by show c.2.2.2 (r + 2) 0 > m; rw [show c.2.2.2 (r + 2) 0 = 300 from h10]; exact hm) (by omega) rfl (fun y hy => by cases hy; exact ⟨l1, rfl⟩), b1_s]
    have w2 : WF d (kwQ (r + 2) 0 m (some (1, t)) (kwI (r + 1) 0 t 1 c)) := w1.wQ h3 (fun y hy => by cases hy; exact l1)
    have g3 : cI (kwQ (r + 2) 0 m (some (1, t)) (kwI (r + 1) 0 t 1 c)) r 0 2 = nI m := g2
    rw [cgI (t := 3) h1 h4, b1_s, g3, nI_1, cpI hA h1 h4, b1_s]
    refine ⟨_, m + 1, fun i => if i = m then t else od i, rfl, ?_, w2.wI h1, ?_, by omega, fun i hi => if_neg (by omega), ?_⟩
    · refine ⟨fun k x i g1 g2 => ?_, fun k x i g1 => ?_, rfl, rfl⟩
      · show z3 (z3 c.1 (r + 1) 0 t 1) r 0 2 (nI (m + 1)) k x i = c.1 k x i
        simp only [z3]
        rw [if_neg (by omega), if_neg (by omega)]
      · show z3 c.2.2.1 (r + 2) 0 m (some (1, t)) k x i = c.2.2.1 k x i
        simp only [z3]
        rw [if_neg (by omega)]
    · refine ⟨by omega, ?_, ?_, ?_, ?_⟩
      · show z3 (z3 c.1 (r + 1) 0 t 1) r 0 2 (nI (m + 1)) r 0 2 = nI (m + 1)
        simp [z3]
      · intro i hi
        by_cases e1 : i = m
        · subst e1
          refine ⟨by simp only [if_true]; exact ht, ?_⟩
          show z3 c.2.2.1 (r + 2) 0 i (some (1, t)) (r + 2) 0 i = _
          simp [z3]
        · obtain ⟨a1, a2⟩ := s3 i (by omega)
          refine ⟨by simp only [if_neg e1]; exact a1, ?_⟩
          show z3 c.2.2.1 (r + 2) 0 m (some (1, t)) (r + 2) 0 i = _
          simp only [z3, if_neg e1]
          rw [if_neg (by omega)]
          exact a2
      · intro i j hi hj
        by_cases e1 : i = m <;> by_cases e2 : j = m
        · intro _; omega
        · simp only [if_pos e1, if_neg e2]
          intro q
          exact absurd ⟨j, by omega, q.symm⟩ hin
        · simp only [if_neg e1, if_pos e2]
          intro q
          exact absurd ⟨i, by omega, q⟩ hin
        · simp only [if_neg e1, if_neg e2]
          exact s4 i j (by omega) (by omega)
      · intro n hn'
        have ev : cI (kwI r 0 2 (nI (m + 1)) (kwQ (r + 2) 0 m (some (1, t)) (kwI (r + 1) 0 t 1 c))) (r + 1) 0 n = if n = t then 1 else cI c (r + 1) 0 n := by
          show z3 (z3 c.1 (r + 1) 0 t 1) r 0 2 (nI (m + 1)) (r + 1) 0 n = _
          simp only [z3]
          rw [if_neg (by omega)]
          by_cases e1 : n = t
          · simp [e1]
          · rw [if_neg (by omega), if_neg e1]
        rw [ev]
        by_cases e1 : n = t
        · left
          exact ⟨by simp [e1], m, by omega, by simp [e1]⟩
        · rw [if_neg e1]
          rcases s5 n hn' with ⟨a1, i, a2, a3⟩ | ⟨a1, a2⟩
          · left
            exact ⟨a1, i, by omega, by simp only [if_neg (show i ≠ m by omega)]; exact a3⟩
          · right
            refine ⟨a1, ?_⟩
            rintro ⟨i, b1, b2⟩
            by_cases e2 : i = m
            · simp only [if_pos e2] at b2; exact e1 b2.symm
            · simp only [if_neg e2] at b2; exact a2 ⟨i, by omega, b2⟩
    · intro x
      constructor
      · rintro ⟨i, b1, b2⟩
        by_cases e2 : i = m
        · simp only [if_pos e2] at b2; exact Or.inr b2.symm
        · simp only [if_neg e2] at b2; exact Or.inl ⟨i, by omega, b2⟩
      · rintro (⟨i, b1, b2⟩ | h)
        · exact ⟨i, by omega, by simp only [if_neg (show i ≠ m by omega)]; exact b2⟩
        · exact ⟨m, by omega, by simp [h]⟩
end RE
