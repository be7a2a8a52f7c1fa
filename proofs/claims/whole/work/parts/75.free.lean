/-! Freeing, thing by thing. -/
def frv (s : Nu) (k : Nat) : Nu := zu (zu (if s 0 k = 3 then ltz (zu s 7 k 1) 3 (s 1 (s 5 k - 1)) (s 1 k) (s 5 k - 1) (s 6 k) 0 0 0 0 else zu s 7 k 1) 32 (s 33 0) k) 33 0 (s 33 0 + 1)
def clv (v : Nu) (h : Nat) (K : Nat → Bool) : Nat → Nu
  | 0 => zu v 33 0 0
  | k + 1 => if v 7 k = 0 ∧ v 1 k = h ∧ K k = false then frv (clv v h K k) k else clv v h K k
/-- what is known of the tables behind k of them -/
def CPI (v : Nu) (h : Nat) (K : Nat → Bool) (k : Nat) (s : Nu) : Prop :=
  (∀ f i, f ≠ 7 → ¬ (14 ≤ f ∧ f ≤ 24) → f ≠ 32 → f ≠ 33 → s f i = v f i) ∧ (∀ x, s 7 x = if x < k ∧ v 7 x = 0 ∧ v 1 x = h ∧ K x = false then 1 else v 7 x) ∧ s 24 0 = v 24 0 + fb_sm (gfr v h K) k ∧ s 33 0 ≤ k ∧ (∀ i, i < s 33 0 → s 32 i < v 9 0) ∧ iL s ∧ iX s ∧ (∀ t, t < v 9 0 → v 0 t ≠ 3 → v 4 t = gsum s t + lsum s t) ∧ iQ s ∧ (∀ l, l < s 24 0 → s 23 l = 1 → s 14 l = 0 → ∃ l', l' < v 24 0 ∧ v 23 l' = 1 ∧ v 14 l' = 0 ∧ v 17 l' = s 17 l) ∧ ∀ l, l < v 24 0 → s 23 l = v 23 l ∧ s 14 l = v 14 l ∧ s 17 l = v 17 l
section FR3
variable {d d' : AD} {c c' : CH} {v v' s : Nu} {u u' : Mu} {w w' : Me} {n q z m r t p k l b0 g wt x h : Nat} {D : Nat → Prop} {K : Nat → Bool}
theorem gsum_7 {j : Nat} (hk : k < s 9 0) : gsum (zu s 7 k 1) j + (if s 7 k = 0 ∧ s 0 k = 3 ∧ s 5 k = j + 1 then s 6 k else 0) = gsum s j := by
  have e1 : gsum (zu s 7 k 1) j = fb_sm (fun i => if i = k then 0 else (if s 7 i = 0 ∧ s 0 i = 3 ∧ s 5 i = j + 1 then s 6 i else 0)) (s 9 0) := by
    refine fb_sm_cong (fun i hi => ?_)
    have e0 : zu s 7 k 1 0 i = s 0 i := rfl
    have e5 : zu s 7 k 1 5 i = s 5 i := rfl
    have e6 : zu s 7 k 1 6 i = s 6 i := rfl
    rw [e0, e5, e6]
    by_cases e : i = k
    · subst e
      rw [if_pos rfl, zu_s, if_neg (by omega)]
    · rw [if_neg e, zu_n (by omega)]
  rw [e1]
  exact fb_sm_upd (fun i => if s 7 i = 0 ∧ s 0 i = 3 ∧ s 5 i = j + 1 then s 6 i else 0) 0 hk
theorem CPI.start (hI : Inv D n v u w) : CPI v h K 0 (zu v 33 0 0) := by
  obtain ⟨hT, hF, hL, hW, hC, hK, hX, hS, hG, hQ, hM⟩ := hI
  refine ⟨fun f i _ _ _ h33 => zu_n (by omega), fun x => ?_, rfl, by rw [zu_s]; exact Nat.le_refl _, fun i hi => ?_, hL, hX, fun t ht h3 => (hS t ht h3).1, hQ, fun l hl h1 h2 => ⟨l, hl, h1, h2, rfl⟩, fun l hl => ⟨rfl, rfl, rfl⟩⟩
  · rw [if_neg (by omega)]
    rfl
  · rw [zu_s] at hi
    omega
theorem CPI.step (hI : Inv D n v u w) (hk : k < v 9 0) (hroom : v 24 0 + fb_sm (gfr v h K) (v 9 0) ≤ 600) (H : CPI v h K k s) : CPI v h K (k + 1) (if v 7 k = 0 ∧ v 1 k = h ∧ K k = false then frv s k else s) := by
  obtain ⟨hT, hF, hL, hW, hC, hKK, hX, hS, hG, hQ, hM⟩ := hI
  obtain ⟨a1, a2, a3, a4, a5, a6, a7, a8, a9, a10, a11⟩ := id H
  have hpart := fb_sm_part (gfr v h K) hk
  by_cases hc : v 7 k = 0 ∧ v 1 k = h ∧ K k = false
  rotate_left
  · rw [if_neg hc]
    refine ⟨a1, fun x => ?_, ?_, by omega, a5, a6, a7, a8, a9, a10, a11⟩
    · rw [a2]
      by_cases e : x = k
      · subst e
        rw [if_neg (fun h => hc h.2), if_neg (fun h => hc h.2)]
      · by_cases e2 : x < k ∧ v 7 x = 0 ∧ v 1 x = h ∧ K x = false
        · rw [if_pos e2, if_pos ⟨by omega, e2.2⟩]
        · rw [if_neg e2, if_neg (fun h => e2 ⟨by omega, h.2⟩)]
    · rw [fb_sm_succ, a3]
      have : gfr v h K k = 0 := by
        simp only [gfr]
        rw [if_neg (fun h => hc ⟨h.1, h.2.1, h.2.2.2⟩)]
      omega
  · rw [if_pos hc]
    have s0 : s 0 k = v 0 k := a1 0 k (by decide) (by decide) (by decide) (by decide)
    have s1 : ∀ i, s 1 i = v 1 i := fun i => a1 1 i (by decide) (by decide) (by decide) (by decide)
    have s5 : s 5 k = v 5 k := a1 5 k (by decide) (by decide) (by decide) (by decide)
    have s6 : s 6 k = v 6 k := a1 6 k (by decide) (by decide) (by decide) (by decide)
    have s9 : s 9 0 = v 9 0 := a1 9 0 (by decide) (by decide) (by decide) (by decide)
    have s7 : s 7 k = 0 := by rw [a2, if_neg (by omega)]; exact hc.1
    have hX7 : iX (zu s 7 k 1) := fun l k' hl h21 h37 => by
      rcases a7 l k' hl h21 h37 with h | h | h
      · exact Or.inl h
      · exact Or.inr (Or.inl h)
      · right; right
        show zu s 7 k 1 7 (s 38 k') = 1
        by_cases e : s 38 k' = k
        · rw [e, zu_s]
        · rw [zu_n (by omega)]
          exact h
    have b7 : ∀ x, zu s 7 k 1 7 x = if x < k + 1 ∧ v 7 x = 0 ∧ v 1 x = h ∧ K x = false then 1 else v 7 x := fun x => by
      by_cases e : x = k
      · subst e
        rw [zu_s, if_pos ⟨by omega, hc⟩]
      · rw [zu_n (by omega), a2]
        by_cases e2 : x < k ∧ v 7 x = 0 ∧ v 1 x = h ∧ K x = false
        · rw [if_pos e2, if_pos ⟨by omega, e2.2⟩]
        · rw [if_neg e2, if_neg (fun h => e2 ⟨by omega, h.2⟩)]
    have b33 : ∀ y : Nu, zu (zu y 32 (s 33 0) k) 33 0 (s 33 0 + 1) 33 0 = s 33 0 + 1 := fun y => zu_s
    have b32 : ∀ y : Nu, (∀ i, i < s 33 0 → y 32 i < v 9 0) → ∀ i, i < s 33 0 + 1 → zu (zu y 32 (s 33 0) k) 33 0 (s 33 0 + 1) 32 i < v 9 0 := fun y hy i hi => by
      show zu y 32 (s 33 0) k 32 i < v 9 0
      by_cases e : i = s 33 0
      · rw [e, zu_s]; exact hk
      · rw [zu_n (by omega)]
        exact hy i (by omega)
    simp only [frv]
    by_cases h3 : s 0 k = 3
    · rw [if_pos h3]
      have h3' : v 0 k = 3 := by rw [← s0]; exact h3
      obtain ⟨⟨m, m1, m2, m3, m4⟩, -⟩ := hT.g hk h3'
      have hm : s 5 k - 1 = m := by rw [s5]; omega
      rw [hm]
      have hg1 : gfr v h K k = 1 := by
        simp only [gfr]
        rw [if_pos ⟨hc.1, hc.2.1, h3', hc.2.2⟩]
      have h600 : s 24 0 < 600 := by omega
      have h600' : zu s 7 k 1 24 0 < 600 := h600
      obtain ⟨c14, c15, c16, c17, c18, c19, c20, c21, c22, c23⟩ := ltz_l (v := zu s 7 k 1) (kd := 3) (to := s 1 m) (fr := s 1 k) (t := m) (wt := s 6 k) (rt := 0) (pl := 0) (wk := 0) (st := 0)
      have e24 : ltz (zu s 7 k 1) 3 (s 1 m) (s 1 k) m (s 6 k) 0 0 0 0 24 0 = s 24 0 + 1 := ltz_24
      have en : ∀ f i, i ≠ s 24 0 → ¬ (f = 24 ∧ i = 0) → ltz (zu s 7 k 1) 3 (s 1 m) (s 1 k) m (s 6 k) 0 0 0 0 f i = zu s 7 k 1 f i := fun f i h1 h2 => ltz_n (v := zu s 7 k 1) h1 h2
      have hL7 : iL (zu s 7 k 1) := a6
      have hL' : iL (ltz (zu s 7 k 1) 3 (s 1 m) (s 1 k) m (s 6 k) 0 0 0 0) := hL7.ltz h600' (by
        have q24 : zu s 7 k 1 24 0 = s 24 0 := rfl
        rw [q24] at c14 c15 c16 c17 c18 c19 c20 c21 c22 c23 ⊢
        simp only [LO]
        rw [c14, c15, c16, c17, c18, c19, c20, c21, c22, c23]
        have q9 : ltz (zu s 7 k 1) 3 (s 1 m) (s 1 k) m (s 6 k) 0 0 0 0 9 0 = v 9 0 := s9
        have q0 : ltz (zu s 7 k 1) 3 (s 1 m) (s 1 k) m (s 6 k) 0 0 0 0 0 m = v 0 m := a1 0 m (by decide) (by decide) (by decide) (by decide)
        rw [q9, q0, s1 m, s1 k]
        exact ⟨by decide, (hT.k m2).2.1, (hT.k hk).2.1, m2, m3, by decide, by decide, fun e => by omega, fun _ => ⟨rfl, rfl⟩, fun _ => (s1 m).symm, fun e => by omega, fun e => by omega, fun e => by omega, fun _ => rfl⟩)
      refine ⟨fun f i f7 f14 f32 f33 => ?_, b7, ?_, ?_, ?_, hL', hX7.ltz (st := 0) (fun k' e => by omega), fun t ht ht3 => ?_, fun g t => ?_, fun l hl g1 g2 => ?_, fun l hl => ?_⟩
      · rw [zu_n (by omega), zu_n (by omega), ltz_o (by omega), zu_n (by omega)]
        exact a1 f i f7 f14 f32 f33
      · show ltz (zu s 7 k 1) 3 (s 1 m) (s 1 k) m (s 6 k) 0 0 0 0 24 0 = _
        rw [e24, fb_sm_succ]
        omega
      · rw [b33]; omega
      · rw [b33]
        exact b32 _ (fun i hi => a5 i hi)
      · have q1 : gsum (zu (zu (ltz (zu s 7 k 1) 3 (s 1 m) (s 1 k) m (s 6 k) 0 0 0 0) 32 (s 33 0) k) 33 0 (s 33 0 + 1)) t = gsum (zu s 7 k 1) t := rfl
        have q2 : lsum (zu (zu (ltz (zu s 7 k 1) 3 (s 1 m) (s 1 k) m (s 6 k) 0 0 0 0) 32 (s 33 0) k) 33 0 (s 33 0 + 1)) t = lsum (ltz (zu s 7 k 1) 3 (s 1 m) (s 1 k) m (s 6 k) 0 0 0 0) t := rfl
        have q3 : lsum (zu s 7 k 1) t = lsum s t := rfl
        have q4 := gsum_7 (s := s) (k := k) (j := t) (by rw [s9]; exact hk)
        have q5 := a8 t ht ht3
        rw [q1, q2, lsum_ltz, q3]
        by_cases e : m = t
        · rw [if_pos ⟨s7, h3, by rw [s5]; omega⟩] at q4
          rw [if_pos e]
          omega
        · rw [if_neg (fun h => e (by rw [s5] at h; omega))] at q4
          rw [if_neg e]
          omega
      · have q1 : fb_ct (qlet (zu (zu (ltz (zu s 7 k 1) 3 (s 1 m) (s 1 k) m (s 6 k) 0 0 0 0) 32 (s 33 0) k) 33 0 (s 33 0 + 1)) g t) (zu (zu (ltz (zu s 7 k 1) 3 (s 1 m) (s 1 k) m (s 6 k) 0 0 0 0) 32 (s 33 0) k) 33 0 (s 33 0 + 1) 24 0) = fb_ct (qlet (ltz (zu s 7 k 1) 3 (s 1 m) (s 1 k) m (s 6 k) 0 0 0 0) g t) (ltz (zu s 7 k 1) 3 (s 1 m) (s 1 k) m (s 6 k) 0 0 0 0 24 0) := rfl
        rw [q1, qlet_ltz, if_neg (by omega)]
        exact a9 g t
      · have hl' : l < ltz (zu s 7 k 1) 3 (s 1 m) (s 1 k) m (s 6 k) 0 0 0 0 24 0 := hl
        rw [e24] at hl'
        have g1' : ltz (zu s 7 k 1) 3 (s 1 m) (s 1 k) m (s 6 k) 0 0 0 0 23 l = 1 := g1
        have g2' : ltz (zu s 7 k 1) 3 (s 1 m) (s 1 k) m (s 6 k) 0 0 0 0 14 l = 0 := g2
        by_cases e : l = s 24 0
        · have : ltz (zu s 7 k 1) 3 (s 1 m) (s 1 k) m (s 6 k) 0 0 0 0 14 (s 24 0) = 3 := c14
          rw [e, this] at g2'
          omega
        · rw [en 23 l e (by omega)] at g1'
          rw [en 14 l e (by omega)] at g2'
          obtain ⟨l', j1, j2, j3, j4⟩ := a10 l (by omega) g1' g2'
          refine ⟨l', j1, j2, j3, j4.trans ?_⟩
          show s 17 l = ltz (zu s 7 k 1) 3 (s 1 m) (s 1 k) m (s 6 k) 0 0 0 0 17 l
          rw [en 17 l e (by omega)]
          rfl
      · have hne : l ≠ s 24 0 := by omega
        obtain ⟨j1, j2, j3⟩ := a11 l hl
        refine ⟨(en 23 l hne (by omega)).trans j1, (en 14 l hne (by omega)).trans j2, (en 17 l hne (by omega)).trans j3⟩
    · rw [if_neg h3]
      have hg0 : gfr v h K k = 0 := by
        simp only [gfr]
        rw [if_neg (fun h => h3 (by rw [s0]; exact h.2.2.1))]
      refine ⟨fun f i f7 f14 f32 f33 => ?_, b7, ?_, ?_, ?_, a6, hX7, fun t ht ht3 => ?_, a9, a10, a11⟩
      · rw [zu_n (by omega), zu_n (by omega), zu_n (by omega)]
        exact a1 f i f7 f14 f32 f33
      · show s 24 0 = _
        rw [fb_sm_succ]
        omega
      · rw [b33]; omega
      · rw [b33]
        exact b32 _ (fun i hi => a5 i hi)
      · have q1 : gsum (zu (zu (zu s 7 k 1) 32 (s 33 0) k) 33 0 (s 33 0 + 1)) t = gsum (zu s 7 k 1) t := rfl
        have q2 : lsum (zu (zu (zu s 7 k 1) 32 (s 33 0) k) 33 0 (s 33 0 + 1)) t = lsum s t := rfl
        have q4 := gsum_7 (s := s) (k := k) (j := t) (by rw [s9]; exact hk)
        rw [if_neg (fun h => h3 h.2.1)] at q4
        have q5 := a8 t ht ht3
        rw [q1, q2]
        omega
theorem CPI.all (hI : Inv D n v u w) (hroom : v 24 0 + fb_sm (gfr v h K) (v 9 0) ≤ 600) : ∀ k, k ≤ v 9 0 → CPI v h K k (clv v h K k) := by
  intro k
  induction k with
  | zero => intro _; exact CPI.start hI
  | succ k ih => intro hk; exact (ih (by omega)).step hI (by omega) hroom
/-- what is meant is kept -/
theorem mt_kept (hI : Inv D n v u w) (hx : Mt v x) (hh : v 1 x = h) : Cl (LEv v) (KB v h) x := by
  obtain ⟨hT, hF, hL, hW, hC, hKK, hX, hS, hG, hQ, hM⟩ := hI
  have key : Mt v x ∧ (v 1 x = h → Cl (LEv v) (KB v h) x) := by
    refine hx (fun x => Mt v x ∧ (v 1 x = h → Cl (LEv v) (KB v h) x)) ?_ ?_
    · intro b hb
      have hMb : Mt v b := Cl.base hb
      obtain ⟨m7, m8⟩ := hM b hMb
      have hlt := hMb.lt hT hL hW
      refine ⟨hMb, fun e => Cl.base ⟨hlt, m7, e, ?_⟩⟩
      rcases hb with hb | ⟨l, h1, h2, h3, h4⟩ | hb
      · exact Or.inl hb.2
      · right; left
        obtain ⟨o1, o2, o3, o4, o5, o6, o7, o8, -⟩ := hL.2.1 l h1
        obtain ⟨r, p, -, -, -, -, -, -, o18⟩ := o8 h3
        have hge := lsum_ge h1 h2
        rw [h4] at hge o5 o4
        have := (hS b o4 o5).1
        exact ⟨by omega, m8⟩
      · exact Or.inr (Or.inr hb)
    · rintro x y ⟨hMx, hKx⟩ hE
      have hMy : Mt v y := hMx.step hE
      obtain ⟨m7, m8⟩ := hM y hMy
      obtain ⟨n7, n8⟩ := hM x hMx
      have hlx := hMx.lt hT hL hW
      have hly := hMy.lt hT hL hW
      refine ⟨hMy, fun e => ?_⟩
      rcases hE with hE | ⟨h3, h5⟩
      · obtain ⟨q, q1, q2, q3⟩ := hE.at
        have := ((hT.pl hlx q1).2.1 q2).2.1
        rw [q3] at this
        exact (hKx (by rw [← this]; exact e)).step hE
      · have gge := gsum_ge hlx n7 h3 h5
        obtain ⟨⟨m, j1, j2, j3, j4⟩, -, -, g6⟩ := hT.g hlx h3
        have : m = y := by omega
        subst this
        have := (hS m j2 j3).1
        exact Cl.base ⟨j2, m7, e, Or.inr (Or.inl ⟨by omega, m8⟩)⟩
  exact key.2 hh
theorem Inv.clean (hI : Inv D0 n v u w) (hroom : v 24 0 + fb_sm (gfr v h K) (v 9 0) ≤ 600) (hK : ∀ x, K x = true ↔ Cl (LEv v) (KB v h) x) : Inv (fun g => g = h) n (clv v h K (v 9 0)) u w := by
  obtain ⟨a1, a2, a3, a4, a5, a6, a7, a8, a9, a10, a11⟩ := CPI.all hI hroom (v 9 0) (Nat.le_refl _)
  have hmt := fun x hx hh => mt_kept (h := h) (x := x) hI hx hh
  obtain ⟨hT, hF, hL, hW, hC, hKK, hX, hS, hG, hQ, hM⟩ := hI.dirty (D := fun g => g = h)
  generalize clv v h K (v 9 0) = s at *
  have e : ∀ f i, f ≠ 7 ∧ ¬ (14 ≤ f ∧ f ≤ 24) ∧ f ≠ 32 ∧ f ≠ 33 → s f i = v f i := fun f i hf => a1 f i hf.1 hf.2.1 hf.2.2.1 hf.2.2.2
  have s0 : ∀ i, s 0 i = v 0 i := fun i => e 0 i (by decide)
  have s1 : ∀ i, s 1 i = v 1 i := fun i => e 1 i (by decide)
  have s3 : ∀ i, s 3 i = v 3 i := fun i => e 3 i (by decide)
  have s4 : ∀ i, s 4 i = v 4 i := fun i => e 4 i (by decide)
  have s5 : ∀ i, s 5 i = v 5 i := fun i => e 5 i (by decide)
  have s6 : ∀ i, s 6 i = v 6 i := fun i => e 6 i (by decide)
  have s8 : ∀ i, s 8 i = v 8 i := fun i => e 8 i (by decide)
  have s9 : ∀ i, s 9 i = v 9 i := fun i => e 9 i (by decide)
  have s10 : ∀ i, s 10 i = v 10 i := fun i => e 10 i (by decide)
  have s11 : ∀ i, s 11 i = v 11 i := fun i => e 11 i (by decide)
  have s12 : ∀ i, s 12 i = v 12 i := fun i => e 12 i (by decide)
  have s26 : ∀ i, s 26 i = v 26 i := fun i => e 26 i (by decide)
  have s27 : ∀ i, s 27 i = v 27 i := fun i => e 27 i (by decide)
  have s28 : ∀ i, s 28 i = v 28 i := fun i => e 28 i (by decide)
  have s29 : ∀ i, s 29 i = v 29 i := fun i => e 29 i (by decide)
  have s30 : ∀ i, s 30 i = v 30 i := fun i => e 30 i (by decide)
  -- those that are kept
  have kept7 : ∀ x, x < v 9 0 → v 7 x = 0 → (v 1 x = h → K x = true) → s 7 x = 0 := fun x hx h7 hk => by
    rw [a2, if_neg (fun h2 => by rw [hk h2.2.2.1] at h2; exact absurd h2.2.2.2 (by decide))]
    exact h7
  have there : ∀ x, s 7 x = 0 → x < v 9 0 → v 7 x = 0 ∧ (v 1 x = h → K x = true) := fun x hx hlt => by
    rw [a2] at hx
    by_cases e2 : x < v 9 0 ∧ v 7 x = 0 ∧ v 1 x = h ∧ K x = false
    · rw [if_pos e2] at hx; cases hx
    · rw [if_neg e2] at hx
      refine ⟨hx, fun hh => ?_⟩
      cases eK : K x with
      | true => rfl
      | false => exact absurd ⟨hlt, hx, hh, eK⟩ e2
  have hT' : iT s := by
    refine ⟨by rw [s9]; exact hT.1, fun t ht => ?_⟩
    rw [s9] at ht
    obtain ⟨c1, c2, c3, c4, c5, c6, c7, c8, c9, c10, c11, c12, c13⟩ := hT.2 t ht
    simp only [s0, s1, s3, s4, s5, s6, s8, s9, s10, s11, s12]
    refine ⟨c1, c2, c3, ?_, c5, c6, c7, fun h2 => ?_, c9, c10, c11, c12, fun p hp => ?_⟩
    · rw [a2]
      split <;> omega
    · exact kept7 t ht (c8 h2) (fun hh => (hK t).mpr (Cl.base ⟨ht, c8 h2, hh, Or.inl h2⟩))
    · obtain ⟨q1, q2, q3⟩ := c13 p hp
      refine ⟨q1, fun e1 => ?_, q3⟩
      obtain ⟨r1, r2, r3⟩ := q2 e1
      refine ⟨r1, r2, fun h7 => ?_⟩
      obtain ⟨t7, tk⟩ := there t h7 ht
      refine kept7 _ r1 (r3 t7) (fun hh => ?_)
      have hk := tk (by rw [← r2]; exact hh)
      exact (hK _).mpr (((hK t).mp hk).step (LEv.mk hp e1 rfl))
  have hloc : ∀ g, g < 8 → ¬ g = h → Loc v s g := fun g hg hne => by
    refine ⟨fun x hx hgx => ⟨by rw [s9]; exact hx, by rw [s1]; exact hgx, s0 x, s3 x, s4 x, s6 x, ?_, s8 x, ?_, fun p _ => ⟨s10 _, fun _ => s11 _⟩⟩, fun x hx hgx => ⟨by rw [s9] at hx; exact hx, by rw [s1] at hgx; exact hgx⟩⟩
    · rw [a2, if_neg (fun h2 => hne (by rw [← hgx]; exact h2.2.2.1))]
    · simp only [Wtd, s29, s26]
  refine ⟨hT', fun t h1 h2 => ?_, a6, ⟨by rw [s29]; exact hW.1, fun k hk => ?_⟩, ⟨fun g hg => by rw [s30]; exact hC.1 g hg, by have := hT.1; omega, fun i hi => by rw [s9]; exact a5 i hi⟩, hKK.loc hT hT' hloc (fun g _ => s30 g) (by rw [s9]; exact Nat.le_refl _) (fun x _ => ⟨s0 x, s1 x⟩) (fun f i hf => e f i (by omega)) (fun _ => rfl), a7, fun t ht h3 => ?_, fun a b ha hb h1 h2 h3 h4 h5 h6 => ?_, a9, fun x hx => ?_⟩
  · rw [s9] at h1
    obtain ⟨c1, c2, c3, c4, c5, c6, c7⟩ := hF t h1 h2
    refine ⟨c1, by rw [s4]; exact c2, by rw [s6]; exact c3, ?_, by rw [s8]; exact c5, fun p hp => by rw [s10]; exact c6 p hp, fun k hk => by rw [e 42 _ (by decide)]; exact c7 k hk⟩
    rw [a2, if_neg (by omega)]
    exact c4
  · rw [s29] at hk
    obtain ⟨w1, w2, w3, w4, w5, w6⟩ := hW.2 k hk
    rw [s26, s27, s28, s9, s0, s0, s3]
    exact ⟨w1, w2, kept7 _ w1 w3 (fun hh => (hK _).mpr (Cl.base ⟨w1, w3, hh, Or.inr (Or.inr ⟨k, hk, rfl⟩)⟩)), w4, w5, w6⟩
  · rw [s9] at ht
    rw [s0] at h3
    rw [s4]
    exact ⟨a8 t ht h3, (hS t ht h3).2⟩
  · rw [s9] at ha hb
    rw [s0] at h3 h4
    rw [s1, s1] at h5
    rw [s5, s5] at h6
    exact hG a b ha hb (there a h1 ha).1 (there b h2 hb).1 h3 h4 h5 h6
  · have hMx : Mt v x := by
      refine hx (Mt v) ?_ ?_
      · rintro b (⟨b1, b2⟩ | ⟨l, h1, h2, h3, h4⟩ | ⟨k, h1, h2⟩)
        · rw [s9] at b1
          rw [s0] at b2
          exact Cl.base (Or.inl ⟨b1, b2⟩)
        · obtain ⟨l', j1, j2, j3, j4⟩ := a10 l h1 h2 h3
          exact Cl.base (Or.inr (Or.inl ⟨l', j1, j2, j3, by rw [j4, h4]⟩))
        · rw [s29] at h1
          rw [s26] at h2
          exact Cl.base (Or.inr (Or.inr ⟨k, h1, h2⟩))
      · intro x y hS' hE
        refine hS'.step ?_
        rcases hE with hE | ⟨e1, e2⟩
        · obtain ⟨q, q1, q2, q3⟩ := hE.at
          rw [s3] at q1
          rw [s10] at q2
          rw [s11] at q3
          exact Or.inl (LEv.mk q1 q2 q3)
        · rw [s0] at e1
          rw [s5] at e2
          exact Or.inr ⟨e1, e2⟩
    obtain ⟨m7, m8⟩ := hM x hMx
    rw [s8]
    exact ⟨kept7 x (hMx.lt hT hL hW) m7 (fun hh => (hK x).mpr (hmt x hMx hh)), m8⟩
end FR3
