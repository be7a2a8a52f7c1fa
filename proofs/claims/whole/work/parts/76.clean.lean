section CL
variable {d d' : AD} {c c' : CH} {v v' s : Nu} {u u' : Mu} {w w' : Me} {n q z m r t p k l b0 g wt x h : Nat} {D : Nat → Prop} {K : Nat → Bool}
theorem e_free40 (R : RC d c v u w) (hk : k < v 9 0) (h33 : v 33 0 < 300) : ∃ c', fX10_free_40 (da d 100 0) (da d 1 k) (cB d c) = some ((), cB d c') ∧ RC d c' (zu (zu v 32 (v 33 0) k) 33 0 (v 33 0 + 1)) u w ∧ ∀ x, 111 ≤ x → sm x c c' := by
  have hF := R.2.1
  have hX := R.2.2.1
  obtain ⟨h1, h2, h3, h4, h5⟩ := R.2.2.2.2.2.2.2.1
  have hN : cN c 110 0 = 300 := hX.2.2.2.2.2.2.2.2.1
  have R1 : RC d (kwI 110 0 (v 33 0) (nI k) c) (zu v 32 (v 33 0) k) u w := R.co (f110 hF) (by omega) (fun k i hk => zu_n (by omega)) ⟨h1, h2, h3, fun i hi => by
    have hi' : i < v 33 0 := hi
    show z3 c.1 110 0 (v 33 0) (nI k) 110 0 i = nI (zu v 32 (v 33 0) k 32 i)
    rw [z3_n (by omega), zu_n (by omega)]
    exact h4 i hi', h5⟩
  obtain ⟨g1, g2, g3, g4, g5⟩ := R1.2.2.2.2.2.2.2.1
  have R2 : RC d (kwI 100 0 11 (nI (v 33 0 + 1)) (kwI 110 0 (v 33 0) (nI k) c)) (zu (zu v 32 (v 33 0) k) 33 0 (v 33 0 + 1)) u w := R1.co (f100 hF) (by omega) (fun k i hk => zu_n (by omega)) ⟨g1, g2, by
    rw [zu_s]
    show z3 (z3 c.1 110 0 (v 33 0) (nI k)) 100 0 11 (nI (v 33 0 + 1)) 100 0 11 = _
    exact z3_s, fun i hi => by
    have hi' : i < v 33 0 + 1 := by rw [zu_s] at hi; exact hi
    show z3 (z3 c.1 110 0 (v 33 0) (nI k)) 100 0 11 (nI (v 33 0 + 1)) 110 0 i = nI (zu v 32 (v 33 0) k 32 i)
    rw [z3_n (by omega)]
    by_cases e : i = v 33 0
    · rw [e, z3_s, zu_s]
    · rw [z3_n (by omega), zu_n (by omega)]
      exact h4 i (by omega), by
    show z3 (z3 c.1 110 0 (v 33 0) (nI k)) 100 0 11 (nI (v 33 0 + 1)) 100 0 12 = nI (v 25 0)
    rw [z3_n (by omega), z3_n (by omega)]
    exact h5⟩
  have s1 : cI (kwI 110 0 (v 33 0) (nI k) c) 100 0 11 = nI (v 33 0) := h3
  refine ⟨_, ?_, R2, fun x hx => (sm.rfl.I (by omega)).I (by omega)⟩
  unfold fX10_free_40
  rw [cgI (t := 10) (f100 hF) rfl, b1_s, h3, qa_100_6 hF hX, b1_s, qn_110 hF hX, b1_s, nI_ifle (by omega) (by omega), if_neg (by omega), b1_s, b1_s, g_num R hk, b1_s, cyI R.1.1 (f110 hF) rfl (by rw [hN]; omega) (by omega), b1_s, cgI (t := 10) (f100 hF) rfl, b1_s, s1, nI_1, cpI (t := 10) R.1.1 (f100 hF) rfl, b1_s]
/-- tables in which things are as in v, but for which are gone -/
theorem CPI.it (hT : iT v) (H : CPI v h K k s) : s 9 0 = v 9 0 ∧ (∀ t, t < v 9 0 → s 0 t = v 0 t ∧ s 1 t = v 1 t ∧ s 5 t = v 5 t ∧ s 6 t = v 6 t ∧ s 3 t = v 3 t) ∧ s 7 k = v 7 k := by
  obtain ⟨a1, a2, -⟩ := H
  refine ⟨a1 9 0 (by decide) (by decide) (by decide) (by decide), fun t _ => ⟨a1 0 t (by decide) (by decide) (by decide) (by decide), a1 1 t (by decide) (by decide) (by decide) (by decide), a1 5 t (by decide) (by decide) (by decide) (by decide), a1 6 t (by decide) (by decide) (by decide) (by decide), a1 3 t (by decide) (by decide) (by decide) (by decide)⟩, ?_⟩
  rw [a2, if_neg (by omega)]
/-- a weaker form of iT: all but that what is there holds what is there -/
def iTw (v : Nu) : Prop := v 9 0 ≤ 300 ∧ ∀ t, t < v 9 0 → (v 0 t = 3 → ∃ m, v 5 t = m + 1 ∧ m < v 9 0) ∧ (v 0 t ≠ 3 → v 5 t = 0)
theorem e_free' (R : RC d c s u w) (hT : iTw s) (hk : k < s 9 0) (h33 : s 33 0 < 300) (hroom : s 0 k = 3 → s 24 0 < 600) : ∃ d' c', fX10_free (da d 100 0) (some (da d 1 k)) (cB d c) = some ((), cB d' c') ∧ Ex d d' ∧ RC d' c' (frv s k) u w ∧ ∀ x, 111 ≤ x → sm x c c' := by
  have R1 := R.gone hk
  have hF := R1.2.1
  have hX := R1.2.2.1
  unfold fX10_free
  rw [b1_s, cpZ (t := 5) R.1.1 (R.t hk).1 rfl (Or.inl rfl), b1_s, g_named R1 hk]
  have e5 : zu s 7 k 1 5 k = s 5 k := rfl
  simp only [frv]
  by_cases h3 : s 0 k = 3
  · obtain ⟨m, m1, m2⟩ := (hT.2 k hk).1 h3
    have hm : s 5 k - 1 = m := by omega
    obtain ⟨d', c2, f1, hE, R2, hs2⟩ := e_fileOfWeight2 (kd := 3) (fr := s 1 k) (to := s 1 m) (wt := s 6 k) (t := m) R1 m2 (hroom h3)
    have f1' : fX2_fileOfWeight (da d 103 0) 3 (nI (s 1 k)) (nI (s 1 m)) (some (da d 1 m)) (nI (s 6 k)) (cB d (kwI 1 k 10 0 c)) = some (nI (s 24 0), cB d' c2) := f1
    rw [ltv_eq] at R2
    have h100 := (hE 100 0 (f100 hF)).1
    have h1k := (hE 1 k (R1.t hk).1).1
    obtain ⟨c3, f2, R3, hs3⟩ := e_free40 R2 (show k < s 9 0 from hk) (show s 33 0 < 300 from h33)
    have gh : gI 5 2 (da d 1 k) (cB d (kwI 1 k 10 0 c)) = some (nI (s 1 k)) := g_host (v := zu s 7 k 1) R1 hk
    have gm : gI 5 2 (da d 1 m) (cB d (kwI 1 k 10 0 c)) = some (nI (s 1 m)) := g_host (v := zu s 7 k 1) R1 m2
    have gw : gI 5 7 (da d 1 k) (cB d (kwI 1 k 10 0 c)) = some (nI (s 6 k)) := g_weight (v := zu s 7 k 1) R1 hk
    rw [e5, if_neg (by omega), hm, if_pos h3, b1_s, oe_1, qa_100_1 hF hX, b1_s, gh, b1_s, b1_s, b1_s, gm, b1_s, b1_s, gw, b1_s, qt_103 hF, b1_s, f1', b2_s, ← h100, ← h1k, f2]
    exact ⟨d', c3, rfl, hE, R3, fun x hx => ((sm.rfl.I (by omega)).trans (hs2 x (by omega))).trans (hs3 x hx)⟩
  · obtain ⟨c3, f2, R3, hs3⟩ := e_free40 R1 (show k < s 9 0 from hk) (show s 33 0 < 300 from h33)
    rw [e5, if_pos ((hT.2 k hk).2 h3), if_neg h3, b1_s, oe_0, f2]
    exact ⟨d, c3, rfl, Ex.rfl, R3, fun x hx => (sm.rfl.I (by omega)).trans (hs3 x hx)⟩
theorem CPI.itw (hT : iT v) (H : CPI v h K k s) : iTw s := by
  obtain ⟨h9, h0, -⟩ := H.it hT
  refine ⟨by rw [h9]; exact hT.1, fun t ht => ?_⟩
  rw [h9] at ht ⊢
  obtain ⟨b0, b1, b5, b6, b3⟩ := h0 t ht
  rw [b0, b5]
  refine ⟨fun e => ?_, fun e => (hT.ng ht e).1⟩
  obtain ⟨⟨m, m1, m2, -⟩, -⟩ := hT.g ht e
  exact ⟨m, m1, m2⟩
/-- the class's loop -/
theorem e_clean47 (R : RC d c (zu v 33 0 0) u w) (hI : Inv D0 n v u w) (h8 : h < 8) (hroom : v 24 0 + fb_sm (gfr v h K) (v 9 0) ≤ 600) {m : Nat} {od : Nat → Nat} (hS : SR c 111 (v 9 0) m od) (hK : ∀ x, x < 300 → cI c 112 0 x = if K x = true then 1 else 0) : ∃ d' c', fX10_clean_47 700 (da d 100 0) (nI h) 0 (cB d c) = some (nI (clv v h K (v 9 0) 33 0), cB d' c') ∧ Ex d d' ∧ RC d' c' (if clv v h K (v 9 0) 33 0 = 0 then clv v h K (v 9 0) else tch (clv v h K (v 9 0)) h) u w := by
  have hT := hI.1
  have hb := hT.1
  have all := CPI.all (h := h) (K := K) hI hroom
  have key := zlp (F := fun n k (y : AD × CH) => fX10_clean_47 n (da d 100 0) (nI h) k (cB y.1 y.2)) (N := v 9 0)
    (fun k y => Ex d y.1 ∧ RC y.1 y.2 (clv v h K k) u w ∧ ∀ x, 111 ≤ x → sm x c y.2)
    (fun y => ∃ d' c', y = some (nI (clv v h K (v 9 0) 33 0), cB d' c') ∧ Ex d d' ∧ RC d' c' (if clv v h K (v 9 0) 33 0 = 0 then clv v h K (v 9 0) else tch (clv v h K (v 9 0)) h) u w)
    (by
      rintro n k ⟨d1, c1⟩ hk ⟨hE, R1, hs⟩
      left
      have H := all k (by omega)
      obtain ⟨h9, h0, h7k⟩ := H.it hT
      obtain ⟨b0, b1', b5, b6, b3⟩ := h0 k hk
      obtain ⟨k0, k1, k3, k7, -⟩ := hT.k hk
      have hF := R1.2.1
      have hX := R1.2.2.1
      have hk1 : k < clv v h K k 9 0 := by rw [h9]; exact hk
      have hS1 : SR c1 111 (clv v h K k 9 0) m od := hS.cg (hs 111 (by decide)) (hs 112 (by decide)) (hs 113 (by decide)) (by rw [h9]; exact Nat.le_refl _)
      have hK1 : cI c1 112 0 k = if K k = true then 1 else 0 := by rw [(hs 112 (by decide)).1]; exact hK k (by omega)
      have h100 := (hE 100 0 (f100 R.2.1)).1
      have e1 : fX10_clean_47 (n + 1) (da d 100 0) (nI h) (nI k) (cB d1 c1) = if v 7 k = 0 ∧ v 1 k = h ∧ K k = false then (b2 (fX10_free (da d1 100 0) (some (da d1 1 k)) (cB d1 c1)) fun _ s27 => fX10_clean_47 n (da d1 100 0) (nI h) (nI (k + 1)) s27) else fX10_clean_47 n (da d1 100 0) (nI h) (nI (k + 1)) (cB d1 c1) := by
        rw [← h100, fX10_clean_47, qa_100_0 hF hX, b1_s, qt_101 hF, b1_s, e_size R1, b2_s, h9, nI_ifle (by omega) (by omega), if_neg (by omega), qa_100_0 hF hX, b1_s, qt_101 hF, b1_s, e_find R1 (by rw [h9]; exact hb) hk1 (by rw [h7k]; exact k7), b2_s, nI_1, h7k]
        by_cases h7 : v 7 k = 0
        · rw [if_pos h7, oe_1, g_host R1 hk1, b1_s, b1', nI_ifeq (by omega) (by omega)]
          by_cases hh : v 1 k = h
          · rw [if_pos hh, qa_100_7 hF hX, b1_s, qt_111 hF, b1_s, e_has (R1.rr (Or.inl rfl)) (R1.tn (by rw [h9]; exact hb)) hS1 hk1, b2_s, hK1]
            cases eK : K k with
            | true => rw [if_pos rfl, if_neg (show ¬ (1 : Int32) = 0 by decide), if_neg (by simp)]
            | false => rw [if_neg (show ¬ false = true by decide), if_pos rfl, qt_100 hF, b1_s, if_pos ⟨h7, hh, rfl⟩]
          · rw [if_neg hh, if_neg (fun h => hh h.2.1)]
        · rw [if_neg h7, oe_0, if_neg (fun h => h7 h.1)]
      obtain ⟨a1, a2, a3, a4, -⟩ := H
      by_cases hc : v 7 k = 0 ∧ v 1 k = h ∧ K k = false
      · rw [if_pos hc] at e1
        have hpart := fb_sm_part (gfr v h K) hk
        obtain ⟨d2, c2, f1, hE2, R2, hs2⟩ := e_free' R1 ((all k (by omega)).itw hT) hk1 (by omega) (fun e3 => by
          have : gfr v h K k = 1 := by
            simp only [gfr]
            rw [if_pos ⟨hc.1, hc.2.1, by rw [← b0]; exact e3, hc.2.2⟩]
          omega)
        rw [f1, b2_s, h100] at e1
        have e2 : clv v h K (k + 1) = frv (clv v h K k) k := by
          show (if v 7 k = 0 ∧ v 1 k = h ∧ K k = false then frv (clv v h K k) k else clv v h K k) = _
          rw [if_pos hc]
        exact ⟨(d2, c2), e1, hE.trans hE2, by rw [e2]; exact R2, fun x hx => (hs x hx).trans (hs2 x hx)⟩
      · rw [if_neg hc, h100] at e1
        have e2 : clv v h K (k + 1) = clv v h K k := by
          show (if v 7 k = 0 ∧ v 1 k = h ∧ K k = false then frv (clv v h K k) k else clv v h K k) = _
          rw [if_neg hc]
        exact ⟨(d1, c1), e1, hE, by rw [e2]; exact R1, hs⟩)
    (by
      rintro n ⟨d1, c1⟩ ⟨hE, R1, hs⟩
      have H := all (v 9 0) (Nat.le_refl _)
      obtain ⟨h9, -, -⟩ := H.it hT
      have h33 := H.2.2.2.1
      have hF := R1.2.1
      have hX := R1.2.2.1
      have h100 := (hE 100 0 (f100 R.2.1)).1
      obtain ⟨-, -, c3, -⟩ := R1.2.2.2.2.2.2.2.1
      show ∃ d' c', fX10_clean_47 (n + 1) (da d 100 0) (nI h) (nI (v 9 0)) (cB d1 c1) = _ ∧ _
      rw [← h100, fX10_clean_47, qa_100_0 hF hX, b1_s, qt_101 hF, b1_s, e_size R1, b2_s, h9, if_pos (Int32.le_refl _), cgI (t := 10) (f100 hF) rfl, b1_s, c3]
      by_cases e0 : clv v h K (v 9 0) 33 0 = 0
      · rw [if_pos (show nI (clv v h K (v 9 0) 33 0) ≤ 0 from (by rw [e0]; exact Int32.le_refl _)), b1_s, if_pos e0]
        exact ⟨d1, c1, rfl, hE, R1⟩
      · obtain ⟨c2, r2, R2⟩ := e_touch2 R1 h8
        obtain ⟨-, -, c3', -⟩ := R2.2.2.2.2.2.2.2.1
        have c3'' : cI c2 100 0 11 = nI (clv v h K (v 9 0) 33 0) := c3'
        rw [if_neg (nI_nle (by omega) (by omega)), qt_100 hF, b1_s, r2, b2_s, cgI (t := 10) (f100 hF) rfl, b1_s, c3'', if_neg e0]
        exact ⟨d1, c2, rfl, hE, R2⟩)
  exact key (v 9 0) 700 0 (d, c) (by omega) (by omega) ⟨Ex.rfl, R, fun _ _ => sm.rfl⟩
end CL
