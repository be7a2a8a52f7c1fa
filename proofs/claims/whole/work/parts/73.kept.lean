/-! What a cleaning keeps. -/
def KB (v : Nu) (h k : Nat) : Prop := k < v 9 0 ∧ v 7 k = 0 ∧ v 1 k = h ∧ (v 0 k = 2 ∨ (0 < v 4 k ∧ v 8 k = 0) ∨ Wtd v k)
section KE
variable {d d' : AD} {c c' : CH} {v v' : Nu} {u u' : Mu} {w w' : Me} {n q z m r t p k l b0 g wt x h : Nat} {D : Nat → Prop}
theorem wtd_fst : fst1 v t < v 29 0 ↔ Wtd v t := by
  constructor
  · intro h
    have := fa_first_yes (fun j => v 26 j == t) (v 29 0) h
    exact ⟨fst1 v t, h, by simpa [fst1] using this⟩
  · rintro ⟨k, k1, k2⟩
    rcases Nat.lt_or_ge (fst1 v t) (v 29 0) with h | h
    · exact h
    · have := fa_first_no (fun j => v 26 j == t) (v 29 0) k (Nat.lt_of_lt_of_le k1 h)
      simp [k2] at this
theorem e_first2 [Decidable (Wtd v t)] (R : RC d c v u w) (hW : iW v) (ht : t < v 9 0) : ∃ x, fX7_firstFor (da d 105 0) (some (da d 1 t)) (cB d c) = some (x, cB d c) ∧ (x = -1 ↔ ¬ Wtd v t) := by
  have := e_firstFor (t := t) R hW.1 (fun k hk => (hW.2 k hk).1) ht
  refine ⟨_, this, ?_⟩
  by_cases e : fst1 v t < v 29 0
  · rw [if_pos e]
    exact ⟨fun h => absurd h (nI_m1 (by have := hW.1; omega)), fun h => absurd (wtd_fst.mp e) h⟩
  · rw [if_neg e]
    exact ⟨fun _ h => e (wtd_fst.mpr h), fun _ => rfl⟩
theorem s_isWaited [Decidable (Wtd v t)] (hN : Nv v u) (hT : iT v) (hW : iW v) (ht : t < v 9 0) : fX11_isWaited q (nI t) (mB q z u w) = some (if Wtd v t then 1 else 0, mB q z u w) := by
  have hb := hT.1
  have hb2 := hW.1
  have key : ∀ (j k n' : Nat), k + j = v 29 0 → j + 1 < n' → (∀ i, i < k → v 26 i ≠ t) → fX11_isWaited_4 n' q (nI t) 0 (nI k) (mB q z u w) = some (if Wtd v t then 1 else 0, mB q z u w) := by
    intro j
    induction j with
    | zero =>
      intro k n' e1 e2 e3
      obtain ⟨n', rfl⟩ : ∃ a, n' = a + 1 := ⟨n' - 1, by omega⟩
      have : k = v 29 0 := by omega
      subst this
      rw [fX11_isWaited_4, mG29, b1_s, hN.k29, if_pos (Int32.le_refl _), if_neg (fun ⟨i, i1, i2⟩ => e3 i i1 i2)]
      rfl
    | succ j ih =>
      intro k n' e1 e2 e3
      obtain ⟨n', rfl⟩ : ∃ a, n' = a + 1 := ⟨n' - 1, by omega⟩
      have h26 := (hW.2 k (by omega)).1
      rw [fX11_isWaited_4, mG29, b1_s, hN.k29, nI_ifle (by omega) (by omega), if_neg (by omega), if_pos rfl, mA26, b1_s, mX26, mI_n (by omega) (by decide), b1_s, hN.k26, nI_ifeq (by omega) (by omega), nI_1]
      by_cases e : v 26 k = t
      · obtain ⟨n', rfl⟩ : ∃ a, n' = a + 1 := ⟨n' - 1, by omega⟩
        rw [if_pos e, if_pos ⟨k, by omega, e⟩, fX11_isWaited_4, mG29, b1_s]
        by_cases e4 : u 29 0 ≤ nI (k + 1)
        · rw [if_pos e4]
          rfl
        · rw [if_neg e4, if_neg (show ¬ (1 : Int32) = 0 by decide)]
          rfl
      · rw [if_neg e]
        refine ih (k + 1) n' (by omega) (by omega) (fun i hi => ?_)
        by_cases e5 : i = k
        · rw [e5]; exact e
        · exact e3 i (by omega)
  exact key (v 29 0) 0 100000 (by omega) (by omega) (fun i hi => by omega)
/-- the class: what is kept -/
theorem e_findKept {K : Nat → Bool} (R : RC d c v u w) (hT : iT v) (hW : iW v) (h8 : h < 8) (hK : ∀ x, K x = true ↔ Cl (LEv v) (KB v h) x) : ∃ c' m od, fX10_findKept (da d 100 0) (nI h) (cB d c) = some ((), cB d c') ∧ Scc 111 c c' ∧ RC d c' v u w ∧ SR c' 111 (v 9 0) m od ∧ ∀ x, x < 300 → cI c' 112 0 x = if K x = true then 1 else 0 := by
  have hb := hT.1
  haveI := fun k => Classical.propDecidable (KB v h k)
  haveI := fun k => Classical.propDecidable (Wtd v k)
  obtain ⟨c1, od1, q1, q2, q3, q4⟩ := e_restart2 R hb (Or.inl rfl)
  have key := zlp (F := fun n k (c' : CH) => fX10_findKept_9 n (da d 100 0) (nI h) k (cB d c')) (N := v 9 0)
    (fun k c' => ∃ (m' : Nat) (od' : Nat → Nat), Scc 111 c c' ∧ RC d c' v u w ∧ SR c' 111 (v 9 0) m' od' ∧ ∀ x, In m' od' x ↔ KB v h x ∧ x < k)
    (fun y => ∃ (c' : CH) (m' : Nat) (od' : Nat → Nat), y = some ((), cB d c') ∧ Scc 111 c c' ∧ RC d c' v u w ∧ SR c' 111 (v 9 0) m' od' ∧ ∀ x, x < 300 → cI c' 112 0 x = if K x = true then 1 else 0)
    (by
      rintro n k c' hk ⟨m', od', p1, p2, p3, p4⟩
      left
      obtain ⟨k0, k1, k3, k7, k8, k4, k6⟩ := hT.k hk
      have hF := p2.2.1
      have hX := p2.2.2.1
      obtain ⟨fx, f1, f2⟩ := e_first2 (t := k) p2 hW hk
      have e1 : fX10_findKept_9 (n + 1) (da d 100 0) (nI h) (nI k) (cB d c') = if KB v h k then (b2 (fX3_add (da d 111 0) (some (da d 1 k)) (cB d c')) fun _ s18 => fX10_findKept_9 n (da d 100 0) (nI h) (nI (k + 1)) s18) else fX10_findKept_9 n (da d 100 0) (nI h) (nI (k + 1)) (cB d c') := by
        rw [fX10_findKept_9, qa_100_0 hF hX, b1_s, qt_101 hF, b1_s, e_size p2, b2_s, nI_ifle (by omega) (by omega), if_neg (by omega), qa_100_0 hF hX, b1_s, qt_101 hF, b1_s, e_find p2 hb hk k7, b2_s, nI_1]
        by_cases h7 : v 7 k = 0
        · rw [if_pos h7, oe_1, g_host p2 hk, b1_s, nI_ifeq (by omega) (by omega)]
          by_cases hh : v 1 k = h
          · rw [if_pos hh, g_kind p2 hk, b1_s, nI_if2 (by omega)]
            have e71 : fX10_findKept_71 (fX10_findKept_9 n) (da d 100 0) (nI h) (nI k) (da d 1 k) (cB d c') = (b2 (fX3_add (da d 111 0) (some (da d 1 k)) (cB d c')) fun _ s18 => fX10_findKept_9 n (da d 100 0) (nI h) (nI (k + 1)) s18) := by
              unfold fX10_findKept_71
              rw [qa_100_7 hF hX, b1_s, qt_111 hF, b1_s, nI_1]
            by_cases g2 : v 0 k = 2
            · rw [if_pos g2, e71, if_pos ⟨hk, h7, hh, Or.inl g2⟩]
            · rw [if_neg g2, g_tg p2 hk, b1_s, e_isAnchor p2 hk (by omega) k8, b2_s]
              by_cases ga : 0 < v 4 k ∧ v 8 k = 0
              · rw [if_pos ga, if_neg (show ¬ (1 : Int32) = 0 by decide), e71, if_pos ⟨hk, h7, hh, Or.inr (Or.inl ga)⟩]
              · rw [if_neg ga, if_pos rfl, qa_100_2 hF hX, b1_s, qt_105 hF, b1_s, f1, b2_s]
                by_cases gw : Wtd v k
                · rw [if_neg (fun h => (f2.mp h) gw), e71, if_pos ⟨hk, h7, hh, Or.inr (Or.inr gw)⟩]
                · rw [if_pos (f2.mpr gw), if_neg (fun h => h.2.2.2.elim g2 (fun h => h.elim ga gw))]
          · rw [if_neg hh, if_neg (fun h => hh h.2.2.1)]
        · rw [if_neg h7, oe_0, if_neg (fun h => h7 h.2.1)]
      by_cases e : KB v h k
      · rw [if_pos e] at e1
        obtain ⟨c2, m2, od2, r1, r2, r3, r4, r5, r6, r7⟩ := e_add p2.1 (p2.rr (Or.inl rfl)) (p2.tn hb) p3 hk
        rw [r1, b2_s] at e1
        refine ⟨c2, e1, m2, od2, p1.trans r2, p2.sc (Or.inl rfl) r2 r3 r4, r4, fun x => ?_⟩
        rw [r7, p4]
        constructor
        · rintro (⟨a1, a2⟩ | rfl)
          · exact ⟨a1, by omega⟩
          · exact ⟨e, by omega⟩
        · rintro ⟨a1, a2⟩
          by_cases e2 : x = k
          · exact Or.inr e2
          · exact Or.inl ⟨a1, by omega⟩
      · rw [if_neg e] at e1
        refine ⟨c', e1, m', od', p1, p2, p3, fun x => ?_⟩
        rw [p4]
        constructor
        · rintro ⟨a1, a2⟩
          exact ⟨a1, by omega⟩
        · rintro ⟨a1, a2⟩
          by_cases e2 : x = k
          · exact absurd (by rw [← e2]; exact a1) e
          · exact ⟨a1, by omega⟩)
    (by
      rintro n c' ⟨m', od', p1, p2, p3, p4⟩
      have hF := p2.2.1
      have hX := p2.2.2.1
      obtain ⟨c3, m3, od3, s1, s2, s3, s4, s5⟩ := e_spread p2 hT.tb (Or.inl rfl) p3
      refine ⟨c3, m3, od3, ?_, p1.trans s2, s3, s4, fun x hx => ?_⟩
      · show fX10_findKept_9 (n + 1) (da d 100 0) (nI h) (nI (v 9 0)) (cB d c') = _
        rw [fX10_findKept_9, qa_100_0 hF hX, b1_s, qt_101 hF, b1_s, e_size p2, b2_s, if_pos (Int32.le_refl _), qa_100_7 hF hX, b1_s, qt_111 hF, b1_s, s1, b2_s]
      · refine s4.mark hx ?_
        rw [s5, hK]
        constructor
        · exact fun h => h.mono (fun b hB => ((p4 b).mp hB).1)
        · exact fun h => h.mono (fun b hB => (p4 b).mpr ⟨hB, hB.1⟩))
  unfold fX10_findKept
  rw [qa_100_7 R.2.1 R.2.2.1, b1_s, qt_111 R.2.1, b1_s, q1, b2_s]
  exact key (v 9 0) 100000 0 c1 (by omega) (by omega) ⟨0, od1, q2, q3, q4, fun x => ⟨fun ⟨i, hi, _⟩ => by omega, fun h => by omega⟩⟩
/-- the reference: what is kept, and how many GATES are not -/
def gfr (v : Nu) (h : Nat) (K : Nat → Bool) (k : Nat) : Nat := if v 7 k = 0 ∧ v 1 k = h ∧ v 0 k = 3 ∧ K k = false then 1 else 0
theorem s_kept {K : Nat → Bool} (hN : Nv v u) (hT : iT v) (hW : iW v) (h8 : h < 8) (hK : ∀ x, K x = true ↔ Cl (LEv v) (KB v h) x) : ∃ u', (b2 (fX11_noLeads q (mB q z u w)) fun _ s6 => fX11_clean_21 100000 q (nI h) 0 s6) = fX11_clean_99 100000 q (nI h) 0 0 (mB q z u' w) ∧ Sc u u' ∧ ∀ x, x < 300 → u' 34 x = if K x = true then 1 else 0 := by
  have hb := hT.1
  haveI := fun k => Classical.propDecidable (KB v h k)
  haveI := fun k => Classical.propDecidable (Wtd v k)
  obtain ⟨u0, a1, a2, a3⟩ := s_noLeads2 (o := q) (z := z) (u := u) (w := w) (v := v) (B := KB v h) hb
  have key := zlp (F := fun n k (u' : Mu) => fX11_clean_21 n q (nI h) k (mB q z u' w)) (N := v 9 0)
    (fun k u' => Sc u u' ∧ MK v (KB v h) u' ∧ ∀ x, x < k → KB v h x → u' 34 x = 1)
    (fun y => ∃ u', y = fX11_clean_99 100000 q (nI h) 0 0 (mB q z u' w) ∧ Sc u u' ∧ ∀ x, x < 300 → u' 34 x = if K x = true then 1 else 0)
    (by
      rintro n k u' hk ⟨p1, p2, p3⟩
      left
      have hN' := hN.sc p1
      obtain ⟨k0, k1, k3, k7, k8, k4, k6⟩ := hT.k hk
      have e84 : fX11_clean_84 (fX11_clean_21 n) q (nI h) (nI k) (mB q z u' w) = (b2 (fX11_lead q (nI k) (mB q z u' w)) fun _ s18 => fX11_clean_21 n q (nI h) (nI (k + 1)) s18) := by
        unfold fX11_clean_84
        rw [mtg, b1_s, nI_1]
      have e1 : fX11_clean_21 (n + 1) q (nI h) (nI k) (mB q z u' w) = if KB v h k then (b2 (fX11_lead q (nI k) (mB q z u' w)) fun _ s18 => fX11_clean_21 n q (nI h) (nI (k + 1)) s18) else fX11_clean_21 n q (nI h) (nI (k + 1)) (mB q z u' w) := by
        rw [fX11_clean_21]
        simp (disch := omega) only [mG9, mA7, mX7, mA0, mX0, mA1, mX1, mtg, b1_s, mI_n, nI_1, hN'.k9, hN'.k7, hN'.k0, hN'.k1, nI_ifle, nI_if0, nI_if2, nI_ifeq, e84]
        rw [if_neg (show ¬ v 9 0 ≤ k by omega)]
        by_cases hh : v 1 k = h
        · rw [if_pos hh]
          by_cases h7 : v 7 k = 0
          · rw [if_pos h7]
            by_cases g2 : v 0 k = 2
            · rw [if_pos g2, if_pos ⟨hk, h7, hh, Or.inl g2⟩]
            · rw [if_neg g2, s_holdsOut hN' hT hk, b2_s]
              by_cases ga : 0 < v 4 k ∧ v 8 k = 0
              · have g3 : v 0 k ≠ 3 := fun e => by have := (hT.g hk e).2.1; omega
                rw [if_pos (show v 7 k = 0 ∧ v 0 k ≠ 3 ∧ 0 < v 4 k ∧ v 8 k = 0 from ⟨h7, g3, ga.1, ga.2⟩), if_neg (show ¬ (1 : Int32) = 0 by decide), e84, if_pos ⟨hk, h7, hh, Or.inr (Or.inl ga)⟩]
              · rw [if_neg (show ¬ (v 7 k = 0 ∧ v 0 k ≠ 3 ∧ 0 < v 4 k ∧ v 8 k = 0) from fun h => ga ⟨h.2.2.1, h.2.2.2⟩), if_pos rfl, mA0, b1_s, mX0, mI_n (by omega) (by decide), b1_s, hN'.k0, nI_if3 (by omega)]
                by_cases g3 : v 0 k = 3
                · rw [if_pos g3, mtg, b1_s, s_isWaited hN' hT hW hk, b2_s]
                  by_cases gw : Wtd v k
                  · rw [if_pos gw, if_neg (show ¬ (1 : Int32) = 0 by decide), e84, if_pos ⟨hk, h7, hh, Or.inr (Or.inr gw)⟩]
                  · rw [if_neg gw, if_pos rfl, if_neg (fun h => h.2.2.2.elim g2 (fun h => h.elim ga gw))]
                · rw [if_neg g3, if_neg (fun h => h.2.2.2.elim g2 (fun h => h.elim ga (fun ⟨j, j1, j2⟩ => g3 (by have := (hW.2 j j1).2.1; rw [j2] at this; exact this))))]
          · rw [if_neg h7, if_neg (fun h => h7 h.2.1)]
        · rw [if_neg hh, if_neg (fun h => hh h.2.2.1)]
      by_cases e : KB v h k
      · rw [if_pos e] at e1
        obtain ⟨u2, r1, r2, r3, r4, r5⟩ := s_lead2 (o := q) (z := z) (w := w) hN' hT hk p2 e
        rw [r1, b2_s] at e1
        refine ⟨u2, e1, p1.trans r2, r3, fun x hx hx2 => ?_⟩
        by_cases e2 : x = k
        · rw [e2]; exact r5
        · exact r4 x (p3 x (by omega) hx2)
      · rw [if_neg e] at e1
        refine ⟨u', e1, p1, p2, fun x hx hx2 => ?_⟩
        by_cases e2 : x = k
        · exact absurd (by rw [← e2]; exact hx2) e
        · exact p3 x (by omega) hx2)
    (by
      rintro n u' ⟨p1, p2, p3⟩
      have hN' := hN.sc p1
      refine ⟨u', ?_, p1, fun x hx => p2.mark hT (fun b hB => ⟨hB.1, p3 b hB.1 hB⟩) hx (hK x).symm⟩
      show fX11_clean_21 (n + 1) q (nI h) (nI (v 9 0)) (mB q z u' w) = _
      rw [fX11_clean_21, mG9, b1_s, hN'.k9, if_pos (Int32.le_refl _)])
  rw [a1, b2_s]
  exact key (v 9 0) 100000 0 u0 (by omega) (by omega) ⟨a2, a3, fun x hx => by omega⟩
theorem e_gatesToFree {K : Nat → Bool} {m : Nat} {od : Nat → Nat} (R : RC d c v u w) (hT : iT v) (h8 : h < 8) (hS : SR c 111 (v 9 0) m od) (hK : ∀ x, x < 300 → cI c 112 0 x = if K x = true then 1 else 0) : fX10_gatesToFree (da d 100 0) (nI h) (cB d c) = some (0 + nI (fb_sm (gfr v h K) (v 9 0)), cB d c) := by
  have hb := hT.1
  have hF := R.2.1
  have hX := R.2.2.1
  refine zsum (F := fun n a k => fX10_gatesToFree_4 n (da d 100 0) (nI h) a k (cB d c)) (f := gfr v h K) (G := fun a => some (a, cB d c)) (N := v 9 0) ?_ ?_ (m := 100000) (by omega) 0
  · intro n a k hk
    obtain ⟨k0, k1, k3, k7, -⟩ := hT.k hk
    show fX10_gatesToFree_4 (n + 1) (da d 100 0) (nI h) a (nI k) (cB d c) = _
    have z0 : a + nI 0 = a := Int32.add_zero _
    rw [fX10_gatesToFree_4, qa_100_0 hF hX, b1_s, qt_101 hF, b1_s, e_size R, b2_s, nI_ifle (by omega) (by omega), if_neg (by omega), qa_100_0 hF hX, b1_s, qt_101 hF, b1_s, e_find R hb hk k7, b2_s, nI_1, gfr]
    by_cases h7 : v 7 k = 0
    · rw [if_pos h7, oe_1, g_host R hk, b1_s, nI_ifeq (by omega) (by omega)]
      by_cases hh : v 1 k = h
      · rw [if_pos hh, g_kind R hk, b1_s, nI_if3 (by omega)]
        by_cases h3 : v 0 k = 3
        · rw [if_pos h3, qa_100_7 hF hX, b1_s, qt_111 hF, b1_s, e_has (R.rr (Or.inl rfl)) (R.tn hb) hS hk, b2_s, hK k (by omega)]
          cases eK : K k with
          | true => rw [if_pos rfl, if_neg (show ¬ (1 : Int32) = 0 by decide), if_neg (by simp), z0]
          | false =>
            rw [if_neg (show ¬ false = true by decide), if_pos rfl, if_pos ⟨h7, hh, h3, rfl⟩]
            rfl
        · rw [if_neg h3, if_neg (fun h => h3 h.2.2.1), z0]
      · rw [if_neg hh, if_neg (fun h => hh h.2.1), z0]
    · rw [if_neg h7, oe_0, if_neg (fun h => h7 h.1), z0]
  · intro n a
    show fX10_gatesToFree_4 (n + 1) (da d 100 0) (nI h) a (nI (v 9 0)) (cB d c) = _
    rw [fX10_gatesToFree_4, qa_100_0 hF hX, b1_s, qt_101 hF, b1_s, e_size R, b2_s, if_pos (Int32.le_refl _)]
theorem s_clean99 {K : Nat → Bool} (hN : Nv v u) (hT : iT v) (h8 : h < 8) (hK : ∀ x, x < 300 → u 34 x = if K x = true then 1 else 0) : fX11_clean_99 100000 q (nI h) 0 0 (mB q z u w) = (b1 (gI 11 24 q (mB q z u w)) fun x3 => (if (x3 + (0 + nI (fb_sm (gfr v h K) (v 9 0)))) ≤ 600 then (b1 (pI 11 33 q 0 (mB q z u w)) fun s5 => fX11_clean_185 100000 q (nI h) 0 s5) else (b1 (tg 11 q (mB q z u w)) fun _ => (b2 (fX11_refuse q (-6) (mB q z u w)) fun x7 s8 => some (x7, s8))))) := by
  have hb := hT.1
  refine zsum (F := fun n a k => fX11_clean_99 n q (nI h) a k (mB q z u w)) (f := gfr v h K) (G := fun a => (b1 (gI 11 24 q (mB q z u w)) fun x3 => (if (x3 + a) ≤ 600 then (b1 (pI 11 33 q 0 (mB q z u w)) fun s5 => fX11_clean_185 100000 q (nI h) 0 s5) else (b1 (tg 11 q (mB q z u w)) fun _ => (b2 (fX11_refuse q (-6) (mB q z u w)) fun x7 s8 => some (x7, s8)))))) (N := v 9 0) ?_ ?_ (m := 100000) (by omega) 0
  · intro n a k hk
    obtain ⟨k0, k1, k3, k7, -⟩ := hT.k hk
    show fX11_clean_99 (n + 1) q (nI h) a (nI k) (mB q z u w) = _
    have z0 : a + nI 0 = a + 0 := rfl
    have hKk := hK k (by omega)
    rw [fX11_clean_99]
    simp (disch := omega) only [mG9, mA7, mX7, mA0, mX0, mA1, mX1, mA34, mX34, b1_s, mI_n, nI_1, hN.k9, hN.k7, hN.k0, hN.k1, nI_ifle, nI_if0, nI_if3, nI_ifeq, hKk]
    rw [if_neg (show ¬ v 9 0 ≤ k by omega), gfr]
    by_cases hh : v 1 k = h
    · rw [if_pos hh]
      by_cases h7 : v 7 k = 0
      · rw [if_pos h7]
        cases eK : K k with
        | true => rw [if_pos rfl, if_neg (show ¬ (1 : Int32) = 0 by decide), if_neg (by simp), z0]
        | false =>
          rw [if_neg (show ¬ false = true by decide), if_pos rfl]
          by_cases h3 : v 0 k = 3
          · rw [if_pos h3, if_pos ⟨h7, hh, h3, rfl⟩]
            rfl
          · rw [if_neg h3, if_neg (fun h => h3 h.2.2.1), z0]
      · rw [if_neg h7, if_neg (fun h => h7 h.1), z0]
    · rw [if_neg hh, if_neg (fun h => hh h.2.1), z0]
  · intro n a
    show fX11_clean_99 (n + 1) q (nI h) a (nI (v 9 0)) (mB q z u w) = _
    rw [fX11_clean_99, mG9, b1_s, hN.k9, if_pos (Int32.le_refl _)]
end KE
