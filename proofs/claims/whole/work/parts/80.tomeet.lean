/-! How many GATES a STEP meets. -/
/-- counted by their places in an order, or by their numbers -/
theorem ct_img {P L : Nat → Bool} {N m : Nat} {od : Nat → Nat} (h1 : ∀ i, i < m → od i < N) (h2 : ∀ i j, i < m → j < m → od i = od j → i = j) (hL : ∀ x, x < N → (L x = true ↔ ∃ i, i < m ∧ od i = x)) : fb_ct (fun i => P (od i)) m = fb_ct (fun x => L x && P x) N := by
  haveI := fun (m x : Nat) => Classical.propDecidable (∃ i, i < m ∧ od i = x)
  have key : ∀ j, j ≤ m → fb_ct (fun i => P (od i)) j = fb_ct (fun x => decide (∃ i, i < j ∧ od i = x) && P x) N := by
    intro j
    induction j with
    | zero =>
      intro _
      symm
      refine fb_ct_zero.mpr (fun k _ => ?_)
      have : ¬ ∃ i, i < 0 ∧ od i = k := fun ⟨i, hi, _⟩ => by omega
      simp [this]
    | succ j ih =>
      intro hj
      rw [fb_ct_succ, ih (by omega)]
      have e1 : fb_ct (fun x => decide (∃ i, i < j + 1 ∧ od i = x) && P x) N = fb_ct (fun x => if x = od j then P (od j) else (decide (∃ i, i < j ∧ od i = x) && P x)) N := by
        refine fb_ct_cong (fun x hx => ?_)
        by_cases e : x = od j
        · rw [if_pos e]
          have : ∃ i, i < j + 1 ∧ od i = x := ⟨j, by omega, e.symm⟩
          rw [decide_eq_true this, e]
          rfl
        · rw [if_neg e]
          have : (∃ i, i < j + 1 ∧ od i = x) ↔ (∃ i, i < j ∧ od i = x) := by
            constructor
            · rintro ⟨i, a, b⟩
              by_cases e2 : i = j
              · rw [e2] at b; exact absurd b.symm e
              · exact ⟨i, by omega, b⟩
            · rintro ⟨i, a, b⟩; exact ⟨i, by omega, b⟩
          simp only [this]
      have h3 := fb_ct_upd (fun x => decide (∃ i, i < j ∧ od i = x) && P x) (P (od j)) (h1 j (by omega))
      have h4 : ¬ ∃ i, i < j ∧ od i = od j := fun ⟨i, a, b⟩ => by have := h2 i j (by omega) (by omega) b; omega
      have h5 : (decide (∃ i, i < j ∧ od i = od j) && P (od j)) = false := by simp [h4]
      simp only [h5] at h3
      rw [e1]
      simpa using h3.symm
  rw [key m (Nat.le_refl _)]
  refine fb_ct_cong (fun x hx => ?_)
  have := hL x hx
  cases eL : L x with
  | true => rw [decide_eq_true (this.mp eL)]
  | false =>
    have : ¬ ∃ i, i < m ∧ od i = x := fun h => by rw [this.mpr h] at eL; cases eL
    rw [decide_eq_false this]
theorem sm_ct {p : Nat → Bool} : ∀ n, fb_sm (fun i => if p i = true then 1 else 0) n = fb_ct p n
  | 0 => rfl
  | n + 1 => by rw [fb_sm_succ, fb_ct_succ, sm_ct n]
section TM
variable {d d' : AD} {c c' : CH} {v v' : Nu} {u u' : Mu} {w w' : Me} {n q z t k x h g y : Nat} {D : Nat → Prop} {L : Nat → Bool}
def mt1 (v : Nu) (k : Nat) (L : Nat → Bool) (g : Nat) : Bool := L g && (v 0 g == 3 && !(met v k g))
theorem e_gatesToMeet (R : RC d c v u w) (hT : iT v) (hk : k < v 46 0) (hy : y < v 9 0) (hL : ∀ x, L x = true ↔ Led v y x) : ∃ c' m od, fX10_gatesToMeet (da d 100 0) (some (da d 5 k)) (some (da d 1 y)) (cB d c) = some (nI (fb_ct (mt1 v k L) (v 9 0)), cB d c') ∧ Scc 111 c c' ∧ RC d c' v u w ∧ SR c' 111 (v 9 0) m od ∧ ∀ x, x < 300 → cI c' 112 0 x = if L x = true then 1 else 0 := by
  have hb := hT.1
  obtain ⟨c1, od1, q1, q2, q3, q4⟩ := e_restart2 R hb (Or.inl rfl)
  obtain ⟨c2, m2, od2, r1, r2, r3, r4, r5, r6, r7⟩ := e_add q3.1 (q3.rr (Or.inl rfl)) (q3.tn hb) q4 hy
  have R2 := q3.sc (Or.inl rfl) r2 r3 r4
  obtain ⟨c3, m3, od3, s1, s2, s3, s4, s5⟩ := e_spread R2 hT.tb (Or.inl rfl) r4
  have hin : ∀ x, In m3 od3 x ↔ L x = true := by
    intro x
    rw [s5, hL]
    constructor
    · exact fun h => h.mono (fun b hB => by
        rcases (r7 b).mp hB with ⟨i, hi, _⟩ | e
        · omega
        · exact e)
    · exact fun h => h.mono (fun b hB => (r7 b).mpr (Or.inr hB))
  obtain ⟨t1, t2, t3, t4, t5⟩ := id s4
  have hF := s3.2.1
  have hX := s3.2.2.1
  refine ⟨c3, m3, od3, ?_, (q2.trans r2).trans s2, s3, s4, fun x hx => ?_⟩
  · unfold fX10_gatesToMeet
    rw [qa_100_7 R.2.1 R.2.2.1, b1_s, qt_111 R.2.1, b1_s, q1, b2_s, qa_100_7 q3.2.1 q3.2.2.1, b1_s, qt_111 q3.2.1, b1_s, r1, b2_s, qa_100_7 R2.2.1 R2.2.2.1, b1_s, qt_111 R2.2.1, b1_s, s1, b2_s]
    have hs := zsum (F := fun n a i => fX10_gatesToMeet_27 n (da d 100 0) (some (da d 5 k)) a i (cB d c3)) (f := fun i => if (v 0 (od3 i) == 3 && !(met v k (od3 i))) = true then 1 else 0) (G := fun a => some (a, cB d c3)) (N := m3)
      (by
        intro n a i hi
        have ho := (t3 i hi).1
        have k0 := (hT.k ho).1
        show fX10_gatesToMeet_27 (n + 1) (da d 100 0) (some (da d 5 k)) a (nI i) (cB d c3) = _
        have z0 : a + nI 0 = a := Int32.add_zero _
        rw [fX10_gatesToMeet_27, qa_100_7 hF hX, b1_s, qt_111 hF, b1_s, e_rsize (s3.rr (Or.inl rfl)) s4, b2_s, nI_ifle (by omega) (by omega), if_neg (by omega), qa_100_7 hF hX, b1_s, qt_111 hF, b1_s, e_rat (s3.rr (Or.inl rfl)) s4 hi, b2_s, oe_1, g_kind s3 ho, b1_s, nI_if3 (by omega), nI_1]
        by_cases h3 : v 0 (od3 i) = 3
        · rw [if_pos h3, b1_s, gk_tg s3 hk, b1_s, e_hasMet s3 hb hk ho, b2_s]
          cases em : met v k (od3 i) with
          | true => rw [if_pos rfl, if_neg (show ¬ (1 : Int32) = 0 by decide), if_neg (by simp), z0]
          | false =>
            rw [if_neg (show ¬ false = true by decide), if_pos rfl, if_pos (by simp [h3])]
            rfl
        · rw [if_neg h3, if_neg (by simp [h3]), z0])
      (by
        intro n a
        show fX10_gatesToMeet_27 (n + 1) (da d 100 0) (some (da d 5 k)) a (nI m3) (cB d c3) = _
        rw [fX10_gatesToMeet_27, qa_100_7 hF hX, b1_s, qt_111 hF, b1_s, e_rsize (s3.rr (Or.inl rfl)) s4, b2_s, if_pos (Int32.le_refl _)])
      (m := 100000) (by omega) 0
    refine Eq.trans hs ?_
    rw [sm_ct, ct_img (P := fun x => v 0 x == 3 && !(met v k x)) (L := L) (N := v 9 0) (fun i hi => (t3 i hi).1) t4 (fun x _ => (hin x).symm), Int32.zero_add]
    rfl
  · exact s4.mark hx (hin x)
/-- the reference: all but its scratch is the same -/
def Sy (u u' : Mu) : Prop := ∀ f i, (f ≠ 34 ∧ f ≠ 36 ∧ f ≠ 48) → u' f i = u f i
theorem Sy.sc {u v : Mu} (h : Sy u v) : Sc u v := fun k i hk => h k i ⟨hk.1, hk.2.2.1, hk.2.2.2.2.1⟩
theorem Sx.sy {u v : Mu} (h : Sx u v) : Sy u v := fun k i hk => h k i ⟨hk.1, hk.2.1⟩
theorem Sy.trans {u v x : Mu} (h1 : Sy u v) (h2 : Sy v x) : Sy u x := fun k i hk => (h2 k i hk).trans (h1 k i hk)
theorem x_gatesToMeet (hN : Nv v u) (hT : iT v) (hk : k < 20) (hy : y < v 9 0) (h42 : ∀ x, x < 300 → v 42 (300 * k + x) ≤ 1) (hL : ∀ x, L x = true ↔ Led v y x) : ∃ u', fX11_gatesToMeet q (nI k) (nI y) (mB q z u w) = some (nI (if v 7 y = 0 ∧ v 42 (300 * k + y) = 0 then fb_ct (mt1 v k L) (v 9 0) else 0), mB q z u' w) ∧ Sy u u' ∧ (v 7 y = 0 ∧ v 42 (300 * k + y) = 0 → ∀ x, x < v 9 0 → u' 48 x = if mt1 v k L x = true then 1 else 0) := by
  have hb := hT.1
  obtain ⟨k0, k1, k3, k7, -⟩ := hT.k hy
  have h42y := h42 y (by omega)
  have key := zlp (F := fun n j (s : Mu) => fX11_gatesToMeet_2 n q (nI k) (nI y) j (mB q z s w)) (N := 300)
    (fun j s => Sy u s)
    (fun r => ∃ u', r = some (nI (if v 7 y = 0 ∧ v 42 (300 * k + y) = 0 then fb_ct (mt1 v k L) (v 9 0) else 0), mB q z u' w) ∧ Sy u u' ∧ (v 7 y = 0 ∧ v 42 (300 * k + y) = 0 → ∀ x, x < v 9 0 → u' 48 x = if mt1 v k L x = true then 1 else 0))
    (by
      rintro n j s hj p1
      left
      refine ⟨zu s 48 j 0, ?_, fun f i hf => ?_⟩
      · show fX11_gatesToMeet_2 (n + 1) q (nI k) (nI y) (nI j) (mB q z s w) = _
        rw [fX11_gatesToMeet_2, if_neg (show ¬ (300 : Int32) ≤ nI j from nI_ge (b := 300) hj (by decide)), mA48, b1_s, mY48 (mC_n hj (by decide)), b1_s, nI_c (by omega), nar0, nI_1]
      · rw [zu_n (by omega)]
        exact p1 f i hf)
    (by
      rintro n s p1
      have hN1 := hN.sc p1.sc
      show ∃ u', fX11_gatesToMeet_2 (n + 1) q (nI k) (nI y) (nI 300) (mB q z s w) = _ ∧ _
      rw [fX11_gatesToMeet_2, if_pos (show (300 : Int32) ≤ nI 300 from Int32.le_refl _), mA7, b1_s, mX7, mI_n (by omega) (by decide), b1_s, hN1.k7, nI_if0 (by omega)]
      by_cases h7 : v 7 y = 0
      rotate_left
      · rw [if_neg h7, if_neg (fun h => h7 h.1)]
        exact ⟨s, rfl, p1, fun h => absurd h.1 h7⟩
      rw [if_pos h7, mA42, b1_s, n300, mX42, mI_n (by omega) (by decide), b1_s, hN1.k42, nI_if0 (by omega)]
      by_cases h0 : v 42 (300 * k + y) = 0
      rotate_left
      · rw [if_neg h0, if_neg (fun h => h0 h.2)]
        exact ⟨s, rfl, p1, fun h => absurd h.2 h0⟩
      obtain ⟨u2, a1, a2, a3⟩ := x_noLeads2 (o := q) (z := z) (u := s) (w := w) (v := v) (B := fun b => b = y) hb
      have hN2 := hN1.sc a2.sc
      obtain ⟨u3, c1, c2, c3, c4, c5⟩ := x_lead2 (o := q) (z := z) (w := w) hN2 hT hy a3 rfl
      have hN3 := hN2.sc c2.sc
      have hm : ∀ x, x < 300 → u3 34 x = if L x = true then 1 else 0 := fun x hx => c3.mark hT (fun b hB => by rw [hB]; exact ⟨hy, c5⟩) hx (hL x).symm
      rw [if_pos h0, mtg, b1_s, a1, b2_s, mtg, b1_s, c1, b2_s, if_pos ⟨h7, h0⟩]
      have key2 := zlp (F := fun n j (s : Int32 × Mu) => fX11_gatesToMeet_62 n q (nI k) s.1 j (mB q z s.2 w)) (N := v 9 0)
        (fun j s => s.1 = nI (fb_ct (mt1 v k L) j) ∧ (∀ f i, f ≠ 48 → s.2 f i = u3 f i) ∧ ∀ x, x < j → s.2 48 x = if mt1 v k L x = true then 1 else 0)
        (fun r => ∃ u', r = some (nI (fb_ct (mt1 v k L) (v 9 0)), mB q z u' w) ∧ (∀ f i, f ≠ 48 → u' f i = u3 f i) ∧ ∀ x, x < v 9 0 → u' 48 x = if mt1 v k L x = true then 1 else 0)
        (by
          rintro n j ⟨a, s'⟩ hj ⟨e1, e2, e3⟩
          left
          have e1' : a = nI (fb_ct (mt1 v k L) j) := e1
          have e2' : ∀ f i, f ≠ 48 → s' f i = u3 f i := e2
          have e3' : ∀ x, x < j → s' 48 x = if mt1 v k L x = true then 1 else 0 := e3
          subst e1'
          have hN4 : Nv v s' := fun f i hf => by
            obtain ⟨b1, b2, b3, b4, b5, b6, b7, b8, b9⟩ := hf
            rw [e2' f i b8]
            exact hN3 f i ⟨b1, b2, b3, b4, b5, b6, b7, b8, b9⟩
          have h34 : s' 34 j = if L j = true then 1 else 0 := by rw [e2' 34 j (by decide)]; exact hm j (by omega)
          have k0' := (hT.k hj).1
          have h42j := h42 j (by omega)
          have C := mC_n (show j < 300 by omega) (show (300 : Nat) < 2147483648 by decide)
          have z0 : ∀ b : Nat, nI b + 0 = nI b := fun b => Int32.add_zero _
          have step : ∀ b : Bool, b = mt1 v k L j → (∃ s2 : Int32 × Mu, (b1 (yZ (q + 43) (nI j) (if b = true then 1 else 0) (mB q z s' w)) fun s1 => (b1 (gA 11 48 q s1) fun a2 => (b1 (xI 14 a2 (nI j) s1) fun x3 => (if x3 = 0 then fX11_gatesToMeet_62 n q (nI k) (nI (fb_ct (mt1 v k L) j) + 0) (nI j + 1) s1 else fX11_gatesToMeet_62 n q (nI k) (nI (fb_ct (mt1 v k L) j) + 1) (nI j + 1) s1)))) = fX11_gatesToMeet_62 n q (nI k) s2.1 (nI (j + 1)) (mB q z s2.2 w) ∧ s2.1 = nI (fb_ct (mt1 v k L) (j + 1)) ∧ (∀ f i, f ≠ 48 → s2.2 f i = u3 f i) ∧ ∀ x, x < j + 1 → s2.2 48 x = if mt1 v k L x = true then 1 else 0) := by
            intro b hbm
            refine ⟨(nI (fb_ct (mt1 v k L) (j + 1)), zu s' 48 j (if b = true then 1 else 0)), ?_, rfl, fun f i hf => ?_, fun x hx => ?_⟩
            · dsimp only
              rw [mY48 C, b1_s, nI_c (by omega), mA48, b1_s, mX48, mI_n (by omega) (by decide), b1_s, zu_s, fb_ct_succ, ← hbm, nI_1]
              cases b with
              | true => rw [if_pos rfl, nar1, if_neg (show ¬ (1 : Int32) = 0 by decide), if_pos rfl, nI_1]
              | false => rw [if_neg (show ¬ false = true by decide), nar0, if_pos rfl, z0]; rfl
            · dsimp only
              rw [zu_n (by omega)]
              exact e2' f i hf
            · dsimp only
              by_cases ex : x = j
              · rw [ex, zu_s, hbm]
              · rw [zu_n (by omega)]
                exact e3' x (by omega)
          show ∃ s2 : Int32 × Mu, fX11_gatesToMeet_62 (n + 1) q (nI k) (nI (fb_ct (mt1 v k L) j)) (nI j) (mB q z s' w) = _ ∧ _
          rw [fX11_gatesToMeet_62]
          simp only [fX11_gatesToMeet_118, fX11_gatesToMeet_119]
          simp (disch := omega) only [mG9, mA48, mA34, mA0, mA42, b1_s, n300, mX34, mX0, mX42, mI_n, hN4.k9, hN4.k0, hN4.k42, h34, nI_ifle, nI_if0, nI_if3]
          rw [if_neg (show ¬ v 9 0 ≤ j by omega)]
          have hmet : v 0 j = 3 → (met v k j = true ↔ v 42 (300 * k + j) ≠ 0) := fun h3 => by
            simp only [met, h3]
            simp
            omega
          cases eL : L j with
          | false =>
            rw [if_neg (show ¬ false = true by decide), if_pos rfl]
            have := step false (by simp [mt1, eL])
            rw [if_neg (show ¬ false = true by decide)] at this
            exact this
          | true =>
            rw [if_pos rfl, if_neg (show ¬ (1 : Int32) = 0 by decide)]
            by_cases h3 : v 0 j = 3
            · rw [if_pos h3]
              by_cases h4 : v 42 (300 * k + j) = 0
              · rw [if_pos h4]
                have hmf : met v k j = false := by
                  cases em : met v k j with
                  | false => rfl
                  | true => exact absurd h4 ((hmet h3).mp em)
                have := step true (by simp [mt1, eL, h3, hmf])
                rw [if_pos rfl] at this
                exact this
              · rw [if_neg h4]
                have := step false (by simp [mt1, eL, h3, (hmet h3).mpr h4])
                rw [if_neg (show ¬ false = true by decide)] at this
                exact this
            · rw [if_neg h3]
              have := step false (by simp [mt1, eL, h3])
              rw [if_neg (show ¬ false = true by decide)] at this
              exact this)
        (by
          rintro n ⟨a, s'⟩ ⟨e1, e2, e3⟩
          have e1' : a = nI (fb_ct (mt1 v k L) (v 9 0)) := e1
          have e2' : ∀ f i, f ≠ 48 → s' f i = u3 f i := e2
          subst e1'
          refine ⟨s', ?_, e2', e3⟩
          show fX11_gatesToMeet_62 (n + 1) q (nI k) (nI (fb_ct (mt1 v k L) (v 9 0))) (nI (v 9 0)) (mB q z s' w) = _
          have r9 : s' 9 0 = nI (v 9 0) := by rw [e2' 9 0 (by decide), hN3.k9]
          rw [fX11_gatesToMeet_62, mG9, b1_s, r9, if_pos (Int32.le_refl _)])
      obtain ⟨u4, g1, g2, g3⟩ := key2 (v 9 0) 100000 0 (nI 0, u3) (by omega) (by omega) ⟨rfl, fun _ _ _ => rfl, fun x hx => by omega⟩
      refine ⟨u4, g1, fun f i hf => ?_, fun _ => g3⟩
      rw [g2 f i hf.2.2, c2 f i ⟨hf.1, hf.2.1⟩, a2 f i ⟨hf.1, hf.2.1⟩]
      exact p1 f i hf)
  exact key 300 100000 0 u (by omega) (by omega) (fun _ _ _ => rfl)
end TM
