section WK
variable {d d' : AD} {c c' : CH} {v v' : Nu} {u u' : Mu} {w w' : Me} {n m r t p k : Nat} {od : Nat → Nat}
theorem RC.kt (R : RC d c v u w) (hk : k < v 46 0) : lvd d 5 k ∧ lvd d 6 k ∧ lvd d 7 k ∧ lvd d 8 k ∧ lvd d 9 k ∧ cQ c 107 0 k = some (5, k) ∧ KF c v k := R.2.2.2.2.2.2.1.2.1 k hk
theorem gk_tg (R : RC d c v u w) (hk : k < v 46 0) : tg 9 (da d 5 k) (cB d c) = some (da d 5 k) := ctg (R.kt hk).1 rfl
theorem gk_num (R : RC d c v u w) (hk : k < v 46 0) : gI 9 0 (da d 5 k) (cB d c) = some (nI k) := by rw [cgI (t := 9) (R.kt hk).1 rfl, (R.kt hk).2.2.2.2.2.2.1.1]
theorem gk_start (R : RC d c v u w) (hk : k < v 46 0) : gA 9 1 (da d 5 k) (cB d c) = some (da d 1 (v 38 k)) := cgA (R.kt hk).1 rfl (R.kt hk).2.2.2.2.2.2.1.2.1
theorem gk_6 (R : RC d c v u w) (hk : k < v 46 0) : gA 9 2 (da d 5 k) (cB d c) = some (da d 6 k) := cgA (R.kt hk).1 rfl (R.kt hk).2.2.2.2.2.2.1.2.2.1
theorem gk_7 (R : RC d c v u w) (hk : k < v 46 0) : gA 9 3 (da d 5 k) (cB d c) = some (da d 7 k) := cgA (R.kt hk).1 rfl (R.kt hk).2.2.2.2.2.2.1.2.2.2.1
theorem gk_8 (R : RC d c v u w) (hk : k < v 46 0) : gA 9 4 (da d 5 k) (cB d c) = some (da d 8 k) := cgA (R.kt hk).1 rfl (R.kt hk).2.2.2.2.2.2.1.2.2.2.2.1
theorem gk_9 (R : RC d c v u w) (hk : k < v 46 0) : gA 9 5 (da d 5 k) (cB d c) = some (da d 9 k) := cgA (R.kt hk).1 rfl (R.kt hk).2.2.2.2.2.2.1.2.2.2.2.2.1
theorem gk_end (R : RC d c v u w) (hk : k < v 46 0) : gI 9 6 (da d 5 k) (cB d c) = some (nI (v 37 k)) := by rw [cgI (t := 9) (R.kt hk).1 rfl, (R.kt hk).2.2.2.2.2.2.1.2.2.2.2.2.2.1]
theorem gk_steps (R : RC d c v u w) (hk : k < v 46 0) : gI 9 7 (da d 5 k) (cB d c) = some (nI (1 + v 40 k)) := by rw [cgI (t := 9) (R.kt hk).1 rfl, (R.kt hk).2.2.2.2.2.2.1.2.2.2.2.2.2.2.1]
theorem gk_backs (R : RC d c v u w) (hk : k < v 46 0) : gI 9 8 (da d 5 k) (cB d c) = some (nI (v 39 k)) := by rw [cgI (t := 9) (R.kt hk).1 rfl, (R.kt hk).2.2.2.2.2.2.1.2.2.2.2.2.2.2.2.1]
theorem gk_pass (R : RC d c v u w) (hk : k < v 46 0) : gI 9 9 (da d 5 k) (cB d c) = some (nI (fb_ct (pas v k) 300)) := by rw [cgI (t := 9) (R.kt hk).1 rfl, (R.kt hk).2.2.2.2.2.2.1.2.2.2.2.2.2.2.2.2.1]
theorem gk_met (R : RC d c v u w) (hk : k < v 46 0) : gI 9 10 (da d 5 k) (cB d c) = some (nI (fb_ct (met v k) 300)) := by rw [cgI (t := 9) (R.kt hk).1 rfl, (R.kt hk).2.2.2.2.2.2.1.2.2.2.2.2.2.2.2.2.2]
theorem e_hasPassed (R : RC d c v u w) (hb : v 9 0 ≤ 300) (hk : k < v 46 0) (ht : t < v 9 0) : fX9_hasPassed (da d 5 k) (some (da d 1 t)) (cB d c) = some (if pas v k t = true then 1 else 0, cB d c) := by
  obtain ⟨l5, l6, l7, l8, l9, -, -, ⟨n6, n7, n8, n9⟩, kv, kh⟩ := R.kt hk
  unfold fX9_hasPassed
  rw [b1_s, g_num R ht, b1_s, if_neg (nI_pos (by omega)), b1_s, gk_6 R hk, b1_s, cxN (t := 14) l6 rfl, b1_s, n6, nI_ifle (by omega) (by omega), if_neg (by omega), b1_s, b1_s, cxI (t := 14) l6 rfl (by rw [n6]; omega) (by omega), b1_s, (kv t (by omega)).1]
  by_cases h : pas v k t = true
  · rw [if_pos h]; rfl
  · rw [if_neg h]; rfl
theorem e_hasMet (R : RC d c v u w) (hb : v 9 0 ≤ 300) (hk : k < v 46 0) (ht : t < v 9 0) : fX9_hasMet (da d 5 k) (some (da d 1 t)) (cB d c) = some (if met v k t = true then 1 else 0, cB d c) := by
  obtain ⟨l5, l6, l7, l8, l9, -, -, ⟨n6, n7, n8, n9⟩, kv, kh⟩ := R.kt hk
  unfold fX9_hasMet
  rw [b1_s, g_num R ht, b1_s, if_neg (nI_pos (by omega)), b1_s, gk_7 R hk, b1_s, cxN (t := 14) l7 rfl, b1_s, n7, nI_ifle (by omega) (by omega), if_neg (by omega), b1_s, b1_s, cxI (t := 14) l7 rfl (by rw [n7]; omega) (by omega), b1_s, (kv t (by omega)).2.1]
  by_cases h : met v k t = true
  · rw [if_pos h]; rfl
  · rw [if_neg h]; rfl
theorem e_weightMetFor (R : RC d c v u w) (hb : v 9 0 ≤ 300) (hk : k < v 46 0) (ht : t < v 9 0) : fX9_weightMetFor (da d 5 k) (some (da d 1 t)) (cB d c) = some (nI (mew v k t), cB d c) := by
  obtain ⟨l5, l6, l7, l8, l9, -, -, ⟨n6, n7, n8, n9⟩, kv, kh⟩ := R.kt hk
  unfold fX9_weightMetFor
  rw [b1_s, g_num R ht, b1_s, if_neg (nI_pos (by omega)), b1_s, gk_8 R hk, b1_s, cxN (t := 12) l8 rfl, b1_s, n8, nI_ifle (by omega) (by omega), if_neg (by omega), b1_s, b1_s, cxI (t := 12) l8 rfl (by rw [n8]; omega) (by omega), b1_s, (kv t (by omega)).2.2]
/-- entries of a walk's tables -/
abbrev ofk (k f i : Nat) : Prop := (37 ≤ f ∧ f ≤ 40 ∧ i = k) ∨ (f = 41 ∧ 8 * k ≤ i ∧ i < 8 * k + 8) ∨ (42 ≤ f ∧ f ≤ 44 ∧ 300 * k ≤ i ∧ i < 300 * k + 300)
theorem KF.cg (h : KF c v k) (hc : ∀ s i, 5 ≤ s ∧ s ≤ 9 → cI c' s k i = cI c s k i ∧ cQ c' s k i = cQ c s k i ∧ cN c' s k = cN c s k) (hv : ∀ f i, ofk k f i → v' f i = v f i) (hv0 : ∀ n, n < 300 → v' 42 (300 * k + n) = 1 → v' 0 n = v 0 n ∧ v' 5 n = v 5 n) : KF c' v' k := by
  have g1 : ∀ n, n < 300 → pas v' k n = pas v k n ∧ met v' k n = met v k n ∧ (met v' k n = true → v' 5 n = v 5 n) := by
    intro n hn
    simp only [pas, met]
    have e42 := hv 42 (300 * k + n) (by omega)
    rw [e42]
    by_cases e : v 42 (300 * k + n) = 1
    · obtain ⟨a1, a2⟩ := hv0 n hn (by rw [e42]; exact e)
      rw [a1]
      exact ⟨rfl, rfl, fun _ => a2⟩
    · have e1 : (v 42 (300 * k + n) == 1) = false := by simpa using e
      rw [e1]
      exact ⟨rfl, rfl, fun h => by simp at h⟩
  have e1 : fb_ct (pas v' k) 300 = fb_ct (pas v k) 300 := fb_ct_cong (fun n hn => (g1 n hn).1)
  have e2 : fb_ct (met v' k) 300 = fb_ct (met v k) 300 := fb_ct_cong (fun n hn => (g1 n hn).2.1)
  have e3 : ∀ t, mew v' k t = mew v k t := by
    intro t
    refine fb_sm_cong (fun g hg => ?_)
    obtain ⟨b1, b2, b3⟩ := g1 g hg
    simp only [b2]
    by_cases e : met v k g = true
    · rw [b3 (by rw [b2]; exact e), hv 44 _ (by omega)]
    · rw [if_neg (fun h => e h.1), if_neg (fun h => e h.1)]
  obtain ⟨b1, b2, b3, b4⟩ := h
  refine ⟨?_, ?_, ?_, ?_⟩
  · simp only [(hc 5 _ (by decide)).1, (hc 5 _ (by decide)).2.1, e1, e2, hv 38 k (by omega), hv 37 k (by omega), hv 39 k (by omega), hv 40 k (by omega)]
    exact b1
  · rw [(hc 6 0 (by decide)).2.2, (hc 7 0 (by decide)).2.2, (hc 8 0 (by decide)).2.2, (hc 9 0 (by decide)).2.2]
    exact b2
  · intro n hn
    rw [(hc 6 n (by decide)).1, (hc 7 n (by decide)).1, (hc 8 n (by decide)).1, e3, (g1 n hn).1, (g1 n hn).2.1]
    exact b3 n hn
  · intro h hh
    rw [(hc 9 h (by decide)).1, hv 41 _ (by omega)]
    exact b4 h hh
/-- one walk changes -/
theorem RC.kf (R : RC d c v u w) (hw : WF d c') (hs : ∀ s, ¬ (5 ≤ s ∧ s ≤ 9) → sm s c c') (hc : ∀ s x i, 5 ≤ s ∧ s ≤ 9 → x ≠ k → cI c' s x i = cI c s x i ∧ cQ c' s x i = cQ c s x i ∧ cN c' s x = cN c s x) (hv : ∀ f i, ¬ ofk k f i → v' f i = v f i) (hK : KF c' v' k) : RC d c' v' u w := by
  obtain ⟨-, R1, R2, R3, R4, R5, R6, R7, R8⟩ := R
  have h46 : v' 46 0 = v 46 0 := hv 46 0 (by omega)
  refine ⟨hw, R1, R2.cg (fun k i hk => (hs k (by simp only [fixS] at hk; omega)).2.1 0 i) (fun k hk => (hs k (by omega)).2.2.2 0), R3.cg (hs _ (by decide)) (hs _ (by decide)) (hs _ (by decide)) (hs _ (by decide)) (hs _ (by decide)) (hs _ (by decide)) (hs _ (by decide)) (fun _ _ _ => Iff.rfl) (fun k i hk => hv k i (by omega)) (fun _ => rfl) (fun _ => rfl), R4.cg (hs _ (by decide)) (hs _ (by decide)) (hs _ (by decide)) (fun _ => Iff.rfl) (fun k i hk => hv k i (by omega)), R5.cg (hs _ (by decide)) (hs _ (by decide)) (hs _ (by decide)) (fun _ => Iff.rfl) (fun k i hk => hv k i (by omega)), ⟨?_, fun x hx => ?_, fun x hx => ?_⟩, R7.cg (hs _ (by decide)) (hs _ (by decide)) (hs _ (by decide)) ((hs 100 (by decide)).1 0 11) ((hs 100 (by decide)).1 0 12) (fun k i hk => hv k i (by omega)), R8.cg (fun k hk => hs k (by omega)) (by rw [hv _ _ (by omega)]; exact Nat.le_refl _)⟩
  · rw [(hs 100 (by decide)).1, h46]; exact R6.1
  · rw [h46] at hx
    obtain ⟨y1, y2, y3, y4, y5, y6, y7⟩ := R6.2.1 x hx
    refine ⟨y1, y2, y3, y4, y5, by rw [(hs 107 (by decide)).2.1]; exact y6, ?_⟩
    by_cases e : x = k
    · rw [e]; exact hK
    · exact y7.cg (fun s i hs => hc s x i hs e) (fun f i hf => hv f i (by omega)) (fun n hn _ => ⟨hv 0 n (by omega), hv 5 n (by omega)⟩)
  · rw [h46] at hx
    exact R6.2.2 x hx
theorem RC.kend {e : Nat} (R : RC d c v u w) (hk : k < v 46 0) : RC d (kwI 5 k 6 (nI e) c) (zu v 37 k e) u w := by
  obtain ⟨l5, l6, l7, l8, l9, -, ⟨b0, b1, b2, b3, b4, b5, b6, b7, b8, b9, b10⟩, bN, kv, kh⟩ := R.kt hk
  refine R.kf (k := k) (R.1.wI l5) (fun s hs => sm.rfl.I (by omega)) (fun s x i hs hx => ⟨z3_n (by omega), rfl, rfl⟩) (fun f i hf => zu_n (by omega)) ?_
  have hp : pas (zu v 37 k e) k = pas v k := by funext n; simp only [pas]; rw [zu_n (by omega), zu_n (by omega)]
  have hm : met (zu v 37 k e) k = met v k := by funext n; simp only [met]; rw [zu_n (by omega), zu_n (by omega)]
  have hmw : ∀ t, mew (zu v 37 k e) k t = mew v k t := by
    intro t
    refine fb_sm_cong (fun g _ => ?_)
    rw [hm, zu_n (by omega), zu_n (by omega)]
  refine ⟨⟨(z3_n (by omega)).trans b0, b1.trans (by rw [zu_n (by omega)]), b2, b3, b4, b5, z3_s.trans (by rw [zu_s]), (z3_n (by omega)).trans (b7.trans (by rw [zu_n (by omega)])), (z3_n (by omega)).trans (b8.trans (by rw [zu_n (by omega)])), (z3_n (by omega)).trans (b9.trans (by rw [hp])), (z3_n (by omega)).trans (b10.trans (by rw [hm]))⟩, bN, fun n hn => ?_, fun h hh => ?_⟩
  · rw [hp, hm, hmw]; exact kv n hn
  · rw [zu_n (by omega)]; exact kh h hh
theorem e_comeBack {told : Nat} (R : RC d c v u w) (hk : k < v 46 0) : ∃ c', fX9_comeBack (da d 5 k) (nI told) (cB d c) = some ((), cB d c') ∧ RC d c' (zu (zu v 39 k (v 39 k + 1)) 40 k (v 40 k + told)) u w := by
  obtain ⟨l5, l6, l7, l8, l9, -, ⟨b0, b1, b2, b3, b4, b5, b6, b7, b8, b9, b10⟩, bN, kv, kh⟩ := R.kt hk
  have hA := R.1.1
  refine ⟨kwI 5 k 7 (nI (1 + v 40 k + told)) (kwI 5 k 8 (nI (v 39 k + 1)) c), ?_, R.kf (k := k) ((R.1.wI l5).wI l5) (fun s hs => (sm.rfl.I (by omega)).I (by omega)) (fun s x i hs hx => ⟨(z3_n (by omega)).trans (z3_n (by omega)), rfl, rfl⟩) (fun f i hf => (zu_n (by omega)).trans (zu_n (by omega))) ?_⟩
  · unfold fX9_comeBack
    rw [gk_backs R hk, b1_s, nI_1, cpI (t := 9) hA l5 rfl, b1_s, cgI (t := 9) l5 rfl, b1_s, show cI (kwI 5 k 8 (nI (v 39 k + 1)) c) 5 k 7 = nI (1 + v 40 k) from (z3_n (by omega)).trans b7, nI_add, cpI (t := 9) hA l5 rfl, b1_s]
  · have hp : pas (zu (zu v 39 k (v 39 k + 1)) 40 k (v 40 k + told)) k = pas v k := by funext n; simp only [pas]; rw [zu_n (by omega), zu_n (by omega), zu_n (by omega), zu_n (by omega)]
    have hm : met (zu (zu v 39 k (v 39 k + 1)) 40 k (v 40 k + told)) k = met v k := by funext n; simp only [met]; rw [zu_n (by omega), zu_n (by omega), zu_n (by omega), zu_n (by omega)]
    have hmw : ∀ t, mew (zu (zu v 39 k (v 39 k + 1)) 40 k (v 40 k + told)) k t = mew v k t := by
      intro t
      refine fb_sm_cong (fun g _ => ?_)
      rw [hm, zu_n (by omega), zu_n (by omega), zu_n (by omega), zu_n (by omega)]
    refine ⟨⟨((z3_n (by omega)).trans (z3_n (by omega))).trans b0, b1.trans (by rw [zu_n (by omega), zu_n (by omega)]), b2, b3, b4, b5, ((z3_n (by omega)).trans (z3_n (by omega))).trans (b6.trans (by rw [zu_n (by omega), zu_n (by omega)])), z3_s.trans (by rw [zu_s, Nat.add_assoc]), ((z3_n (by omega)).trans z3_s).trans (by rw [zu_n (by omega), zu_s]), ((z3_n (by omega)).trans (z3_n (by omega))).trans (b9.trans (by rw [hp])), ((z3_n (by omega)).trans (z3_n (by omega))).trans (b10.trans (by rw [hm]))⟩, bN, fun n hn => ?_, fun h hh => ?_⟩
    · rw [hp, hm, hmw]; exact kv n hn
    · rw [zu_n (by omega), zu_n (by omega)]; exact kh h hh
end WK
