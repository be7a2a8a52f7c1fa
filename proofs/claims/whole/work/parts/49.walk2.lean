section WL
variable {d d' : AD} {c c' : CH} {v v' : Nu} {u u' : Mu} {w w' : Me} {n m r t p k y g : Nat} {od : Nat → Nat}
theorem dv_is {f m : Nat} (h : ec f = true) (hm : m ≤ 2147483648) : dv f m = -1 ↔ m = 0 := by
  cases m with
  | zero => rw [dv_0 h]; simp
  | succ m =>
    rw [dv_e h]
    constructor
    · intro e
      exact absurd (by rw [e]; decide) (nI_pos (n := m) (by omega))
    · intro e; omega
theorem dv_if {f m : Nat} (h : ec f = true) (hm : m ≤ 2147483648) {α : Type} {x y : α} : (if dv f m = -1 then x else y) = if m = 0 then x else y := by
  by_cases e : m = 0
  · rw [if_pos e, if_pos ((dv_is h hm).mpr e)]
  · rw [if_neg e, if_neg (fun h2 => e ((dv_is h hm).mp h2))]
theorem e_pass {cnt : Nat} (R : RC d c v u w) (hb : v 9 0 ≤ 300) (hk : k < v 46 0) (hy : y < v 9 0) (hkd : v 0 y ≠ 3) (hh : v 1 y < 8) (hnp : v 42 (300 * k + y) ≠ 1) (h41b : ∀ h, h < 8 → v 41 (8 * k + h) ≤ 2147483648)
    (hv : ∀ f i, ¬ ofk k f i → v' f i = v f i) (h37 : ∀ f, 37 ≤ f ∧ f ≤ 40 → v' f k = v f k) (h41 : ∀ h, h < 8 → v' 41 (8 * k + h) = if h = v 1 y ∧ v 41 (8 * k + h) = 0 then cnt + 1 else v 41 (8 * k + h)) (h42 : ∀ n, n < 300 → v' 42 (300 * k + n) = if n = y then 1 else v 42 (300 * k + n)) (h44 : ∀ n, n < 300 → met v k n = true → v' 44 (300 * k + n) = v 44 (300 * k + n)) :
    ∃ c', fX9_pass (da d 5 k) (some (da d 1 y)) (nI cnt) (cB d c) = some ((), cB d c') ∧ RC d c' v' u w := by
  obtain ⟨l5, l6, l7, l8, l9, -, ⟨b0, b1, b2, b3, b4, b5, b6, b7, b8, b9, b10⟩, ⟨n6, n7, n8, n9⟩, kv, kh⟩ := R.kt hk
  have hA := R.1.1
  have hp : ∀ n, n < 300 → pas v' k n = if n = y then true else pas v k n := by
    intro n hn
    simp only [pas]
    rw [h42 n hn, hv 0 n (by omega)]
    by_cases e : n = y
    · subst e; simp [hkd]
    · simp [e]
  have hm : ∀ n, n < 300 → met v' k n = met v k n := by
    intro n hn
    simp only [met]
    rw [h42 n hn, hv 0 n (by omega)]
    by_cases e : n = y
    · subst e; simp [hkd]
    · simp [e]
  have hmw : ∀ t, mew v' k t = mew v k t := by
    intro t
    refine fb_sm_cong (fun g hg => ?_)
    rw [hm g hg, hv 5 g (by omega)]
    by_cases e : met v k g = true
    · rw [h44 g hg e]
    · rw [if_neg (fun h => e h.1), if_neg (fun h => e h.1)]
  have hpy : pas v k y = false := by simp [pas, hnp]
  have hcp : fb_ct (pas v' k) 300 = fb_ct (pas v k) 300 + 1 := by
    have h1 := fb_ct_upd (pas v k) true (i := y) (n := 300) (by omega)
    rw [hpy] at h1
    simp only [Bool.false_eq_true, if_false, if_true, Nat.add_zero] at h1
    rw [← h1]
    exact fb_ct_cong hp
  have hcm : fb_ct (met v' k) 300 = fb_ct (met v k) 300 := fb_ct_cong hm
  have c1e : ∀ q, cQ (kwI 5 k 9 (nI (fb_ct (pas v k) 300 + 1)) (kwI 6 k y 1 c)) 5 k q = cQ c 5 k q := fun _ => rfl
  have W2 := (R.1.wI (i := y) (v := 1) l6).wI (i := 9) (v := nI (fb_ct (pas v k) 300 + 1)) l5
  have e1 : fX9_pass (da d 5 k) (some (da d 1 y)) (nI cnt) (cB d c) = if v 41 (8 * k + v 1 y) = 0 then some ((), cB d (kwI 9 k (v 1 y) (nI cnt) (kwI 5 k 9 (nI (fb_ct (pas v k) 300 + 1)) (kwI 6 k y 1 c)))) else some ((), cB d (kwI 5 k 9 (nI (fb_ct (pas v k) 300 + 1)) (kwI 6 k y 1 c))) := by
    unfold fX9_pass
    rw [b1_s, g_num R hy, b1_s, if_neg (nI_pos (by omega)), b1_s, gk_6 R hk, b1_s, cxN (t := 14) l6 rfl, b1_s, n6, nI_iflt (by omega) (by omega), if_pos (by omega), g_host R hy, b1_s, if_neg (nI_pos (by omega)), b1_s, gk_9 R hk, b1_s, cxN (t := 12) l9 rfl, b1_s, n9, nI_iflt (by omega) (by omega), if_pos hh, b1_s, b1_s, cyZ hA l6 rfl (by rw [n6]; omega) (by omega), b1_s, nar1, cgI (t := 9) l5 rfl, b1_s, show cI (kwI 6 k y 1 c) 5 k 9 = nI (fb_ct (pas v k) 300) from b9, nI_1, cpI (t := 9) hA l5 rfl, b1_s, cgA (t := 9) l5 rfl (show cQ (kwI 5 k 9 (nI (fb_ct (pas v k) 300 + 1)) (kwI 6 k y 1 c)) 5 k 5 = some (9, k) from b5), b1_s]
    dsimp only
    rw [cgI (t := 5) (R.t hy).1 rfl, b1_s, show cI (kwI 5 k 9 (nI (fb_ct (pas v k) 300 + 1)) (kwI 6 k y 1 c)) 1 y 2 = nI (v 1 y) from (R.t hy).2.2.2.2.1.2.2.1, cxI (t := 12) l9 rfl (by show v 1 y < c.2.2.2 9 k; rw [show c.2.2.2 9 k = 8 from n9]; exact hh) (by omega), b1_s, show cI (kwI 5 k 9 (nI (fb_ct (pas v k) 300 + 1)) (kwI 6 k y 1 c)) 9 k (v 1 y) = dv 41 (v 41 (8 * k + v 1 y)) from kh _ hh, dv_if rfl (h41b _ hh), b1_s, b1_s, cyI hA l9 rfl (by show v 1 y < c.2.2.2 9 k; rw [show c.2.2.2 9 k = 8 from n9]; exact hh) (by omega), b1_s]
  have hK2 : ∀ c2, (c2 = kwI 5 k 9 (nI (fb_ct (pas v k) 300 + 1)) (kwI 6 k y 1 c) ∧ v 41 (8 * k + v 1 y) ≠ 0) ∨ (c2 = kwI 9 k (v 1 y) (nI cnt) (kwI 5 k 9 (nI (fb_ct (pas v k) 300 + 1)) (kwI 6 k y 1 c)) ∧ v 41 (8 * k + v 1 y) = 0) → KF c2 v' k := by
    intro c2 hc2
    have s5 : ∀ i, cI c2 5 k i = if i = 9 then nI (fb_ct (pas v k) 300 + 1) else cI c 5 k i := by
      intro i
      rcases hc2 with ⟨e, -⟩ | ⟨e, -⟩ <;> subst e <;> simp [cI, kwI, z3]
    have s5q : ∀ i, cQ c2 5 k i = cQ c 5 k i := by
      intro i
      rcases hc2 with ⟨e, -⟩ | ⟨e, -⟩ <;> subst e <;> rfl
    have sN : ∀ s, cN c2 s k = cN c s k := by
      intro i
      rcases hc2 with ⟨e, -⟩ | ⟨e, -⟩ <;> subst e <;> rfl
    have s6 : ∀ i, cI c2 6 k i = if i = y then 1 else cI c 6 k i := by
      intro i
      rcases hc2 with ⟨e, -⟩ | ⟨e, -⟩ <;> subst e <;> simp [cI, kwI, z3]
    have s7 : ∀ i, cI c2 7 k i = cI c 7 k i := by
      intro i
      rcases hc2 with ⟨e, -⟩ | ⟨e, -⟩ <;> subst e <;> rfl
    have s8 : ∀ i, cI c2 8 k i = cI c 8 k i := by
      intro i
      rcases hc2 with ⟨e, -⟩ | ⟨e, -⟩ <;> subst e <;> rfl
    refine ⟨?_, ?_, fun n hn => ?_, fun h hh' => ?_⟩
    · simp only [s5, s5q, hcp, hcm, h37 37 (by omega), h37 38 (by omega), h37 39 (by omega), h37 40 (by omega)]
      exact ⟨b0, b1, b2, b3, b4, b5, b6, b7, b8, rfl, b10⟩
    · rw [sN, sN, sN, sN]; exact ⟨n6, n7, n8, n9⟩
    · obtain ⟨z6, z7, z8⟩ := kv n hn
      rw [s6, s7, s8, hm n hn, hmw, hp n hn]
      refine ⟨?_, z7, z8⟩
      by_cases e : n = y
      · rw [if_pos e, if_pos e]; rfl
      · rw [if_neg e, if_neg e]; exact z6
    · rw [h41 h hh']
      rcases hc2 with ⟨e, e0⟩ | ⟨e, e0⟩
      · subst e
        rw [if_neg (fun h2 => e0 (by rw [← h2.1]; exact h2.2))]
        exact kh h hh'
      · subst e
        by_cases e2 : h = v 1 y
        · subst e2
          rw [if_pos ⟨rfl, e0⟩, dv_e rfl]
          exact z3_s
        · rw [if_neg (fun h2 => e2 h2.1), ← kh h hh']
          exact z3_n (f := c.1) (by omega)
  by_cases e : v 41 (8 * k + v 1 y) = 0
  · rw [if_pos e] at e1
    refine ⟨_, e1, R.kf (k := k) (W2.wI l9) (fun s hs => ((sm.rfl.I (by omega)).I (by omega)).I (by omega)) (fun s x i hs hx => ⟨?_, rfl, rfl⟩) hv (hK2 _ (Or.inr ⟨rfl, e⟩))⟩
    simp [cI, kwI, z3, hx]
  · rw [if_neg e] at e1
    refine ⟨_, e1, R.kf (k := k) W2 (fun s hs => (sm.rfl.I (by omega)).I (by omega)) (fun s x i hs hx => ⟨?_, rfl, rfl⟩) hv (hK2 _ (Or.inl ⟨rfl, e⟩))⟩
    simp [cI, kwI, z3, hx]
theorem e_meet {t : Nat} (R : RC d c v u w) (hb : v 9 0 ≤ 300) (hk : k < v 46 0) (hg : g < v 9 0) (ht : t < v 9 0) (hkd : v 0 g = 3) (h5 : v 5 g = t + 1) (hnm : v 42 (300 * k + g) ≠ 1)
    (hv : ∀ f i, ¬ ofk k f i → v' f i = v f i) (h37 : ∀ f, 37 ≤ f ∧ f ≤ 40 → v' f k = v f k) (h41 : ∀ h, h < 8 → v' 41 (8 * k + h) = v 41 (8 * k + h)) (h42 : ∀ n, n < 300 → v' 42 (300 * k + n) = if n = g then 1 else v 42 (300 * k + n)) (h44 : ∀ n, n < 300 → met v k n = true → v' 44 (300 * k + n) = v 44 (300 * k + n)) (h44g : v' 44 (300 * k + g) = v 6 g) :
    ∃ c', fX9_meet (da d 5 k) (some (da d 1 g)) (some (da d 1 t)) (cB d c) = some ((), cB d c') ∧ RC d c' v' u w := by
  obtain ⟨l5, l6, l7, l8, l9, -, ⟨b0, b1, b2, b3, b4, b5, b6, b7, b8, b9, b10⟩, ⟨n6, n7, n8, n9⟩, kv, kh⟩ := R.kt hk
  have hA := R.1.1
  have hp : ∀ n, n < 300 → pas v' k n = pas v k n := by
    intro n hn
    simp only [pas]
    rw [h42 n hn, hv 0 n (by omega)]
    by_cases e : n = g
    · subst e; simp [hkd]
    · simp [e]
  have hm : ∀ n, n < 300 → met v' k n = if n = g then true else met v k n := by
    intro n hn
    simp only [met]
    rw [h42 n hn, hv 0 n (by omega)]
    by_cases e : n = g
    · subst e; simp [hkd]
    · simp [e]
  have hmg : met v k g = false := by simp [met, hnm]
  have hmw : ∀ x, mew v' k x = mew v k x + if x = t then v 6 g else 0 := by
    intro x
    have h1 := fb_sm_upd (fun g => if met v k g = true ∧ v 5 g = x + 1 then v 44 (300 * k + g) else 0) (if x = t then v 6 g else 0) (i := g) (n := 300) (by omega)
    simp only [hmg, Bool.false_eq_true, false_and, if_false, Nat.add_zero] at h1
    rw [show mew v k x = fb_sm (fun g => if met v k g = true ∧ v 5 g = x + 1 then v 44 (300 * k + g) else 0) 300 from rfl, ← h1]
    refine fb_sm_cong (fun n hn => ?_)
    rw [hm n hn, hv 5 n (by omega)]
    by_cases e : n = g
    · subst e
      rw [h5, h44g]
      by_cases e2 : x = t
      · subst e2; simp
      · simp [e2]; omega
    · simp only [if_neg e]
      by_cases e2 : met v k n = true
      · rw [h44 n hn e2]
      · rw [if_neg (fun h => e2 h.1), if_neg (fun h => e2 h.1)]
  have hcm : fb_ct (met v' k) 300 = fb_ct (met v k) 300 + 1 := by
    have h1 := fb_ct_upd (met v k) true (i := g) (n := 300) (by omega)
    rw [hmg] at h1
    simp only [Bool.false_eq_true, if_false, if_true, Nat.add_zero] at h1
    rw [← h1]
    exact fb_ct_cong hm
  have hcp : fb_ct (pas v' k) 300 = fb_ct (pas v k) 300 := fb_ct_cong hp
  have W2 := ((R.1.wI (i := g) (v := 1) l7).wI (i := 10) (v := nI (fb_ct (met v k) 300 + 1)) l5).wI (i := t) (v := nI (mew v k t + v 6 g)) l8
  refine ⟨kwI 8 k t (nI (mew v k t + v 6 g)) (kwI 5 k 10 (nI (fb_ct (met v k) 300 + 1)) (kwI 7 k g 1 c)), ?_, R.kf (k := k) W2 (fun s hs => ((sm.rfl.I (by omega)).I (by omega)).I (by omega)) (fun s x i hs hx => ⟨?_, rfl, rfl⟩) hv ⟨?_, ⟨n6, n7, n8, n9⟩, fun n hn => ?_, fun h hh => ?_⟩⟩
  · unfold fX9_meet
    rw [b1_s, g_num R hg, b1_s, if_neg (nI_pos (by omega)), b1_s, gk_7 R hk, b1_s, cxN (t := 14) l7 rfl, b1_s, n7, nI_iflt (by omega) (by omega), if_pos (by omega), b1_s, g_num R ht, b1_s, if_neg (nI_pos (by omega)), b1_s, gk_8 R hk, b1_s, cxN (t := 12) l8 rfl, b1_s, n8, nI_iflt (by omega) (by omega), if_pos (by omega), b1_s, b1_s, cyZ hA l7 rfl (by rw [n7]; omega) (by omega), b1_s, nar1, cgI (t := 9) l5 rfl, b1_s, show cI (kwI 7 k g 1 c) 5 k 10 = nI (fb_ct (met v k) 300) from b10, nI_1, cpI (t := 9) hA l5 rfl, b1_s, cgA (t := 9) l5 rfl (show cQ (kwI 5 k 10 (nI (fb_ct (met v k) 300 + 1)) (kwI 7 k g 1 c)) 5 k 4 = some (8, k) from b4), b1_s]
    dsimp only
    rw [cgI (t := 5) (R.t ht).1 rfl, b1_s, show cI (kwI 5 k 10 (nI (fb_ct (met v k) 300 + 1)) (kwI 7 k g 1 c)) 1 t 0 = nI t from (R.t ht).2.2.2.2.1.1, cxI (t := 12) l8 rfl (by show t < c.2.2.2 8 k; rw [show c.2.2.2 8 k = 300 from n8]; omega) (by omega), b1_s, show cI (kwI 5 k 10 (nI (fb_ct (met v k) 300 + 1)) (kwI 7 k g 1 c)) 8 k t = nI (mew v k t) from (kv t (by omega)).2.2, cgI (t := 5) (R.t hg).1 rfl, b1_s, show cI (kwI 5 k 10 (nI (fb_ct (met v k) 300 + 1)) (kwI 7 k g 1 c)) 1 g 7 = nI (v 6 g) from (R.t hg).2.2.2.2.1.2.2.2.2.2.2.2.1, nI_add, cyI hA l8 rfl (by show t < c.2.2.2 8 k; rw [show c.2.2.2 8 k = 300 from n8]; omega) (by omega), b1_s]
  · simp [cI, kwI, z3, hx]
  · rw [hcp, hcm, h37 37 (by omega), h37 38 (by omega), h37 39 (by omega), h37 40 (by omega)]
    refine ⟨(z3_n (f := c.1) (by omega)).trans b0, b1, b2, b3, b4, b5, (z3_n (f := c.1) (by omega)).trans b6, (z3_n (f := c.1) (by omega)).trans b7, (z3_n (f := c.1) (by omega)).trans b8, (z3_n (f := c.1) (by omega)).trans b9, by simp [cI, kwI, z3]⟩
  · obtain ⟨z6, z7, z8⟩ := kv n hn
    rw [hp n hn, hm n hn, hmw n]
    refine ⟨z6, ?_, ?_⟩
    · by_cases e : n = g
      · rw [if_pos e]; subst e; simp [cI, kwI, z3]
      · rw [if_neg e, ← z7]; simp [cI, kwI, z3, e]
    · by_cases e : n = t
      · rw [if_pos e]; subst e; simp [cI, kwI, z3]
      · have z9 : mew v k n + (if n = t then v 6 g else 0) = mew v k n := by rw [if_neg e]; omega
        rw [z9, ← z8]; simp [cI, kwI, z3, e]
  · rw [h41 h hh]; exact kh h hh
/-- a count is no longer as noted -/
def chg (v : Nu) (k : Nat) : Prop := ∃ h, h < 8 ∧ v 41 (8 * k + h) ≠ 0 ∧ v 41 (8 * k + h) ≠ v 30 h + 1
theorem e_isChanged [Decidable (chg v k)] (R : RC d c v u w) (hk : k < v 46 0) (h41b : ∀ h, h < 8 → v 41 (8 * k + h) ≤ 100000) (h30 : ∀ h, h < 8 → v 30 h ≤ 100000) : fX9_isChanged (da d 5 k) (some (da d 108 0)) (cB d c) = some (if chg v k then 1 else 0, cB d c) := by
  obtain ⟨l5, l6, l7, l8, l9, -, -, ⟨n6, n7, n8, n9⟩, kv, kh⟩ := R.kt hk
  have hF := R.2.1
  have hX := R.2.2.1
  have key := zlp (F := fun n i (_ : Unit) => fX9_isChanged_2 n (da d 5 k) (some (da d 108 0)) i (cB d c)) (N := 8)
    (fun i _ => ∀ h, h < i → ¬ (v 41 (8 * k + h) ≠ 0 ∧ v 41 (8 * k + h) ≠ v 30 h + 1))
    (fun y => y = some (if chg v k then 1 else 0, cB d c))
    (by
      rintro n i - hi hP
      have e1 : fX9_isChanged_2 (n + 1) (da d 5 k) (some (da d 108 0)) (nI i) (cB d c) = if v 41 (8 * k + i) ≠ 0 ∧ v 41 (8 * k + i) ≠ v 30 i + 1 then some (1, cB d c) else fX9_isChanged_2 n (da d 5 k) (some (da d 108 0)) (nI (i + 1)) (cB d c) := by
        rw [fX9_isChanged_2, gk_9 R hk, b1_s, cxN (t := 12) l9 rfl, b1_s, n9, nI_ifle (by omega) (by omega), if_neg (by omega), b1_s, qn_108 hF hX, b1_s, nI_ifle (by omega) (by omega), if_neg (by omega), b1_s, cxI (t := 12) l9 rfl (by rw [n9]; omega) (by omega), b1_s, kh i hi, dv_if rfl (by have := h41b i hi; omega), b1_s, cxI (t := 12) l9 rfl (by rw [n9]; omega) (by omega), b1_s, kh i hi, cxI (t := 12) (f108 hF) rfl (by rw [show cN c 108 0 = 8 from hX.2.2.2.2.2.2.1]; omega) (by omega), b1_s, R.2.2.2.2.2.2.2.1.1 i hi, nI_1]
        by_cases e : v 41 (8 * k + i) = 0
        · rw [if_pos e, if_neg (fun h => h.1 e)]
        · rw [if_neg e]
          have b1 := h41b i hi
          have b2 := h30 i hi
          obtain ⟨j, hj⟩ : ∃ j, v 41 (8 * k + i) = j + 1 := ⟨v 41 (8 * k + i) - 1, by omega⟩
          rw [hj, dv_e rfl, nI_ifeq (by omega) (by omega)]
          by_cases e2 : j = v 30 i
          · rw [if_pos e2, if_neg (fun h => h.2 (by rw [e2]))]
          · rw [if_neg e2, if_pos ⟨by omega, by omega⟩]
            rfl
      by_cases e : v 41 (8 * k + i) ≠ 0 ∧ v 41 (8 * k + i) ≠ v 30 i + 1
      · right
        rw [if_pos e] at e1
        show fX9_isChanged_2 (n + 1) (da d 5 k) (some (da d 108 0)) (nI i) (cB d c) = _
        rw [e1, if_pos ⟨i, hi, e⟩]
      · left
        rw [if_neg e] at e1
        refine ⟨(), e1, fun h hh => ?_⟩
        by_cases e2 : h = i
        · rw [e2]; exact e
        · exact hP h (by omega))
    (by
      rintro n - hP
      show fX9_isChanged_2 (n + 1) (da d 5 k) (some (da d 108 0)) (nI 8) (cB d c) = _
      rw [fX9_isChanged_2, gk_9 R hk, b1_s, cxN (t := 12) l9 rfl, b1_s, n9, if_pos (Int32.le_refl _), if_neg (fun ⟨h, h1, h2⟩ => hP h h1 h2)]
      rfl)
  exact key 8 100000 0 () (by omega) (by omega) (fun h hh => by omega)
end WL
