section AX
variable {d d' : AD} {c c' : CH} {v v' : Nu} {u u' : Mu} {w w' : Me} {n q z m r t p k l b0 g wt x y h m1 m2 i : Nat} {A : Nat → Bool} {S S' : Nat → Prop}
/-- what is noted of x tells that it is held -/
def HA (v : Nu) (w : Me) (k : Nat) (A : Nat → Bool) (x : Nat) : Prop := ∃ y, y < v 9 0 ∧ hbt w k x y = true ∧ (v 42 (300 * k + y) = 0 ∨ A y = true)
def NA (v : Nu) (w : Me) (k : Nat) (A : Nat → Bool) (x : Nat) : Prop := v 43 (300 * k + x) = 1 ∨ HA v w k A x
def BA (v : Nu) (w : Me) (k : Nat) (A : Nat → Bool) (x : Nat) : Prop := NA v w k A x ∨ (∃ g, g < v 9 0 ∧ met v k g = true ∧ v 5 g = x + 1 ∧ NA v w k A g) ∨ mew v k x < v 44 (300 * k + x)
def T47 (A : Nat → Bool) (u : Mu) : Prop := ∀ x, x < 300 → u 47 x = if A x = true then 1 else 0
theorem x_isHeld [Decidable (HA v w k A x)] (hN : Nv v u) (hb : v 9 0 ≤ 300) (hk : k < 20) (hx : x < 300) (h42 : ∀ x, x < 300 → v 42 (300 * k + x) ≤ 1) (hA : T47 A u) : fX11_isHeld q (nI k) (nI x) (mB q z u w) = some (if HA v w k A x then 1 else 0, mB q z u w) := by
  have one : ∀ (n i : Nat), i ≤ v 9 0 → fX11_isHeld_5 (n + 1) q (nI k) (nI x) 1 (nI i) (mB q z u w) = some (1, mB q z u w) := by
    intro n i hi
    rw [fX11_isHeld_5, mG9, b1_s, hN.k9, if_neg (show ¬ (1 : Int32) = 0 by decide)]
    split <;> rfl
  have key : ∀ (j i n : Nat), i + j = v 9 0 → j + 1 < n → (∀ y, y < i → ¬ (hbt w k x y = true ∧ (v 42 (300 * k + y) = 0 ∨ A y = true))) → fX11_isHeld_5 n q (nI k) (nI x) 0 (nI i) (mB q z u w) = some (if HA v w k A x then 1 else 0, mB q z u w) := by
    intro j
    induction j with
    | zero =>
      intro i n e1 e2 e3
      obtain ⟨n, rfl⟩ : ∃ n', n = n' + 1 := ⟨n - 1, by omega⟩
      have : i = v 9 0 := by omega
      subst this
      rw [fX11_isHeld_5, mG9, b1_s, hN.k9, if_pos (Int32.le_refl _), if_neg (show ¬ HA v w k A x from fun ⟨y, y1, y2⟩ => e3 y y1 y2)]
      rfl
    | succ j ih =>
      intro i n e1 e2 e3
      obtain ⟨n, rfl⟩ : ∃ n', n = n' + 1 := ⟨n - 1, by omega⟩
      have hsh : nI i >>> ((6 : Int32) &&& 31) = nI (i / 64) := pk_shrN (n := i) (by omega) _ 6 (by decide)
      have hix : 5 * (300 * k + x) + i / 64 < 30000 := by omega
      have hbr := bread (x := w 45 (5 * (300 * k + x) + i / 64)) (j := i) (by omega)
      have i2 := h42 i (by omega)
      have next : ¬ (hbt w k x i = true ∧ (v 42 (300 * k + i) = 0 ∨ A i = true)) → fX11_isHeld_5 n q (nI k) (nI x) 0 (nI (i + 1)) (mB q z u w) = some (if HA v w k A x then 1 else 0, mB q z u w) := fun hne => ih (i + 1) n (by omega) (by omega) (fun y hy => by
        by_cases e : y = i
        · rw [e]; exact hne
        · exact e3 y (by omega))
      have stop : hbt w k x i = true ∧ (v 42 (300 * k + i) = 0 ∨ A i = true) → fX11_isHeld_5 n q (nI k) (nI x) 1 (nI (i + 1)) (mB q z u w) = some (if HA v w k A x then 1 else 0, mB q z u w) := fun he => by
        obtain ⟨n, rfl⟩ : ∃ n', n = n' + 1 := ⟨n - 1, by omega⟩
        rw [one n (i + 1) (by omega), if_pos ⟨i, by omega, he⟩]
      rw [fX11_isHeld_5, mG9, b1_s, hN.k9, nI_ifle (by omega) (by omega), if_neg (by omega), if_pos rfl, mA45, b1_s, n300, hsh, n5, mX45, mL_n hix (by decide), b1_s, nI_1]
      by_cases eb : hbt w k x i = true
      · rw [if_neg (fun h => by
          have := hbr.mp h
          simp only [hbt] at eb
          rw [this] at eb
          cases eb), mA42, b1_s, n300, mX42, mI_n (by omega) (by decide), b1_s, hN.k42, nI_if0 (by omega)]
        by_cases e0 : v 42 (300 * k + i) = 0
        · rw [if_pos e0]
          exact stop ⟨eb, Or.inl e0⟩
        · rw [if_neg e0, mA47, b1_s, mX47, mI_n (by omega) (by decide), b1_s, hA i (by omega)]
          by_cases ea : A i = true
          · rw [if_pos ea, if_neg (show ¬ (1 : Int32) = 0 by decide)]
            exact stop ⟨eb, Or.inr ea⟩
          · rw [if_neg ea, if_pos rfl]
            exact next (fun h => h.2.elim e0 ea)
      · rw [if_pos (hbr.mpr (by simpa [hbt] using eb))]
        exact next (fun h => eb h.1)
  exact key (v 9 0) 0 100000 (by omega) (by omega) (fun y hy => by omega)
theorem x_becomes [Decidable (BA v w k A x)] (hN : Nv v u) (hT : iT v) (hk : k < 20) (hx : x < v 9 0) (h42 : ∀ x, x < 300 → v 42 (300 * k + x) ≤ 1 ∧ v 43 (300 * k + x) ≤ 1 ∧ v 44 (300 * k + x) ≤ 40000 ∧ (v 42 (300 * k + x) = 1 → x < v 9 0)) (hA : T47 A u) : fX11_becomesAlive q (nI k) (nI x) (mB q z u w) = some (if BA v w k A x then 1 else 0, mB q z u w) := by
  have hb := hT.1
  haveI := fun x => Classical.propDecidable (HA v w k A x)
  haveI := fun x => Classical.propDecidable (NA v w k A x)
  have hH : ∀ g, g < 300 → fX11_isHeld q (nI k) (nI g) (mB q z u w) = some (if HA v w k A g then 1 else 0, mB q z u w) := fun g hg => x_isHeld hN hb hk hg (fun x hx => (h42 x hx).1) hA
  have hmw := mew_le (v := v) (k := k) (t := x) (fun x hx => (h42 x hx).2.2.1)
  obtain ⟨f, hf⟩ : ∃ f : Nat → Nat, f = fun g => if met v k g = true ∧ v 5 g = x + 1 then v 44 (300 * k + g) else 0 := ⟨_, rfl⟩
  have hfe : ∀ g, f g = if met v k g = true ∧ v 5 g = x + 1 then v 44 (300 * k + g) else 0 := fun g => by rw [hf]
  have hm : mew v k x = fb_sm f (v 9 0) := by
    have : mew v k x = fb_sm f 300 := by rw [hf]; rfl
    rw [this, show (300 : Nat) = v 9 0 + (300 - v 9 0) by omega, fb_sm_split, fb_sm_no (m := 300 - v 9 0)]
    · rfl
    · intro i hi
      rw [hfe, if_neg]
      intro h
      have := (h42 (v 9 0 + i) (by omega)).2.2.2 (met_iff.mp h.1).1
      omega
  have key : ∀ (j i n : Nat) (fl : Nat) (P : Prop), fl ≤ 1 → (fl = 1 ↔ P) → i + j = v 9 0 → j < n → (P ↔ NA v w k A x ∨ ∃ g, g < i ∧ met v k g = true ∧ v 5 g = x + 1 ∧ NA v w k A g) → fX11_becomesAlive_36 n q (nI k) (nI x) (nI (fb_sm f i)) (nI fl) (nI i) (mB q z u w) = some (if BA v w k A x then 1 else 0, mB q z u w) := by
    intro j
    induction j with
    | zero =>
      intro i n fl P f1 f2 e1 e2 e3
      obtain ⟨n, rfl⟩ : ∃ n', n = n' + 1 := ⟨n - 1, by omega⟩
      have : i = v 9 0 := by omega
      subst this
      have hh4 := (h42 x (by omega)).2.2.1
      rw [fX11_becomesAlive_36, mG9, b1_s, hN.k9, if_pos (Int32.le_refl _), nI_if0 (by omega), mA44, b1_s, n300, mX44, mI_n (by omega) (by decide), b1_s, hN.k44, nI_ifle (by omega) (by omega), ← hm]
      by_cases hp : P
      · rw [if_neg (by have := f2.mpr hp; omega), if_pos]
        · rfl
        · rcases e3.mp hp with h | ⟨g, g1, g2⟩
          · exact Or.inl h
          · exact Or.inr (Or.inl ⟨g, g1, g2⟩)
      · rw [if_pos (by have : fl ≠ 1 := fun h => hp (f2.mp h); omega)]
        by_cases hl : v 44 (300 * k + x) ≤ mew v k x
        · rw [if_pos hl, if_neg]
          · rfl
          · rintro (h | h | h)
            · exact hp (e3.mpr (Or.inl h))
            · exact hp (e3.mpr (Or.inr h))
            · omega
        · rw [if_neg hl, if_pos (show BA v w k A x from Or.inr (Or.inr (by omega)))]
          rfl
    | succ j ih =>
      intro i n fl P f1 f2 e1 e2 e3
      obtain ⟨n, rfl⟩ : ∃ n', n = n' + 1 := ⟨n - 1, by omega⟩
      obtain ⟨k0, k1, k3, k7, k8, k4, k6⟩ := hT.k (show i < v 9 0 by omega)
      obtain ⟨i1, i2, i3, -⟩ := h42 i (by omega)
      have skip : ¬ (met v k i = true ∧ v 5 i = x + 1) → fX11_becomesAlive_36 n q (nI k) (nI x) (nI (fb_sm f i)) (nI fl) (nI (i + 1)) (mB q z u w) = some (if BA v w k A x then 1 else 0, mB q z u w) := fun hne => by
        have es : fb_sm f i = fb_sm f (i + 1) := by
          rw [fb_sm_succ, hfe, if_neg hne]
          rfl
        rw [es]
        refine ih (i + 1) n fl P f1 f2 (by omega) (by omega) (e3.trans (or_congr Iff.rfl ⟨fun ⟨g, g1, g2⟩ => ⟨g, by omega, g2⟩, fun ⟨g, g1, g2, g3, g4⟩ => ⟨g, ?_, g2, g3, g4⟩⟩))
        by_cases e : g = i
        · rw [e] at g2 g3; exact absurd ⟨g2, g3⟩ hne
        · omega
      rw [fX11_becomesAlive_36, mG9, b1_s, hN.k9, nI_ifle (by omega) (by omega), if_neg (by omega), mA0, b1_s, mX0, mI_n (by omega) (by decide), b1_s, hN.k0, nI_if3 (by omega), nI_1]
      by_cases g3 : v 0 i = 3
      · obtain ⟨m, m1, m2, -⟩ := (hT.g (show i < v 9 0 by omega) g3).1
        rw [if_pos g3, mA5, b1_s, mX5, mI_n (by omega) (by decide), b1_s, hN.k5, m1, dv_e rfl, nI_ifeq (by omega) (by omega)]
        by_cases em : m = x
        · rw [if_pos em, mA42, b1_s, n300, mX42, mI_n (by omega) (by decide), b1_s, hN.k42, nI_if0 (by omega)]
          by_cases e42 : v 42 (300 * k + i) = 0
          · rw [if_pos e42]
            exact skip (fun h => by have := (met_iff.mp h.1).1; omega)
          · have hmt : met v k i = true ∧ v 5 i = x + 1 := ⟨met_iff.mpr ⟨by omega, g3⟩, by omega⟩
            have es : nI (fb_sm f i) + nI (v 44 (300 * k + i)) = nI (fb_sm f (i + 1)) := by
              rw [nI_add, fb_sm_succ, hfe, if_pos hmt]
            have step : ∀ fl', fl' ≤ 1 → (fl' = 1 ↔ P ∨ NA v w k A i) → fX11_becomesAlive_36 n q (nI k) (nI x) (nI (fb_sm f (i + 1))) (nI fl') (nI (i + 1)) (mB q z u w) = some (if BA v w k A x then 1 else 0, mB q z u w) := fun fl' a1 a2 => by
              refine ih (i + 1) n fl' (P ∨ NA v w k A i) a1 a2 (by omega) (by omega) ⟨fun h => ?_, fun h => ?_⟩
              · rcases h with h | h
                · rcases e3.mp h with h | ⟨g, g1, g2⟩
                  · exact Or.inl h
                  · exact Or.inr ⟨g, by omega, g2⟩
                · exact Or.inr ⟨i, by omega, hmt.1, hmt.2, h⟩
              · rcases h with h | ⟨g, g1, g2, g3', g4⟩
                · exact Or.inl (e3.mpr (Or.inl h))
                · by_cases e : g = i
                  · rw [e] at g4; exact Or.inr g4
                  · exact Or.inl (e3.mpr (Or.inr ⟨g, by omega, g2, g3', g4⟩))
            rw [if_neg e42, mA44, b1_s, mX44, mI_n (by omega) (by decide), b1_s, hN.k44, es, nI_if0 (by omega)]
            by_cases ef : fl = 0
            · rw [if_pos ef, mA43, b1_s, mX43, mI_n (by omega) (by decide), b1_s, hN.k43, nI_if0 (by omega)]
              have hnp : ¬ P := fun h => by have := f2.mpr h; omega
              by_cases e43 : v 43 (300 * k + i) = 0
              · rw [if_pos e43, mtg, b1_s, hH i (by omega), b2_s]
                by_cases eh : HA v w k A i
                · rw [if_pos eh, if_neg (show ¬ (1 : Int32) = 0 by decide)]
                  exact step 1 (by omega) ⟨fun _ => Or.inr (Or.inr eh), fun _ => rfl⟩
                · rw [if_neg eh, if_pos rfl]
                  refine step 0 (by omega) ⟨fun h => by omega, fun h => ?_⟩
                  rcases h with h | h | h
                  · exact absurd h hnp
                  · omega
                  · exact absurd h eh
              · rw [if_neg e43]
                exact step 1 (by omega) ⟨fun _ => Or.inr (Or.inl (by omega)), fun _ => rfl⟩
            · rw [if_neg ef]
              exact step 1 (by omega) ⟨fun _ => Or.inl (f2.mp (by omega)), fun _ => rfl⟩
        · rw [if_neg em]
          exact skip (fun h => by omega)
      · rw [if_neg g3]
        exact skip (fun h => g3 (met_iff.mp h.1).2)
  have k43 := (h42 x (by omega)).2.1
  have fin : ∀ fl, fl ≤ 1 → (fl = 1 ↔ NA v w k A x) → fX11_becomesAlive_36 100000 q (nI k) (nI x) 0 (nI fl) 0 (mB q z u w) = some (if BA v w k A x then 1 else 0, mB q z u w) := fun fl h1 h2 => key (v 9 0) 0 100000 fl (NA v w k A x) h1 h2 (by omega) (by omega) ⟨Or.inl, fun h => h.elim id (fun ⟨g, g1, _⟩ => by omega)⟩
  unfold fX11_becomesAlive
  rw [mA43, b1_s, n300, mX43, mI_n (by omega) (by decide), b1_s, hN.k43, nI_if0 (by omega)]
  by_cases e43 : v 43 (300 * k + x) = 0
  · rw [if_pos e43, mtg, b1_s, hH x (by omega), b2_s]
    by_cases eh : HA v w k A x
    · rw [if_pos eh, if_neg (show ¬ (1 : Int32) = 0 by decide)]
      exact fin 1 (by omega) ⟨fun _ => Or.inr eh, fun _ => rfl⟩
    · rw [if_neg eh, if_pos rfl]
      refine fin 0 (by omega) ⟨fun h => by omega, fun h => ?_⟩
      rcases h with h | h
      · omega
      · exact absurd h eh
  · rw [if_neg e43]
    exact fin 1 (by omega) ⟨fun _ => Or.inl (by omega), fun _ => rfl⟩
end AX
