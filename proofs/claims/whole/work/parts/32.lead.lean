/-- the least set over B that is closed -/
def Cl (E : Nat → Nat → Prop) (B : Nat → Prop) (y : Nat) : Prop := ∀ S : Nat → Prop, (∀ b, B b → S b) → (∀ x y, S x → E x y → S y) → S y
theorem Cl.base {E : Nat → Nat → Prop} {B : Nat → Prop} {b : Nat} (h : B b) : Cl E B b := fun _ h1 _ => h1 b h
theorem Cl.step {E : Nat → Nat → Prop} {B : Nat → Prop} {x y : Nat} (h : Cl E B x) (e : E x y) : Cl E B y := fun S h1 h2 => h2 x y (h S h1 h2) e
theorem Cl.mono {E : Nat → Nat → Prop} {B B' : Nat → Prop} {y : Nat} (h : Cl E B y) (hb : ∀ b, B b → B' b) : Cl E B' y := fun S h1 h2 => h S (fun b hB => h1 b (hb b hB)) h2
/-- the tables that are kept from call to call are the same -/
def Sc (u u' : Mu) : Prop := ∀ k i, (k ≠ 34 ∧ k ≠ 35 ∧ k ≠ 36 ∧ k ≠ 47 ∧ k ≠ 48 ∧ k ≠ 49) → u' k i = u k i
theorem Sc.rfl {u : Mu} : Sc u u := fun _ _ _ => Eq.refl _
theorem Sc.trans {u v x : Mu} (h1 : Sc u v) (h2 : Sc v x) : Sc u x := fun k i hk => (h2 k i hk).trans (h1 k i hk)
theorem Sc.wr {u v : Mu} {k i : Nat} {x : Int32} (h : Sc u v) (hk : k = 34 ∨ k = 35 ∨ k = 36 ∨ k = 47 ∨ k = 48 ∨ k = 49) : Sc u (zu v k i x) := by
  intro k' i' h'
  have hne : ¬ (k' = k ∧ i' = i) := by omega
  simp only [zu, if_neg hne]
  exact h k' i' h'
/-- what leads where -/
def gE (pl : Nat → Nat) (hd : Nat → Nat → Option Nat) (x y : Nat) : Prop := ∃ p, p < pl x ∧ hd x p = some y
def gOK (u : Mu) (nT : Nat) (pl : Nat → Nat) (hd : Nat → Nat → Option Nat) : Prop := nT ≤ 300 ∧ ∀ x, x < nT → u 3 x = nI (pl x) ∧ pl x ≤ 8 ∧ ∀ p, p < pl x → (∀ y, hd x p = some y → u 10 (8 * x + p) = 1 ∧ u 11 (8 * x + p) = nI y ∧ y < nT) ∧ (hd x p = none → u 10 (8 * x + p) ≠ 1)
theorem gOK.sc {u v : Mu} {nT : Nat} {pl : Nat → Nat} {hd : Nat → Nat → Option Nat} (h : gOK u nT pl hd) (hs : Sc u v) : gOK v nT pl hd := by
  refine ⟨h.1, fun x hx => ?_⟩
  obtain ⟨h1, h2, h3⟩ := h.2 x hx
  refine ⟨by rw [hs 3 x (by omega)]; exact h1, h2, fun p hp => ?_⟩
  rw [hs 10 _ (by omega), hs 11 _ (by omega)]
  exact h3 p hp
section LD
variable {o z : Nat} {u : Mu} {w : Me}
theorem s_noLeads_2 : ∀ (m n k : Nat), k + m = 300 → m < n → fX11_noLeads_2 n o (nI k) (mB o z (fun k' i => if k' = 34 ∧ i < k then 0 else u k' i) w) = some ((), mB o z (fun k' i => if k' = 34 ∧ i < 300 then 0 else u k' i) w) := by
  intro m
  induction m with
  | zero =>
    intro n k h1 h2
    obtain ⟨n, rfl⟩ : ∃ n', n = n' + 1 := ⟨n - 1, by omega⟩
    have e : k = 300 := by omega
    subst e
    rw [fX11_noLeads_2, if_pos (show (300 : Int32) ≤ nI 300 from Int32.le_refl _)]
  | succ m ih =>
    intro n k h1 h2
    obtain ⟨n, rfl⟩ : ∃ n', n = n' + 1 := ⟨n - 1, by omega⟩
    have hk : ¬ (nI 300 ≤ nI k) := by rw [nI_leI (by omega) (by omega)]; omega
    rw [fX11_noLeads_2, if_neg (show ¬ (300 : Int32) ≤ nI k from hk)]
    simp (disch := omega) only [mA34, b1_s, mY34 (mC_n (show k < 300 by omega) (by decide)), nI_c, nar0, nI_1]
    have e : zu (fun k' i => if k' = 34 ∧ i < k then (0 : Int32) else u k' i) 34 k 0 = fun k' i => if k' = 34 ∧ i < k + 1 then 0 else u k' i := by
      funext k' i
      simp only [zu]
      by_cases h5 : k' = 34
      · subst h5
        by_cases h6 : i = k
        · subst h6; simp
        · by_cases h7 : i < k
          · simp [h6, h7, show i < k + 1 by omega]
          · simp [h6, h7, show ¬ i < k + 1 by omega]
      · simp [h5]
    rw [e]
    exact ih n (k + 1) (by omega) (by omega)
theorem s_noLeads : ∃ v, fX11_noLeads o (mB o z u w) = some ((), mB o z v w) ∧ Sc u v ∧ (∀ y, y < 300 → v 34 y = 0) ∧ (∀ k i, k ≠ 34 → v k i = u k i) := by
  refine ⟨_, (by
    have h := s_noLeads_2 (o := o) (z := z) (u := u) (w := w) 300 100000 0 (by omega) (by omega)
    have e : (fun k' i => if k' = 34 ∧ i < 0 then (0 : Int32) else u k' i) = u := by funext k' i; simp
    rw [e] at h
    exact h), ?_, ?_, ?_⟩
  · intro k i hk
    simp [hk.1]
  · intro y hy
    simp [hy]
  · intro k i hk
    simp [hk]
end LD
