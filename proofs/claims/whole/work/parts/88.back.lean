section BK
variable {d d' : AD} {c c' : CH} {v v' : Nu} {u u' : Mu} {w w' : Me} {n q z m r t k l b0 g wt x y h i s told : Nat} {D : Nat → Prop}
/-- the weights that were met are no more than what GATES hold -/
theorem mew_cut (h42 : ∀ x, x < 300 → v 42 (300 * k + x) = 1 → x < v 9 0) (hb : v 9 0 ≤ 300) : mew v k t = fb_sm (fun g => if met v k g = true ∧ v 5 g = t + 1 then v 44 (300 * k + g) else 0) (v 9 0) := by
  have e : mew v k t = fb_sm (fun g => if met v k g = true ∧ v 5 g = t + 1 then v 44 (300 * k + g) else 0) (v 9 0 + (300 - v 9 0)) := by
    rw [show v 9 0 + (300 - v 9 0) = 300 by omega]
    rfl
  rw [e, fb_sm_split, fb_sm_no (m := 300 - v 9 0)]
  · rfl
  · intro i hi
    rw [if_neg]
    intro h
    have := h42 (v 9 0 + i) (by omega) (met_iff.mp h.1).1
    omega
theorem mew_gsum (hb : v 9 0 ≤ 300) (ha : aN v w k) : mew v k t ≤ gsum v t ∧ ∀ x, x < v 9 0 → v 7 x = 0 → v 0 x = 3 → v 5 x = t + 1 → met v k x ≠ true → mew v k t + v 6 x ≤ gsum v t := by
  have hle : ∀ g, g < v 9 0 → (if met v k g = true ∧ v 5 g = t + 1 then v 44 (300 * k + g) else 0) ≤ (if v 7 g = 0 ∧ v 0 g = 3 ∧ v 5 g = t + 1 then v 6 g else 0) := by
    intro g hg
    by_cases e : met v k g = true ∧ v 5 g = t + 1
    · obtain ⟨m1, m2⟩ := met_iff.mp e.1
      obtain ⟨-, n1, n2, -⟩ := ha g (by omega) m1
      rw [if_pos m2] at n2
      rw [if_pos e, if_pos ⟨n1, m2, e.2⟩, n2]
      exact Nat.le_refl _
    · rw [if_neg e]
      exact Nat.zero_le _
  rw [mew_cut (fun x hx e => (ha x hx e).1) hb]
  refine ⟨fb_sm_le hle, fun x hx h7 h3 h5 hm => ?_⟩
  have up := fb_sm_upd (fun g => if met v k g = true ∧ v 5 g = t + 1 then v 44 (300 * k + g) else 0) (v 6 x) (i := x) hx
  have up2 : fb_sm (fun g => if g = x then v 6 x else (if met v k g = true ∧ v 5 g = t + 1 then v 44 (300 * k + g) else 0)) (v 9 0) ≤ gsum v t := by
    refine fb_sm_le (fun g hg => ?_)
    by_cases e : g = x
    · rw [if_pos e, e, if_pos ⟨h7, h3, h5⟩]
      exact Nat.le_refl _
    · rw [if_neg e]
      exact hle g hg
  rw [if_neg (fun h => hm h.1)] at up
  omega
/-- what is meant is found -/
theorem Mt.rb (hI : Inv D n v u w) (ha : aN v w k) (hm : Mt v t) : RB v k (AL v k) t := by
  obtain ⟨hT, hF, hL, hW, hC, hK, hX, hS, hG, hQ, hM⟩ := hI
  have hb := hT.1
  have an : ∀ b, b < v 9 0 → anch v b → (pas v k b = true → AC v k (AL v k) b) → RB v k (AL v k) b := fun b hb' hA hp => by
    refine Cl.base ⟨hb', hA.1, Or.inr (Or.inr ⟨hA, ?_⟩)⟩
    by_cases e : pas v k b = true
    · exact Or.inr (AL.mk hb' e (hp e))
    · exact Or.inl (by simpa using e)
  refine (hm (fun t => Mt v t ∧ RB v k (AL v k) t) (fun b hB => ⟨Cl.base hB, ?_⟩) (fun x y hx hxy => ⟨hx.1.step hxy, ?_⟩)).2
  · rcases id hB with ⟨b1, b2⟩ | ⟨l, l1, l2, l3, l4⟩ | hw
    · exact Cl.base ⟨b1, hT.rt b1 b2, Or.inl b2⟩
    · obtain ⟨o1, o2, o3, o4, o5, o6, o7, o8, -⟩ := hL.2.1 l l1
      obtain ⟨r, p, r1, r2, r3, r4, r5, r6, r7⟩ := o8 l3
      have hmb := hM b (Cl.base hB)
      have hge := lsum_ge l1 l2
      rw [l4] at o4 o5 hge
      have hs := (hS b o4 o5).1
      refine an b o4 ⟨hmb.1, o5, by omega, hmb.2⟩ (fun _ => Or.inl ?_)
      have := (mew_gsum (t := b) hb ha).1
      omega
    · obtain ⟨j, j1, j2⟩ := hw
      obtain ⟨w1, w2, w3, -⟩ := hW.2 j j1
      rw [j2] at w1 w3
      exact Cl.base ⟨w1, w3, Or.inr (Or.inl ⟨j, j1, j2⟩)⟩
  · rcases id hxy with h | ⟨h3, h5⟩
    · exact Cl.step hx.2 h
    · obtain ⟨b, hob, hbl⟩ := hx.2.from
      obtain ⟨x9, x7, -⟩ := led_there hT hob.1 hob.2.1 hbl
      obtain ⟨⟨m, m1, m2, m3, m4⟩, -, -, m5⟩ := hT.g x9 h3
      have : m = y := by omega
      subst this
      have hmy := hM m (hx.1.step hxy)
      have hs := (hS m m2 m3).1
      have hge := gsum_ge x9 x7 h3 h5
      refine an m m2 ⟨hmy.1, m3, by omega, hmy.2⟩ (fun _ => ?_)
      by_cases e : met v k x = true
      · exact Or.inr (Or.inr ⟨x, x9, e, h5, hx.2⟩)
      · left
        have := (mew_gsum (t := m) hb ha).2 x x9 x7 h3 h5 e
        omega
theorem Mt.al (hI : Inv D n v u w) (ha : aN v w k) (hm : Mt v t) (ht : t < v 9 0) (hp : pas v k t = true) : AL v k t := AL.mk ht hp (Or.inr (Or.inl (hm.rb hI ha)))
/-- a walk's letter has come back -/
theorem Inv.backs {e : Nat} (hI : Inv D n v u w) (hk : k < v 46 0) (h39 : v 39 k + 1 ≤ n) (h40 : v 40 k + told ≤ 300 * n) (h37 : v 37 k = 0) (he : (e = 0 ∧ v 39 k + 1 ≤ v 40 k + told) ∨ (1 ≤ e ∧ e ≤ 3)) : Inv D n (zu (zu (zu v 39 k (v 39 k + 1)) 40 k (v 40 k + told)) 37 k e) u w := by
  obtain ⟨hT, hF, hL, hW, hC, hK, hX, hS, hG, hQ, hM⟩ := hI
  refine ⟨hT, hF, hL, hW, hC, ⟨hK.1, fun k' hk' => ?_, fun k' h1 h2 => ?_, hK.2.2.2⟩, fun l k' hl h21 hk37 => ?_, hS, hG, hQ, hM⟩
  · obtain ⟨a1, a2, a3, a4, a5, a6, a7, a8⟩ := hK.2.1 k' hk'
    by_cases ek : k' = k
    · subst ek
      refine ⟨a1, a2, ?_, ?_, ?_, a6, a7, fun h => ?_⟩
      · show zu (zu v 39 k' (v 39 k' + 1)) 40 k' (v 40 k' + told) 39 k' ≤ n
        rw [zu_n (by omega), zu_s]
        exact h39
      · show zu (zu v 39 k' (v 39 k' + 1)) 40 k' (v 40 k' + told) 40 k' ≤ 300 * n
        rw [zu_s]
        exact h40
      · rw [zu_s]; omega
      · rw [zu_s] at h
        refine ⟨?_, (a8 h37).2⟩
        rw [zu_n (by omega), zu_n (by omega), zu_s, zu_n (by omega), zu_s]
        omega
    · have f : ∀ f, zu (zu (zu v 39 k (v 39 k + 1)) 40 k (v 40 k + told)) 37 k e f k' = v f k' := fun f => by
        rw [zu_n (by omega), zu_n (by omega), zu_n (by omega)]
      refine ⟨a1, a2, by rw [f]; exact a3, by rw [f]; exact a4, by rw [f]; exact a5, a6, a7, fun h => ?_⟩
      rw [f] at h
      rw [f, f]
      exact a8 h
  · have hne : k' ≠ k := fun e => by
      have h1' : v 46 0 ≤ k' := h1
      omega
    have f : ∀ f, zu (zu (zu v 39 k (v 39 k + 1)) 40 k (v 40 k + told)) 37 k e f k' = v f k' := fun f => by
      rw [zu_n (by omega), zu_n (by omega), zu_n (by omega)]
    rw [f, f, f]
    exact hK.2.2.1 k' h1 h2
  · refine hX l k' hl h21 ?_
    by_cases ek : k' = k
    · rw [ek]; exact h37
    · rw [zu_n (by omega)] at hk37
      exact hk37
/-- a thing is set BROKEN -/
theorem Inv.broke (hI : Inv D0 n v u w) (hs : s < v 9 0) (h3 : v 0 s ≠ 3) (hm : ¬ Mt v s) : Inv (fun g => g = v 1 s) n (zu v 8 s 1) u w := by
  obtain ⟨hT, hF, hL, hW, hC, hK, hX, hS, hG, hQ, hM⟩ := hI
  have hT' : iT (zu v 8 s 1) := by
    refine ⟨hT.1, fun t ht => ?_⟩
    obtain ⟨h1, h2, h3', h4, h5, h6, h7, h8, h9, h10, h11, h12, h13⟩ := hT.2 t ht
    refine ⟨h1, h2, h3', h4, ?_, h6, h7, h8, h9, h10, fun h => ?_, h12, h13⟩
    · by_cases e : t = s
      · rw [e, zu_s]; exact Nat.le_refl _
      · rw [zu_n (by omega)]; exact h5
    · obtain ⟨a, b, c, d⟩ := h11 h
      have e : t ≠ s := fun e => by rw [e] at h; exact h3 h
      exact ⟨a, b, by rw [zu_n (by omega)]; exact c, d⟩
  refine ⟨hT', fun t h1 h2 => ?_, hL, hW, hC, ?_, hX, hS, hG, hQ, fun t ht => ?_⟩
  · obtain ⟨c1, c2, c3, c4, c5, c6⟩ := hF t h1 h2
    have h1' : v 9 0 ≤ t := h1
    exact ⟨c1, c2, c3, c4, by rw [zu_n (by omega)]; exact c5, c6⟩
  · refine (hK.dirty (D := fun g => g = v 1 s)).loc hT hT' (fun g hg hD => ⟨fun x hx hh => ⟨hx, hh, rfl, rfl, rfl, rfl, rfl, ?_, Iff.rfl, fun p hp => ⟨rfl, fun _ => rfl⟩⟩, fun x hx hh => ⟨hx, hh⟩⟩) (fun _ _ => rfl) (Nat.le_refl _) (fun _ _ => ⟨rfl, rfl⟩) (fun f i hf => zu_n (by omega)) (fun _ => rfl)
    rw [zu_n]
    rintro ⟨-, e⟩
    rw [e] at hh
    exact hD hh.symm
  · have ht' : Mt v t := ht
    obtain ⟨a1, a2⟩ := hM t ht'
    refine ⟨a1, ?_⟩
    rw [zu_n]
    · exact a2
    · rintro ⟨-, e⟩
      rw [e] at ht'
      exact hm ht'
/-- whether a HOST has changed, in the reference -/
theorem s_changed [Decidable (chg v k)] (hN : Nv v u) (hk : k < 20) (h41b : ∀ h, h < 8 → v 41 (8 * k + h) ≤ 100000) (h30 : ∀ h, h < 8 → v 30 h ≤ 100000) : fX11_backs_65 100000 q (nI k) 0 0 (mB q z u w) = fX11_backs_65 1 q (nI k) (if chg v k then 1 else 0) 8 (mB q z u w) := by
  have key : ∀ (j i n : Nat) (fl : Nat), fl ≤ 1 → i + j = 8 → j < n → (fl = 1 ↔ ∃ h, h < i ∧ v 41 (8 * k + h) ≠ 0 ∧ v 41 (8 * k + h) ≠ v 30 h + 1) → fX11_backs_65 n q (nI k) (nI fl) (nI i) (mB q z u w) = fX11_backs_65 1 q (nI k) (if chg v k then 1 else 0) 8 (mB q z u w) := by
    intro j
    induction j with
    | zero =>
      intro i n fl f1 e1 e2 e3
      obtain ⟨n, rfl⟩ : ∃ n', n = n' + 1 := ⟨n - 1, by omega⟩
      have : i = 8 := by omega
      subst this
      have : nI fl = if chg v k then 1 else 0 := by
        by_cases e : chg v k
        · rw [if_pos e, e3.mpr e]
          rfl
        · have : fl ≠ 1 := fun h => e (e3.mp h)
          have : fl = 0 := by omega
          rw [if_neg e, this]
          rfl
      rw [this, show nI 8 = 8 from rfl]
      rw [fX11_backs_65, fX11_backs_65, if_pos (Int32.le_refl _), if_pos (Int32.le_refl _)]
    | succ j ih =>
      intro i n fl f1 e1 e2 e3
      obtain ⟨n, rfl⟩ : ∃ n', n = n' + 1 := ⟨n - 1, by omega⟩
      have hb41 := h41b i (by omega)
      have hb30 := h30 i (by omega)
      have go : ∀ fl', fl' ≤ 1 → (fl' = 1 ↔ fl = 1 ∨ (v 41 (8 * k + i) ≠ 0 ∧ v 41 (8 * k + i) ≠ v 30 i + 1)) → fX11_backs_65 n q (nI k) (nI fl') (nI (i + 1)) (mB q z u w) = fX11_backs_65 1 q (nI k) (if chg v k then 1 else 0) 8 (mB q z u w) := fun fl' a1 a2 => by
        refine ih (i + 1) n fl' a1 (by omega) (by omega) (a2.trans ⟨fun h => ?_, fun h => ?_⟩)
        · rcases h with h | h
          · obtain ⟨h, h1, h2⟩ := e3.mp h
            exact ⟨h, by omega, h2⟩
          · exact ⟨i, by omega, h⟩
        · obtain ⟨h, h1, h2⟩ := h
          by_cases e : h = i
          · rw [e] at h2; exact Or.inr h2
          · exact Or.inl (e3.mpr ⟨h, by omega, h2⟩)
      rw [fX11_backs_65, show (8 : Int32) = nI 8 from rfl, nI_ifle (by omega) (by omega), if_neg (by omega), nI_if0 (by omega), show nI 8 = (8 : Int32) from rfl, nI_1]
      by_cases ef : fl = 0
      · rw [if_pos ef, mA41, b1_s, n8, mX41, mI_n (by omega) (by decide), b1_s, hN.k41, dv_if rfl (by omega)]
        by_cases e0 : v 41 (8 * k + i) = 0
        · rw [if_pos e0]
          exact go 0 (by omega) ⟨fun h => by omega, fun h => by omega⟩
        · obtain ⟨m, hm⟩ : ∃ m, v 41 (8 * k + i) = m + 1 := ⟨v 41 (8 * k + i) - 1, by omega⟩
          rw [if_neg e0, mA30, b1_s, mX41, mI_n (by omega) (by decide), b1_s, hN.k41, b1_s, mX30, mI_n (by omega) (by decide), b1_s, hN.k30, hm, dv_e rfl, nI_ifeq (by omega) (by omega)]
          by_cases e1' : m = v 30 i
          · rw [if_pos e1']
            exact go 0 (by omega) ⟨fun h => by omega, fun h => by omega⟩
          · rw [if_neg e1']
            exact go 1 (by omega) ⟨fun h => by right; omega, fun h => rfl⟩
      · rw [if_neg ef]
        exact go 1 (by omega) ⟨fun _ => Or.inl (by omega), fun _ => rfl⟩
  exact key 8 0 100000 0 (by omega) (by omega) (by omega) ⟨fun h => by omega, fun ⟨h, h1, _⟩ => by omega⟩
end BK
