section MM
variable {v : Nu} {u u' : Mu} {w : Me} {q z j n x : Nat} {f : Nat → Nat} {P : Nat → Prop}
/-- the reference's marks -/
def MrkQ (u : Mu) (n : Nat) (f : Nat → Nat) : Prop := (∀ i, i < n → u 36 i = nI (f i)) ∧ ∀ x, x < 300 → (In n f x → u 47 x = 1) ∧ (¬ In n f x → u 47 x = 0)
def MrkJ (v : Nu) (P : Nat → Prop) (n : Nat) (f : Nat → Nat) : Prop := n ≤ 300 ∧ (∀ a b, a < n → b < n → f a = f b → a = b) ∧ ∀ i, i < n → f i < v 9 0 ∧ P (f i)
def S5 (u u' : Mu) : Prop := ∀ k i, (k ≠ 36 ∧ k ≠ 47) → u' k i = u k i
theorem S5.sc (h : S5 u u') : Sc u u' := fun k i hk => h k i (by omega)
theorem In_fup {y : Nat} : In (n + 1) (fup f n x) y ↔ In n f y ∨ y = x := by
  constructor
  · rintro ⟨i, i1, i2⟩
    by_cases e : i = n
    · rw [e, fup_s] at i2
      exact Or.inr i2.symm
    · rw [fup_n e] at i2
      exact Or.inl ⟨i, by omega, i2⟩
  · rintro (⟨i, i1, i2⟩ | g)
    · exact ⟨i, by omega, by rw [fup_n (by omega)]; exact i2⟩
    · exact ⟨n, by omega, by rw [fup_s, g]⟩
theorem MrkJ.room (h : MrkJ v P n f) (hb : v 9 0 ≤ 300) (hx : x < v 9 0) (hn : ¬ In n f x) : n < 300 := by
  have := fb_holes (v 9 0) (n + 1) (fun i => if i < n then f i else x) (by
    intro i hi
    by_cases e : i < n
    · simp only [if_pos e]; exact (h.2.2 i e).1
    · simp only [if_neg e]; exact hx) (by
    intro i k hij hk
    by_cases e : k < n
    · simp only [if_pos e, if_pos (show i < n by omega)]
      intro q
      have := h.2.1 i k (by omega) e q
      omega
    · simp only [if_neg e, if_pos (show i < n by omega)]
      intro q
      exact hn ⟨i, by omega, q⟩)
  omega
theorem MrkJ.add (h : MrkJ v P n f) (hb : v 9 0 ≤ 300) (hx : x < v 9 0) (hn : ¬ In n f x) (hp : P x) : MrkJ v P (n + 1) (fup f n x) := by
  have hr := h.room hb hx hn
  obtain ⟨q1, q2, q3⟩ := h
  have fo : ∀ i, i < n → fup f n x i = f i := fun i hi => fup_n (by omega)
  have ne : ∀ i, i < n → f i ≠ x := fun i hi e => hn ⟨i, hi, e⟩
  refine ⟨by omega, fun a b ha hb' e => ?_, fun i hi => ?_⟩
  · by_cases ea : a = n <;> by_cases eb : b = n
    · omega
    · rw [ea, fup_s, fo b (by omega)] at e
      exact absurd e.symm (ne b (by omega))
    · rw [eb, fup_s, fo a (by omega)] at e
      exact absurd e (ne a (by omega))
    · rw [fo a (by omega), fo b (by omega)] at e
      exact q2 a b (by omega) (by omega) e
  · by_cases e : i = n
    · rw [e, fup_s]
      exact ⟨hx, hp⟩
    · rw [fo i (by omega)]
      exact q3 i (by omega)
theorem MrkQ.add (h : MrkQ u n f) (hn : n < 300) : MrkQ (zu (zu u 47 x 1) 36 n (nI x)) (n + 1) (fup f n x) := by
  refine ⟨fun i hi => ?_, fun y hy => ⟨fun g => ?_, fun g => ?_⟩⟩
  · by_cases e : i = n
    · rw [e, fup_s, zu_s]
    · rw [fup_n e, zu_n (by omega), zu_n (by omega)]
      exact h.1 i (by omega)
  · by_cases e : y = x
    · rw [e, zu_n (by omega), zu_s]
    · rw [zu_n (by omega), zu_n (by omega)]
      exact (h.2 y hy).1 ((In_fup.mp g).resolve_right e)
  · have e : y ≠ x := fun e => g (In_fup.mpr (Or.inr e))
    rw [zu_n (by omega), zu_n (by omega)]
    exact (h.2 y hy).2 (fun g2 => g (In_fup.mpr (Or.inl g2)))
theorem x_mm88 {K : Nat → Int32 → Int32 → Hz → Option (Unit × Hz)} (hN : Nv v u) (hT : iT v) (hL : iL v) (hW : iW v) (hP : ∀ x y, P x → GE v x y → y < v 9 0 → v 7 y = 0 → P y) (hQ : MrkQ u n f) (hJ : MrkJ v P n f) (hj : j < n) : ∃ u' n' f', fX11_marksMeant_88 K 100000 q (nI n) (nI j) 0 (mB q z u w) = K q (nI n') (nI (j + 1)) (mB q z u' w) ∧ MrkQ u' n' f' ∧ MrkJ v P n' f' ∧ S5 u u' ∧ n ≤ n' ∧ (∀ i, i < n → f' i = f i) ∧ ∀ y, y < v 9 0 → v 7 y = 0 → GE v (f j) y → In n' f' y := by
  have hb := hT.1
  have key := zlp (F := fun k i (s : Mu × Nat × (Nat → Nat)) => fX11_marksMeant_88 K k q (nI s.2.1) (nI j) i (mB q z s.1 w)) (N := v 9 0)
    (fun i s => MrkQ s.1 s.2.1 s.2.2 ∧ MrkJ v P s.2.1 s.2.2 ∧ S5 u s.1 ∧ n ≤ s.2.1 ∧ (∀ i, i < n → s.2.2 i = f i) ∧ ∀ x, x < i → v 7 x = 0 → GE v (f j) x → In s.2.1 s.2.2 x)
    (fun y => ∃ u' n' f', y = K q (nI n') (nI (j + 1)) (mB q z u' w) ∧ MrkQ u' n' f' ∧ MrkJ v P n' f' ∧ S5 u u' ∧ n ≤ n' ∧ (∀ i, i < n → f' i = f i) ∧ ∀ y, y < v 9 0 → v 7 y = 0 → GE v (f j) y → In n' f' y)
    (by
      rintro k i ⟨u1, n1, f1⟩ hi ⟨p1, p2, p3, p4, p5, p6⟩
      left
      dsimp only at p1 p2 p3 p4 p5 p6
      have hN1 := hN.sc p3.sc
      have k7 := (hT.k hi).2.2.2.1
      have hn1 := p2.1
      haveI := Classical.propDecidable (In n1 f1 i)
      haveI := Classical.propDecidable (GE v (f j) i)
      have fj := (p2.2.2 j (by omega)).1
      have fj2 := p5 j hj
      have skip : (v 7 i = 0 → GE v (f j) i → In n1 f1 i) → ∃ s' : Mu × Nat × (Nat → Nat), fX11_marksMeant_88 K k q (nI n1) (nI j) (nI (i + 1)) (mB q z u1 w) = fX11_marksMeant_88 K k q (nI s'.2.1) (nI j) (nI (i + 1)) (mB q z s'.1 w) ∧ MrkQ s'.1 s'.2.1 s'.2.2 ∧ MrkJ v P s'.2.1 s'.2.2 ∧ S5 u s'.1 ∧ n ≤ s'.2.1 ∧ (∀ i, i < n → s'.2.2 i = f i) ∧ ∀ x, x < i + 1 → v 7 x = 0 → GE v (f j) x → In s'.2.1 s'.2.2 x := fun hne => ⟨(u1, n1, f1), rfl, p1, p2, p3, p4, p5, fun x hx => by
        by_cases e : x = i
        · rw [e]; exact hne
        · exact p6 x (by omega)⟩
      show ∃ s' : Mu × Nat × (Nat → Nat), fX11_marksMeant_88 K (k + 1) q (nI n1) (nI j) (nI i) (mB q z u1 w) = _ ∧ _
      rw [fX11_marksMeant_88, mG9, b1_s, hN1.k9, nI_ifle (by omega) (by omega), if_neg (by omega), mA7, b1_s, mX7, mI_n (by omega) (by decide), b1_s, hN1.k7, nI_if0 (by omega), nI_1]
      by_cases e7 : v 7 i = 0
      · rw [if_pos e7, mA47, b1_s, mX47, mI_n (by omega) (by decide), b1_s]
        by_cases ein : In n1 f1 i
        · rw [(p1.2 i (by omega)).1 ein, if_neg (show ¬ (1 : Int32) = 0 by decide)]
          exact skip (fun _ _ => ein)
        · rw [(p1.2 i (by omega)).2 ein, if_pos rfl, mA36, b1_s, mX36, mI_n (by omega) (by decide), b1_s, p1.1 j (by omega), fj2, mtg, b1_s, s_goes hN1 hT hL hW (by rw [← fj2]; exact fj) hi, b2_s]
          by_cases eg : GE v (f j) i
          · have hroom := p2.room hb hi ein
            rw [if_pos eg, if_neg (show ¬ (1 : Int32) = 0 by decide), mA47, b1_s, mY47 (mC_n (by omega) (by decide)), b1_s, nI_c (by omega), nar1, mA36, b1_s, mY36 (mC_n (by omega) (by decide)), b1_s, nI_c (by omega), nI_1]
            refine ⟨(zu (zu u1 47 i 1) 36 n1 (nI i), n1 + 1, fup f1 n1 i), rfl, p1.add hroom, p2.add hb hi ein (hP (f j) i (by rw [← fj2]; exact (p2.2.2 j (by omega)).2) eg hi e7), fun a b hab => ?_, by dsimp only; omega, fun a ha => ?_, fun x hx h7 hg => ?_⟩
            · dsimp only
              rw [zu_n (by omega), zu_n (by omega)]
              exact p3 a b hab
            · dsimp only
              rw [fup_n (by omega)]
              exact p5 a ha
            · dsimp only
              by_cases e : x = i
              · exact In_fup.mpr (Or.inr e)
              · exact In_fup.mpr (Or.inl (p6 x (by omega) h7 hg))
          · rw [if_neg eg, if_pos rfl]
            exact skip (fun _ g => absurd g eg)
      · rw [if_neg e7]
        exact skip (fun g => absurd g e7))
    (by
      rintro k ⟨u1, n1, f1⟩ ⟨p1, p2, p3, p4, p5, p6⟩
      dsimp only at p1 p2 p3 p4 p5 p6
      have hN1 := hN.sc p3.sc
      refine ⟨u1, n1, f1, ?_, p1, p2, p3, p4, p5, p6⟩
      show fX11_marksMeant_88 K (k + 1) q (nI n1) (nI j) (nI (v 9 0)) (mB q z u1 w) = _
      rw [fX11_marksMeant_88, mG9, b1_s, hN1.k9, if_pos (Int32.le_refl _), nI_1])
  exact key (v 9 0) 100000 0 (u, n, f) (by omega) (by omega) ⟨hQ, hJ, fun _ _ _ => rfl, Nat.le_refl _, fun _ _ => rfl, fun x hx => by omega⟩
/-- the reference marks what is meant -/
theorem x_marks (hN : Nv v u) (hT : iT v) (hL : iL v) (hW : iW v) (hP : ∀ x y, P x → GE v x y → y < v 9 0 → v 7 y = 0 → P y) (hR : ∀ x, x < v 9 0 → v 0 x = 2 → P x) : ∃ u' n f, fX11_marksMeant q (mB q z u w) = some ((), mB q z u' w) ∧ MrkQ u' n f ∧ MrkJ v P n f ∧ S5 u u' ∧ (∀ x, x < v 9 0 → v 0 x = 2 → In n f x) ∧ ∀ i y, i < n → GE v (f i) y → y < v 9 0 → v 7 y = 0 → In n f y := by
  have hb := hT.1
  have main : ∀ (g k j n : Nat) (u1 : Mu) (f : Nat → Nat), j + g = 300 → g < k → j ≤ n → MrkQ u1 n f → MrkJ v P n f → S5 u u1 → (∀ x, x < v 9 0 → v 0 x = 2 → In n f x) → (∀ i y, i < j → GE v (f i) y → y < v 9 0 → v 7 y = 0 → In n f y) → ∃ u' n' f', fX11_marksMeant_81 k q (nI n) (nI j) (mB q z u1 w) = some ((), mB q z u' w) ∧ MrkQ u' n' f' ∧ MrkJ v P n' f' ∧ S5 u u' ∧ (∀ x, x < v 9 0 → v 0 x = 2 → In n' f' x) ∧ ∀ i y, i < n' → GE v (f' i) y → y < v 9 0 → v 7 y = 0 → In n' f' y := by
    intro g
    induction g with
    | zero =>
      intro k j n u1 f e1 e2 e3 hQ hJ hS h1 h2
      obtain ⟨k, rfl⟩ : ∃ k', k = k' + 1 := ⟨k - 1, by omega⟩
      have hn := hJ.1
      have : j = n := by omega
      subst this
      refine ⟨u1, j, f, ?_, hQ, hJ, hS, h1, h2⟩
      rw [fX11_marksMeant_81, if_pos (Int32.le_refl _)]
    | succ g ih =>
      intro k j n u1 f e1 e2 e3 hQ hJ hS h1 h2
      obtain ⟨k, rfl⟩ : ∃ k', k = k' + 1 := ⟨k - 1, by omega⟩
      have hn := hJ.1
      rcases Nat.lt_or_ge j n with hj | hj
      · obtain ⟨u2, n2, f2, a1, a2, a3, a4, a5, a6, a7⟩ := x_mm88 (K := fX11_marksMeant_81 k) (q := q) (z := z) (w := w) (hN.sc hS.sc) hT hL hW hP hQ hJ hj
        have mono : ∀ y, In n f y → In n2 f2 y := fun y ⟨i, i1, i2⟩ => ⟨i, by omega, by rw [a6 i i1]; exact i2⟩
        rw [fX11_marksMeant_81, nI_ifle (by omega) (by omega), if_neg (by omega), a1]
        refine ih k (j + 1) n2 u2 f2 (by omega) (by omega) (by omega) a2 a3 (fun x i hx => (a4 x i hx).trans (hS x i hx)) (fun x hx h => mono x (h1 x hx h)) (fun i y hi hg hy h7 => ?_)
        rw [a6 i (by omega)] at hg
        by_cases e : i = j
        · rw [e] at hg
          exact a7 y hy h7 hg
        · exact mono y (h2 i y (by omega) hg hy h7)
      · have : j = n := by omega
        subst this
        refine ⟨u1, j, f, ?_, hQ, hJ, hS, h1, h2⟩
        rw [fX11_marksMeant_81, if_pos (Int32.le_refl _)]
  have roots : ∀ u0 : Mu, S5 u u0 → (∀ x, x < 300 → u0 47 x = 0) → ∃ u' n' f', fX11_marksMeant_26 100000 q (nI 0) (nI 0) (mB q z u0 w) = some ((), mB q z u' w) ∧ MrkQ u' n' f' ∧ MrkJ v P n' f' ∧ S5 u u' ∧ (∀ x, x < v 9 0 → v 0 x = 2 → In n' f' x) ∧ ∀ i y, i < n' → GE v (f' i) y → y < v 9 0 → v 7 y = 0 → In n' f' y := by
    intro u0 hS0 h0
    have key := zlp (F := fun k i (s : Mu × Nat × (Nat → Nat)) => fX11_marksMeant_26 k q (nI s.2.1) i (mB q z s.1 w)) (N := v 9 0)
      (fun i s => MrkQ s.1 s.2.1 s.2.2 ∧ MrkJ v P s.2.1 s.2.2 ∧ S5 u s.1 ∧ (∀ a, a < s.2.1 → s.2.2 a < i) ∧ ∀ x, x < i → v 0 x = 2 → In s.2.1 s.2.2 x)
      (fun y => ∃ u' n' f', y = some ((), mB q z u' w) ∧ MrkQ u' n' f' ∧ MrkJ v P n' f' ∧ S5 u u' ∧ (∀ x, x < v 9 0 → v 0 x = 2 → In n' f' x) ∧ ∀ i y, i < n' → GE v (f' i) y → y < v 9 0 → v 7 y = 0 → In n' f' y)
      (by
        rintro k i ⟨u1, n1, f1⟩ hi ⟨p1, p2, p3, p4, p5⟩
        left
        dsimp only at p1 p2 p3 p4 p5
        have hN1 := hN.sc p3.sc
        obtain ⟨k0, -, -, k7, -⟩ := hT.k hi
        have skip : (v 0 i ≠ 2) → ∃ s' : Mu × Nat × (Nat → Nat), fX11_marksMeant_26 k q (nI n1) (nI (i + 1)) (mB q z u1 w) = fX11_marksMeant_26 k q (nI s'.2.1) (nI (i + 1)) (mB q z s'.1 w) ∧ MrkQ s'.1 s'.2.1 s'.2.2 ∧ MrkJ v P s'.2.1 s'.2.2 ∧ S5 u s'.1 ∧ (∀ a, a < s'.2.1 → s'.2.2 a < i + 1) ∧ ∀ x, x < i + 1 → v 0 x = 2 → In s'.2.1 s'.2.2 x := fun hne => ⟨(u1, n1, f1), rfl, p1, p2, p3, fun a ha => Nat.lt_succ_of_lt (p4 a ha), fun x hx h2 => by
          by_cases e : x = i
          · rw [e] at h2; exact absurd h2 hne
          · exact p5 x (by omega) h2⟩
        show ∃ s' : Mu × Nat × (Nat → Nat), fX11_marksMeant_26 (k + 1) q (nI n1) (nI i) (mB q z u1 w) = _ ∧ _
        rw [fX11_marksMeant_26, mG9, b1_s, hN1.k9, nI_ifle (by omega) (by omega), if_neg (by omega), mA7, b1_s, mX7, mI_n (by omega) (by decide), b1_s, hN1.k7, nI_if0 (by omega), nI_1, nI_1]
        by_cases e7 : v 7 i = 0
        rotate_left
        · rw [if_neg e7]
          exact skip (fun h => e7 (hT.rt hi h))
        rw [if_pos e7, mA0, b1_s, mX0, mI_n (by omega) (by decide), b1_s, hN1.k0, nI_if2 (by omega)]
        by_cases e2 : v 0 i = 2
        rotate_left
        · rw [if_neg e2]
          exact skip e2
        have ein : ¬ In n1 f1 i := fun ⟨a, a1, a2⟩ => by
          have := p4 a a1
          omega
        have hroom := p2.room hb hi ein
        rw [if_pos e2, mA47, b1_s, mY47 (mC_n (by omega) (by decide)), b1_s, nI_c (by omega), nar1, mA36, b1_s, mY36 (mC_n (by omega) (by decide)), b1_s, nI_c (by omega)]
        refine ⟨(zu (zu u1 47 i 1) 36 n1 (nI i), n1 + 1, fup f1 n1 i), rfl, p1.add hroom, p2.add hb hi ein (hR i hi e2), fun a b hab => ?_, fun a ha => ?_, fun x hx h2 => ?_⟩
        · dsimp only
          rw [zu_n (by omega), zu_n (by omega)]
          exact p3 a b hab
        · dsimp only at ha ⊢
          by_cases e : a = n1
          · rw [e, fup_s]; omega
          · rw [fup_n e]
            have := p4 a (by omega)
            omega
        · dsimp only
          by_cases e : x = i
          · exact In_fup.mpr (Or.inr e)
          · exact In_fup.mpr (Or.inl (p5 x (by omega) h2)))
      (by
        rintro k ⟨u1, n1, f1⟩ ⟨p1, p2, p3, p4, p5⟩
        dsimp only at p1 p2 p3 p4 p5
        have hN1 := hN.sc p3.sc
        obtain ⟨u2, n2, f2, a1, a2⟩ := main 300 100000 0 n1 u1 f1 (by omega) (by omega) (by omega) p1 p2 p3 p5 (fun i y hi => by omega)
        refine ⟨u2, n2, f2, ?_, a2⟩
        show fX11_marksMeant_26 (k + 1) q (nI n1) (nI (v 9 0)) (mB q z u1 w) = _
        rw [fX11_marksMeant_26, mG9, b1_s, hN1.k9, if_pos (Int32.le_refl _)]
        exact a1)
    exact key (v 9 0) 100000 0 (u0, 0, fun _ => 0) (by omega) (by omega) ⟨⟨fun i hi => absurd hi (Nat.not_lt_zero i), fun x hx => ⟨fun ⟨i, i1, _⟩ => absurd i1 (Nat.not_lt_zero i), fun _ => h0 x hx⟩⟩, ⟨Nat.zero_le _, fun a b ha => absurd ha (Nat.not_lt_zero a), fun i hi => absurd hi (Nat.not_lt_zero i)⟩, hS0, fun a ha => absurd ha (Nat.not_lt_zero a), fun x hx => absurd hx (Nat.not_lt_zero x)⟩
  have clr := zlp (F := fun k i (u1 : Mu) => fX11_marksMeant_4 k q 0 i (mB q z u1 w)) (N := 300)
    (fun i u1 => S5 u u1 ∧ ∀ x, x < i → u1 47 x = 0)
    (fun y => ∃ u' n' f', y = some ((), mB q z u' w) ∧ MrkQ u' n' f' ∧ MrkJ v P n' f' ∧ S5 u u' ∧ (∀ x, x < v 9 0 → v 0 x = 2 → In n' f' x) ∧ ∀ i y, i < n' → GE v (f' i) y → y < v 9 0 → v 7 y = 0 → In n' f' y)
    (by
      rintro k i u1 hi ⟨p1, p2⟩
      left
      refine ⟨zu u1 47 i (vp_nar .boolean 0), ?_, fun x b hx => ?_, fun x hx => ?_⟩
      · show fX11_marksMeant_4 (k + 1) q 0 (nI i) (mB q z u1 w) = _
        rw [fX11_marksMeant_4, show (300 : Int32) = nI 300 from rfl, nI_ifle (by omega) (by omega), if_neg (by omega), mA47, b1_s, mY47 (mC_n (by omega) (by decide)), b1_s, nI_c (by omega), nI_1]
      · rw [zu_n (by omega)]
        exact p1 x b hx
      · by_cases e : x = i
        · rw [e, zu_s]; rfl
        · rw [zu_n (by omega)]
          exact p2 x (by omega))
    (by
      rintro k u1 ⟨p1, p2⟩
      obtain ⟨u2, n2, f2, a1, a2⟩ := roots u1 p1 p2
      refine ⟨u2, n2, f2, ?_, a2⟩
      show fX11_marksMeant_4 (k + 1) q 0 (nI 300) (mB q z u1 w) = _
      rw [fX11_marksMeant_4, show (300 : Int32) = nI 300 from rfl, if_pos (Int32.le_refl _)]
      exact a1)
  exact clr 300 100000 0 u (by omega) (by omega) ⟨fun _ _ _ => rfl, fun x hx => by omega⟩
end MM
section SD
variable {b0 q : Nat}
theorem i_sub0 {a b : Int32} : a - b = 0 ↔ b = a := by
  constructor
  · intro h
    have := Int32.sub_add_cancel a b
    rw [h, Int32.zero_add] at this
    exact this
  · intro h
    rw [h, Int32.sub_self]
theorem i_sub1 {a b : Int32} : a - b + (-1) = a - (b + 1) := by
  rw [Int32.sub_eq_add_neg, Int32.sub_eq_add_neg, Int32.neg_add, Int32.add_assoc, Int32.sub_eq_add_neg]
theorem st_dead : st1 (Jx b0 q) b0 q fX10_dead fX11_dead := by
  intro n x y v1 hn hJ
  obtain ⟨d, c, v, u, w, z, rfl, rfl, rfl, R, hN, hI⟩ := id hJ
  have hT := hI.1
  have hL := hI.2.2.1
  have hW := hI.2.2.2.1
  have hF := R.2.1
  have hX := R.2.2.1
  have hb := hT.1
  unfold fX10_dead fX11_dead
  by_cases hv : 0 ≤ v1
  rotate_left
  · rw [if_neg hv, if_neg hv]
    exact ⟨-1, _, _, rfl, rfl, rfl, hJ.up⟩
  obtain ⟨c', m, od, bf, dp, pi, r, t1, R', t3, t4, t5⟩ := e_trace R hT hL hW
  have hF' := R'.2.1
  have hX' := R'.2.2.1
  have hlt : ∀ i, i < m → od i < v 9 0 := fun i hi => (t3.2.2.1 i hi).1
  have hm := t5.1
  obtain ⟨u', k, f, m1, m2, m3, m4, m5, m6⟩ := x_marks (P := In m od) (q := q) (z := z) (w := w) hN hT hL hW (fun x y ⟨i, i1, i2⟩ hg hy h7 => t5.2.2.2.2.2.2 i y i1 i1 (by rw [i2]; exact hg) hy h7) (fun x hx h2 => by
    obtain ⟨i, i1, i2⟩ := t5.2.2.2.1 x hx h2
    exact ⟨i, by omega, i2⟩)
  have hiff : ∀ x, In k f x ↔ In m od x := fun x => by
    constructor
    · rintro ⟨i, i1, i2⟩
      rw [← i2]
      exact (m3.2.2 i i1).2
    · have : ∀ i, i < m → In k f (od i) := by
        intro i
        induction i using Nat.strongRecOn with
        | _ i ih =>
          intro hi
          rcases Nat.lt_or_ge i r with g | g
          · exact m5 _ (hlt i hi) (t5.2.1 i g).1
          · obtain ⟨a1, a2, a3, a4, -⟩ := t5.2.2.2.2.1 i g hi
            obtain ⟨j, j1, j2⟩ := ih (pi i) a2 (by omega)
            exact m6 j _ j1 (by rw [j2]; exact a3) (hlt i hi) a4
      rintro ⟨i, i1, i2⟩
      rw [← i2]
      exact this i i1
  have hN' := hN.sc m4.sc
  have u2 : ∀ i, u' 2 i = u 2 i := fun i => m4 2 i (by decide)
  have J' : Jx (da d 100 0) q (n + 1) (cB d c') (mB q z u' w) := ⟨d, c', v, u', w, z, rfl, rfl, rfl, R'.uw u2 (fun _ => rfl), hN', (hI.up).uw u2⟩
  rw [if_pos hv, if_pos hv, qa_100_9 hF hX, b1_s, qa_100_0 hF hX, b1_s, qa_100_1 hF hX, b1_s, qa_100_2 hF hX, b1_s, qt_117 hF, b1_s, t1, b2_s, mtg, b1_s, m1, b2_s]
  have key := zlp (F := fun k i (s : Nat) => (fX10_dead_29 k (da d 100 0) (v1 - nI s) i (cB d c'), fX11_dead_14 k q v1 (nI s) i (mB q z u' w))) (N := v 9 0)
    (fun _ _ => True)
    (fun y => ∃ r, y = (some (r, cB d c'), some (r, mB q z u' w)))
    (by
      intro k i s hi _
      obtain ⟨k0, -, -, k7, -⟩ := hT.k hi
      haveI := Classical.propDecidable (In m od i)
      have E1 : fX10_dead_29 (k + 1) (da d 100 0) (v1 - nI s) (nI i) (cB d c') = if v 7 i = 0 then (if In m od i then fX10_dead_29 k (da d 100 0) (v1 - nI s) (nI (i + 1)) (cB d c') else (if nI s = v1 then some (nI i, cB d c') else fX10_dead_29 k (da d 100 0) (v1 - nI (s + 1)) (nI (i + 1)) (cB d c'))) else fX10_dead_29 k (da d 100 0) (v1 - nI s) (nI (i + 1)) (cB d c') := by
        rw [fX10_dead_29, qa_100_0 hF hX', b1_s, qt_101 hF, b1_s, e_size R', b2_s, nI_ifle (by omega) (by omega), if_neg (by omega), qa_100_0 hF hX', b1_s, qt_101 hF, b1_s, e_find R' hb hi k7, b2_s, i_sub1, nI_1, nI_1]
        by_cases e7 : v 7 i = 0
        · rw [if_pos e7, if_pos e7, oe_1, qa_100_9 hF hX', b1_s, qt_117 hF, b1_s, e_has1 R' hb t3 hi, b2_s]
          by_cases ein : In m od i
          · rw [if_pos ein, if_pos ein, if_neg (show ¬ (1 : Int32) = 0 by decide)]
          · rw [if_neg ein, if_neg ein, if_pos rfl]
            by_cases es : nI s = v1
            · rw [if_pos es, if_pos (i_sub0.mpr es)]
            · rw [if_neg es, if_neg (fun h => es (i_sub0.mp h))]
        · rw [if_neg e7, if_neg e7, oe_0]
      have E2 : fX11_dead_14 (k + 1) q v1 (nI s) (nI i) (mB q z u' w) = if v 7 i = 0 then (if In m od i then fX11_dead_14 k q v1 (nI s) (nI (i + 1)) (mB q z u' w) else (if nI s = v1 then some (nI i, mB q z u' w) else fX11_dead_14 k q v1 (nI (s + 1)) (nI (i + 1)) (mB q z u' w))) else fX11_dead_14 k q v1 (nI s) (nI (i + 1)) (mB q z u' w) := by
        rw [fX11_dead_14, mG9, b1_s, hN'.k9, nI_ifle (by omega) (by omega), if_neg (by omega), mA7, b1_s, mX7, mI_n (by omega) (by decide), b1_s, hN'.k7, nI_if0 (by omega), nI_1, nI_1]
        by_cases e7 : v 7 i = 0
        · rw [if_pos e7, if_pos e7, mA47, b1_s, mX47, mI_n (by omega) (by decide), b1_s]
          by_cases ein : In m od i
          · rw [if_pos ein, (m2.2 i (by omega)).1 ((hiff i).mpr ein), if_neg (show ¬ (1 : Int32) = 0 by decide)]
          · rw [if_neg ein, (m2.2 i (by omega)).2 (fun h => ein ((hiff i).mp h)), if_pos rfl]
        · rw [if_neg e7, if_neg e7]
      show (∃ s', (fX10_dead_29 (k + 1) (da d 100 0) (v1 - nI s) (nI i) (cB d c'), fX11_dead_14 (k + 1) q v1 (nI s) (nI i) (mB q z u' w)) = _ ∧ _) ∨ ∃ r, (fX10_dead_29 (k + 1) (da d 100 0) (v1 - nI s) (nI i) (cB d c'), fX11_dead_14 (k + 1) q v1 (nI s) (nI i) (mB q z u' w)) = _
      rw [E1, E2]
      by_cases e7 : v 7 i = 0
      rotate_left
      · rw [if_neg e7, if_neg e7]
        exact Or.inl ⟨s, rfl, trivial⟩
      rw [if_pos e7, if_pos e7]
      by_cases ein : In m od i
      · rw [if_pos ein, if_pos ein]
        exact Or.inl ⟨s, rfl, trivial⟩
      rw [if_neg ein, if_neg ein]
      by_cases es : nI s = v1
      · rw [if_pos es, if_pos es]
        exact Or.inr ⟨nI i, rfl⟩
      · rw [if_neg es, if_neg es]
        exact Or.inl ⟨s + 1, rfl, trivial⟩)
    (by
      intro k s _
      refine ⟨-1, ?_⟩
      show (fX10_dead_29 (k + 1) (da d 100 0) (v1 - nI s) (nI (v 9 0)) (cB d c'), fX11_dead_14 (k + 1) q v1 (nI s) (nI (v 9 0)) (mB q z u' w)) = _
      rw [fX10_dead_29, qa_100_0 hF hX', b1_s, qt_101 hF, b1_s, e_size R', b2_s, if_pos (Int32.le_refl _), fX11_dead_14, mG9, b1_s, hN'.k9, if_pos (Int32.le_refl _)])
  obtain ⟨r, hr⟩ := key (v 9 0) 100000 0 0 (by omega) (by omega) trivial
  have h1 := congrArg Prod.fst hr
  have h2 := congrArg Prod.snd hr
  dsimp only at h1 h2
  rw [show v1 - nI 0 = v1 from Int32.sub_zero v1] at h1
  exact ⟨r, _, _, h1, h2, rfl, J'⟩
end SD
