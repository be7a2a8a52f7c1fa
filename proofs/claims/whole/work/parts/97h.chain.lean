section WC
variable {v : Nu} {m r t n k x b : Nat} {od dp pi f dl : Nat → Nat} {bf : Nat → Option Nat}
theorem LIs.dpl (h : LIs v r m m od bf dp pi) : ∀ i, i < m → dp (od i) ≤ i := by
  intro i
  induction i using Nat.strongRecOn with
  | _ i ih =>
    intro hi
    by_cases e : i < r
    · rw [(h.2.1 i e).2.2]; exact Nat.zero_le _
    · obtain ⟨-, a2, -, -, -, a6, -⟩ := h.2.2.2.2.1 i (by omega) hi
      have := ih (pi i) a2 (by omega)
      omega
/-- what stands before t -/
theorem LIs.ancIn (h : LIs v r m m od bf dp pi) (ht : In m od t) : ∀ k x, anc bf t k x → In m od x ∧ dp x + k = dp t := by
  intro k
  induction k with
  | zero =>
    intro x hx
    have e : x = t := hx
    rw [e]
    exact ⟨ht, rfl⟩
  | succ k ih =>
    rintro x ⟨s, s1, s2⟩
    obtain ⟨⟨i, i1, i2⟩, hd⟩ := ih s s1
    have hr : r ≤ i := by
      rcases Nat.lt_or_ge i r with g | g
      · rw [← i2, (h.2.1 i g).2.1] at s2
        cases s2
      · exact g
    obtain ⟨a1, a2, a3, a4, a5, a6, a7⟩ := h.2.2.2.2.1 i hr i1
    rw [← i2, a5] at s2
    have e := Option.some.inj s2
    rw [← i2] at hd
    exact ⟨⟨pi i, by omega, e⟩, by rw [← e]; omega⟩
theorem LIs.ancEx (h : LIs v r m m od bf dp pi) (ht : In m od t) : ∀ k, k ≤ dp t → ∃ x, anc bf t k x := by
  intro k
  induction k with
  | zero => intro _; exact ⟨t, rfl⟩
  | succ k ih =>
    intro hk
    obtain ⟨s, s1⟩ := ih (by omega)
    obtain ⟨⟨i, i1, i2⟩, hd⟩ := h.ancIn ht k s s1
    have hr : r ≤ i := by
      rcases Nat.lt_or_ge i r with g | g
      · have := (h.2.1 i g).2.2
        rw [i2] at this
        omega
      · exact g
    obtain ⟨a1, a2, a3, a4, a5, a6, a7⟩ := h.2.2.2.2.1 i hr i1
    exact ⟨od (pi i), s, s1, by rw [← i2]; exact a5⟩
theorem anc.fn : ∀ k x y, anc bf t k x → anc bf t k y → x = y := by
  intro k
  induction k with
  | zero =>
    intro x y hx hy
    exact Eq.trans (show x = t from hx) (show y = t from hy).symm
  | succ k ih =>
    rintro x y ⟨s, s1, s2⟩ ⟨s', s3, s4⟩
    rw [ih s' s s3 s1, s2] at s4
    exact Option.some.inj s4
theorem LIs.there (hT : iT v) (hlt : ∀ i, i < m → od i < v 9 0) (h : LIs v r m m od bf dp pi) (hx : In m od x) : x < v 9 0 ∧ v 7 x = 0 := by
  obtain ⟨i, i1, i2⟩ := hx
  rw [← i2]
  refine ⟨hlt i i1, ?_⟩
  rcases Nat.lt_or_ge i r with g | g
  · exact hT.rt (hlt i i1) (h.2.1 i g).1
  · exact (h.2.2.2.2.1 i g i1).2.2.2.1
/-- the step back is a step -/
theorem LIs.ancGE (hT : iT v) (hlt : ∀ i, i < m → od i < v 9 0) (h : LIs v r m m od bf dp pi) (hx : In m od x) (hb : bf x = some b) : GE v b x := by
  obtain ⟨i, i1, i2⟩ := hx
  have hr : r ≤ i := by
    rcases Nat.lt_or_ge i r with g | g
    · rw [← i2, (h.2.1 i g).2.1] at hb
      cases hb
    · exact g
  obtain ⟨a1, a2, a3, a4, a5, a6, a7⟩ := h.2.2.2.2.1 i hr i1
  rw [← i2, a5] at hb
  rw [← Option.some.inj hb, ← i2]
  exact a3
theorem LIs.ancPt (hT : iT v) (hlt : ∀ i, i < m → od i < v 9 0) (h : LIs v r m m od bf dp pi) (ht : In m od t) : ∀ k x, anc bf t k x → Pt v t k x := by
  intro k
  induction k with
  | zero => intro x hx; exact hx
  | succ k ih =>
    rintro x ⟨s, s1, s2⟩
    have hs := (h.ancIn ht k s s1).1
    obtain ⟨c1, c2⟩ := h.there hT hlt hs
    exact ⟨s, h.ancGE hT hlt hs s2, c1, c2, ih s s1⟩
theorem LIs.far (hT : iT v) (hlt : ∀ i, i < m → od i < v 9 0) (h : LIs v r m m od bf dp pi) : ∀ k x, In m od x → Pt v t k x → dp t ≤ dp x + k := by
  intro k
  induction k with
  | zero =>
    intro x hx hp
    have e : x = t := hp
    rw [e]; exact Nat.le_refl _
  | succ k ih =>
    rintro x ⟨i, i1, i2⟩ ⟨y, y1, y2, y3, y4⟩
    rw [← i2] at y1
    have := h.dstep i1 y1 y2 y3
    have := ih y (h.2.2.2.2.2.2 i y i1 i1 y1 y2 y3) y4
    rw [i2] at *
    omega
/-- the reference's number of what stands k before t -/
theorem why_dl (hT : iT v) (hlt : ∀ i, i < m → od i < v 9 0) (h : LIs v r m m od bf dp pi) (hQ : QI v t n n f dl) (ht : In m od t) (hx : anc bf t k x) : In n f x ∧ dl x = k := by
  obtain ⟨c1, c2⟩ := h.ancIn ht k x hx
  obtain ⟨c3, c4⟩ := h.there hT hlt c1
  obtain ⟨d1, d2⟩ := hQ.least k x c3 c4 (h.ancPt hT hlt ht k x hx)
  refine ⟨d1, ?_⟩
  obtain ⟨i, i1, i2⟩ := d1
  have hp := (hQ.2.2.1 i i1).2.2
  rw [i2] at hp
  have := h.far hT hlt _ x c1 hp
  omega
theorem LIs.kidIn (h : LIs v r m m od bf dp pi) : ∀ x p, In m od x → bf x = some p → In m od p := by
  rintro x p ⟨i, i1, i2⟩ hb
  have hr : r ≤ i := by
    rcases Nat.lt_or_ge i r with g | g
    · rw [← i2, (h.2.1 i g).2.1] at hb
      cases hb
    · exact g
  obtain ⟨a1, a2, a3, a4, a5, a6, a7⟩ := h.2.2.2.2.1 i hr i1
  rw [← i2, a5] at hb
  exact ⟨pi i, by omega, Option.some.inj hb⟩
theorem QI.pt (hQ : QI v t n n f dl) (hx : In n f x) : Pt v t (dl x) x := by
  obtain ⟨i, i1, i2⟩ := hx
  have hp := (hQ.2.2.1 i i1).2.2
  rw [i2] at hp
  exact hp
/-- the root that the reference takes is the one of the class -/
theorem why_root (hT : iT v) (hlt : ∀ i, i < m → od i < v 9 0) (hinj : ∀ a b, a < m → b < m → od a = od b → a = b) (h : LIs v r m m od bf dp pi) (hQ : QI v t n n f dl) (ht : In m od t) (hB : BR v n f dl (v 9 0) (some b)) : anc bf t (dp t) b := by
  obtain ⟨b1, b2, b3, b4⟩ := hB
  obtain ⟨x, hx⟩ := h.ancEx ht (dp t) (Nat.le_refl _)
  obtain ⟨⟨s, s1, s2⟩, c2⟩ := h.ancIn ht _ x hx
  have hs : s < r := by
    rcases Nat.lt_or_ge s r with g | g
    · exact g
    · have := (h.2.2.2.2.1 s g s1).2.2.2.2.2.1
      rw [s2] at this
      omega
  have hx2 : v 0 x = 2 := by rw [← s2]; exact (h.2.1 s hs).1
  obtain ⟨d1, d2⟩ := why_dl hT hlt h hQ ht hx
  obtain ⟨j, j1, j2⟩ := h.2.2.2.1 b b1 b2
  have hm := h.1
  have hpb := hQ.pt b3
  have hfar := h.far hT hlt _ b ⟨j, by omega, j2⟩ hpb
  have hdb : dp b = 0 := by rw [← j2]; exact (h.2.1 j j1).2.2
  have hle := b4 x (by rw [← s2]; exact hlt s s1) hx2 d1
  have hdl : dl b = dp t := by omega
  have hbx : b ≤ x := by omega
  by_cases e : b = x
  · rw [e]; exact hx
  exfalso
  have hjs : j < s := by
    rcases Nat.lt_or_ge j s with g | g
    · exact g
    · by_cases e2 : j = s
      · rw [e2, s2] at j2
        exact absurd j2.symm e
      · have := h.2.2.1 s j (by omega) j1
        omega
  exact h.least hinj h.kidIn (dp t) j s hjs s1 (by rw [j2, ← hdl]; exact hpb) (by rw [s2]; exact hx) (fun k' x' hx' => (h.ancIn ht k' x' hx').1)
/-- so is each next -/
theorem why_next (hT : iT v) (hlt : ∀ i, i < m → od i < v 9 0) (hinj : ∀ a b, a < m → b < m → od a = od b → a = b) (h : LIs v r m m od bf dp pi) (hQ : QI v t n n f dl) (ht : In m od t) (hx : anc bf t (k + 1) x) : ∃ x', anc bf t k x' ∧ x' < v 9 0 ∧ v 7 x' = 0 ∧ GE v x x' ∧ In n f x' ∧ dl x' = k ∧ ∀ y, y < x' → v 7 y = 0 → In n f y → dl y = k → ¬ GE v x y := by
  obtain ⟨⟨s, s1, s2⟩, -⟩ := h.ancIn ht _ x hx
  obtain ⟨x', x1, x2⟩ := hx
  obtain ⟨c1, c2⟩ := h.ancIn ht k x' x1
  obtain ⟨c3, c4⟩ := h.there hT hlt c1
  obtain ⟨d1, d2⟩ := why_dl hT hlt h hQ ht x1
  refine ⟨x', x1, c3, c4, h.ancGE hT hlt c1 x2, d1, d2, fun y hy h7 hin hd hg => ?_⟩
  obtain ⟨s', s3, s4⟩ := c1
  obtain ⟨b, b1, b2⟩ := h.push2 hinj s1 s3 (by rw [s4, s2]; exact x2) (by rw [s2]; exact hg) (by rw [s4]; exact hy) (by omega) h7
  have hp := hQ.pt hin
  rw [hd] at hp
  exact h.least hinj h.kidIn k b s' b1 s3 (by rw [b2]; exact hp) (by rw [s4]; exact x1) (fun k' x' hx' => (h.ancIn ht k' x' hx').1)
end WC
