/-- from z to t in d steps -/
def Pt (v : Nu) (t : Nat) : Nat → Nat → Prop
  | 0, z => z = t
  | d + 1, z => ∃ y, GE v z y ∧ y < v 9 0 ∧ v 7 y = 0 ∧ Pt v t d y
/-- s is the k-th before t -/
def anc (bf : Nat → Option Nat) (t : Nat) : Nat → Nat → Prop
  | 0, s => s = t
  | k + 1, s => ∃ s', anc bf t k s' ∧ bf s' = some s
section PA
variable {v : Nu} {m r a s s' y t k : Nat} {od dp pi : Nat → Nat} {bf : Nat → Option Nat}
theorem LIs.mono (h : LIs v r m m od bf dp pi) : ∀ i2 i1, i1 ≤ i2 → i2 < m → dp (od i1) ≤ dp (od i2) := by
  obtain ⟨l1, l2, l3, l4, l5, l6, l7⟩ := h
  intro i2
  induction i2 using Nat.strongRecOn with
  | _ i2 ih =>
    intro i1 g1 g2
    by_cases e0 : i1 = i2
    · rw [e0]; exact Nat.le_refl _
    by_cases e1 : i1 < r
    · rw [(l2 i1 e1).2.2]
      exact Nat.zero_le _
    · obtain ⟨a1, a2, -, -, -, a6, -⟩ := l5 i1 (by omega) (by omega)
      obtain ⟨b1, b2, -, -, -, b6, -⟩ := l5 i2 (by omega) g2
      have : pi i1 ≤ pi i2 := by
        rcases l6 i1 i2 (by omega) (by omega) g2 with h | h
        · omega
        · omega
      have := ih (pi i2) b2 (pi i1) this (by omega)
      omega
theorem LIs.edge (h : LIs v r m m od bf dp pi) (ha : a < m) (hg : GE v (od a) y) (hy : y < v 9 0) (h7 : v 7 y = 0) : ∃ b, b < m ∧ od b = y ∧ (b < r ∨ (r ≤ b ∧ pi b ≤ a)) := by
  obtain ⟨b, b1, b2⟩ := h.2.2.2.2.2.2 a y ha ha hg hy h7
  refine ⟨b, b1, b2, ?_⟩
  by_cases e : b < r
  · exact Or.inl e
  · refine Or.inr ⟨by omega, ?_⟩
    rcases Nat.lt_or_ge a (pi b) with g | g
    · exact absurd (by rw [b2]; exact hg) ((h.2.2.2.2.1 b (by omega) b1).2.2.2.2.2.2 a g)
    · exact g
theorem LIs.dstep (h : LIs v r m m od bf dp pi) (ha : a < m) (hg : GE v (od a) y) (hy : y < v 9 0) (h7 : v 7 y = 0) : dp y ≤ dp (od a) + 1 := by
  obtain ⟨b, b1, b2, b3 | ⟨b3, b4⟩⟩ := h.edge ha hg hy h7
  · have := (h.2.1 b b3).2.2
    rw [b2] at this
    omega
  · have := (h.2.2.2.2.1 b b3 b1).2.2.2.2.2.1
    rw [b2] at this
    have := h.mono a (pi b) b4 ha
    omega
theorem LIs.kid (hinj : ∀ a b, a < m → b < m → od a = od b → a = b) (h : LIs v r m m od bf dp pi) (hs : s < m) (hs' : s' < m) (hb : bf (od s') = some (od s)) : r ≤ s' ∧ pi s' = s := by
  have hr : r ≤ s' := by
    rcases Nat.lt_or_ge s' r with g | g
    · rw [(h.2.1 s' g).2.1] at hb
      cases hb
    · exact g
  obtain ⟨a1, a2, a3, a4, a5, -⟩ := h.2.2.2.2.1 s' hr hs'
  rw [a5] at hb
  exact ⟨hr, hinj _ _ (by omega) hs (Option.some.inj hb)⟩
theorem LIs.push (hinj : ∀ a b, a < m → b < m → od a = od b → a = b) (h : LIs v r m m od bf dp pi) (has : a < s) (hs : s < m) (hs' : s' < m) (hb : bf (od s') = some (od s)) (hg : GE v (od a) y) (hy : y < v 9 0) (h7 : v 7 y = 0) : ∃ b, b < s' ∧ od b = y := by
  obtain ⟨k1, k2⟩ := h.kid hinj hs hs' hb
  obtain ⟨b, b1, b2, b3 | ⟨b3, b4⟩⟩ := h.edge (by omega) hg hy h7
  · exact ⟨b, by omega, b2⟩
  · refine ⟨b, ?_, b2⟩
    rcases Nat.lt_or_ge b s' with g | g
    · exact g
    · by_cases e : b = s'
      · rw [e] at b4; omega
      · rcases h.2.2.2.2.2.1 s' b k1 (by omega) b1 with g2 | g2
        · omega
        · omega
theorem LIs.push2 (hinj : ∀ a b, a < m → b < m → od a = od b → a = b) (h : LIs v r m m od bf dp pi) (hs : s < m) (hs' : s' < m) (hb : bf (od s') = some (od s)) (hg : GE v (od s) y) (hlt : y < od s') (hy : y < v 9 0) (h7 : v 7 y = 0) : ∃ b, b < s' ∧ od b = y := by
  obtain ⟨k1, k2⟩ := h.kid hinj hs hs' hb
  obtain ⟨b, b1, b2, b3 | ⟨b3, b4⟩⟩ := h.edge hs hg hy h7
  · exact ⟨b, by omega, b2⟩
  · refine ⟨b, ?_, b2⟩
    rcases Nat.lt_or_ge b s' with g | g
    · exact g
    · by_cases e : b = s'
      · rw [e] at b2; omega
      · rcases h.2.2.2.2.2.1 s' b k1 (by omega) b1 with g2 | g2
        · omega
        · omega
/-- no path of as many steps begins before -/
theorem LIs.least (hinj : ∀ a b, a < m → b < m → od a = od b → a = b) (h : LIs v r m m od bf dp pi) (hkid : ∀ x p, In m od x → bf x = some p → In m od p) : ∀ k a s, a < s → s < m → Pt v t k (od a) → anc bf t k (od s) → (∀ k' x, anc bf t k' x → In m od x) → False := by
  intro k
  induction k with
  | zero =>
    intro a s has hs h1 h2 _
    have := hinj a s (by omega) hs (h1.trans h2.symm)
    omega
  | succ k ih =>
    intro a s has hs h1 h2 h3
    obtain ⟨y, y1, y2, y3, y4⟩ := h1
    obtain ⟨x, x1, x2⟩ := h2
    obtain ⟨s', s1, s2⟩ := h3 k x x1
    obtain ⟨b, b1, b2⟩ := h.push hinj has hs s1 (by rw [s2]; exact x2) y1 y2 y3
    exact ih b s' b1 s1 (by rw [b2]; exact y4) (by rw [s2]; exact x1) h3
end PA
