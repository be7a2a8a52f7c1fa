section WT
variable {d d' : AD} {c c' : CH} {v v' : Nu} {u u' : Mu} {w w' : Me} {n m r t p k l : Nat} {od : Nat → Nat}
theorem RC.lt (R : RC d c v u w) (hl : l < v 24 0) : lvd d 4 l ∧ cQ c 104 0 l = some (4, l) ∧ LF c v l := R.2.2.2.2.1.2.1 l hl
theorem gl_kind (R : RC d c v u w) (hl : l < v 24 0) : gI 0 0 (da d 4 l) (cB d c) = some (nI (v 14 l)) := by rw [cgI (t := 0) (R.lt hl).1 rfl, (R.lt hl).2.2.1]
theorem gl_from (R : RC d c v u w) (hl : l < v 24 0) : gI 0 1 (da d 4 l) (cB d c) = some (nI (v 16 l)) := by rw [cgI (t := 0) (R.lt hl).1 rfl, (R.lt hl).2.2.2.1]
theorem gl_to (R : RC d c v u w) (hl : l < v 24 0) : gI 0 2 (da d 4 l) (cB d c) = some (nI (v 15 l)) := by rw [cgI (t := 0) (R.lt hl).1 rfl, (R.lt hl).2.2.2.2.1]
theorem gl_aboutA (R : RC d c v u w) (hl : l < v 24 0) : gA 0 3 (da d 4 l) (cB d c) = some (da d 1 (v 17 l)) := cgA (R.lt hl).1 rfl (R.lt hl).2.2.2.2.2.1
theorem gl_aboutP (R : RC d c v u w) (hl : l < v 24 0) : gP 0 3 (da d 4 l) (cB d c) = some (some (da d 1 (v 17 l))) := by rw [cgP (t := 0) (R.lt hl).1 rfl, (R.lt hl).2.2.2.2.2.1]; rfl
theorem gl_weight (R : RC d c v u w) (hl : l < v 24 0) : gI 0 4 (da d 4 l) (cB d c) = some (nI (v 18 l)) := by rw [cgI (t := 0) (R.lt hl).1 rfl, (R.lt hl).2.2.2.2.2.2.1]
theorem gl_target (R : RC d c v u w) (hl : l < v 24 0) : gP 0 5 (da d 4 l) (cB d c) = some (if v 19 l = 0 then none else some (da d 1 (v 19 l - 1))) := by
  rw [cgP (t := 0) (R.lt hl).1 rfl, (R.lt hl).2.2.2.2.2.2.2.1]
  simp only [qe]
  by_cases h : v 19 l = 0
  · rw [if_pos h, if_pos h]; rfl
  · rw [if_neg h, if_neg h]; rfl
theorem gl_place (R : RC d c v u w) (hl : l < v 24 0) : gI 0 6 (da d 4 l) (cB d c) = some (dv 20 (v 20 l)) := by rw [cgI (t := 0) (R.lt hl).1 rfl, (R.lt hl).2.2.2.2.2.2.2.2.1]
theorem gl_walk (R : RC d c v u w) (hl : l < v 24 0) : gP 0 7 (da d 4 l) (cB d c) = some (if v 21 l = 0 then none else some (da d 5 (v 21 l - 1))) := by
  rw [cgP (t := 0) (R.lt hl).1 rfl, (R.lt hl).2.2.2.2.2.2.2.2.2.1]
  simp only [qe]
  by_cases h : v 21 l = 0
  · rw [if_pos h, if_pos h]; rfl
  · rw [if_neg h, if_neg h]; rfl
theorem gl_told (R : RC d c v u w) (hl : l < v 24 0) : gI 0 8 (da d 4 l) (cB d c) = some (nI (v 22 l)) := by rw [cgI (t := 0) (R.lt hl).1 rfl, (R.lt hl).2.2.2.2.2.2.2.2.2.2.1]
theorem gl_under (R : RC d c v u w) (hl : l < v 24 0) : gI 0 9 (da d 4 l) (cB d c) = some (nI (v 23 l)) := by rw [cgI (t := 0) (R.lt hl).1 rfl, (R.lt hl).2.2.2.2.2.2.2.2.2.2.2]
/-- a letter has come -/
theorem RC.came (R : RC d c v u w) (hl : l < v 24 0) : pZ 0 9 (da d 4 l) 0 (cB d c) = some (cB d (kwI 4 l 9 0 c)) ∧ RC d (kwI 4 l 9 0 c) (zu v 23 l 0) u w := by
  obtain ⟨l1, -, -⟩ := R.lt hl
  refine ⟨cpZ R.1.1 l1 rfl (Or.inl rfl), ?_⟩
  obtain ⟨R0, R1, R2, R3, R4, R5, R6, R7, R8⟩ := R
  have hs : ∀ k, k ≠ 4 → sm k c (kwI 4 l 9 0 c) := fun k hk => sm.rfl.I hk
  refine ⟨R0.wI l1, R1, R2.cg (fun _ _ _ => rfl) (fun _ _ => rfl), R3.cg (hs _ (by decide)) (hs _ (by decide)) (hs _ (by decide)) (hs _ (by decide)) (hs _ (by decide)) (hs _ (by decide)) (hs _ (by decide)) (fun _ _ _ => Iff.rfl) (fun k i hk => zu_n (by omega)) (fun _ => rfl) (fun _ => rfl), ⟨by rw [zu_n (by omega)]; exact R4.1, fun x hx => ?_, fun x hx => ?_⟩, R5.cg (hs _ (by decide)) (hs _ (by decide)) (hs _ (by decide)) (fun _ => Iff.rfl) (fun k i hk => zu_n (by omega)), R6.cg (fun k hk => hs k (by omega)) (hs _ (by decide)) rfl (fun _ _ _ => Iff.rfl) (fun k i hk => zu_n (by omega)) (fun _ _ _ _ _ => ⟨zu_n (by omega), zu_n (by omega)⟩), R7.cg (hs _ (by decide)) (hs _ (by decide)) (hs _ (by decide)) rfl rfl (fun k i hk => zu_n (by omega)), R8.cg (fun k hk => hs k (by omega)) (by rw [zu_n (by omega)]; exact Nat.le_refl _)⟩
  · rw [zu_n (by omega)] at hx
    obtain ⟨y1, y2, z0, z1, z2, z3', z4, z5, z6, z7, z8, z9⟩ := R4.2.1 x hx
    refine ⟨y1, y2, ?_⟩
    by_cases e : x = l
    · subst e
      refine ⟨(z3_n (by omega)).trans (z0.trans (by rw [zu_n (by omega)])), (z3_n (by omega)).trans (z1.trans (by rw [zu_n (by omega)])), (z3_n (by omega)).trans (z2.trans (by rw [zu_n (by omega)])), z3'.trans (by rw [zu_n (by omega)]), (z3_n (by omega)).trans (z4.trans (by rw [zu_n (by omega)])), z5.trans (by rw [zu_n (by omega)]), (z3_n (by omega)).trans (z6.trans (by rw [zu_n (by omega)])), z7.trans (by rw [zu_n (by omega)]), (z3_n (by omega)).trans (z8.trans (by rw [zu_n (by omega)])), z3_s.trans (by rw [zu_s]; rfl)⟩
    · refine ⟨(z3_n (by omega)).trans (z0.trans (by rw [zu_n (by omega)])), (z3_n (by omega)).trans (z1.trans (by rw [zu_n (by omega)])), (z3_n (by omega)).trans (z2.trans (by rw [zu_n (by omega)])), z3'.trans (by rw [zu_n (by omega)]), (z3_n (by omega)).trans (z4.trans (by rw [zu_n (by omega)])), z5.trans (by rw [zu_n (by omega)]), (z3_n (by omega)).trans (z6.trans (by rw [zu_n (by omega)])), z7.trans (by rw [zu_n (by omega)]), (z3_n (by omega)).trans (z8.trans (by rw [zu_n (by omega)])), (z3_n (by omega)).trans (z9.trans (by rw [zu_n (by omega)]))⟩
  · rw [zu_n (by omega)] at hx
    exact R4.2.2 x hx
theorem e_wsize (R : RC d c v u w) : fX7_size (da d 105 0) (cB d c) = some (nI (v 29 0), cB d c) := by
  unfold fX7_size
  rw [cgI (t := 7) (f105 R.2.1) rfl, b1_s, R.2.2.2.2.2.1.1]
theorem e_wat (R : RC d c v u w) (hb : v 29 0 ≤ 16) (hk : k < v 29 0) : ∃ q, fX7_at (da d 105 0) (nI k) (cB d c) = some (some (da d 10 q), cB d c) ∧ lvd d 10 q ∧ cQ c 106 0 k = some (10, q) ∧ gA 8 0 (da d 10 q) (cB d c) = some (da d 1 (v 26 k)) ∧ gA 8 1 (da d 10 q) (cB d c) = some (da d 1 (v 27 k)) ∧ gP 8 0 (da d 10 q) (cB d c) = some (some (da d 1 (v 26 k))) ∧ gP 8 1 (da d 10 q) (cB d c) = some (some (da d 1 (v 27 k))) ∧ gI 8 2 (da d 10 q) (cB d c) = some (nI (v 28 k)) := by
  obtain ⟨a1, a2, a3⟩ := R.2.2.2.2.2.1
  obtain ⟨q, q1, q2, q3, q4⟩ := a2 k hk
  have hF := R.2.1
  have hX := R.2.2.1
  have hl : lvd d 10 q := R.1.2.2 106 0 k _ q1
  refine ⟨q, ?_, hl, q1, cgA hl rfl q2, cgA hl rfl q3, by rw [cgP (t := 8) hl rfl, q2]; rfl, by rw [cgP (t := 8) hl rfl, q3]; rfl, by rw [cgI (t := 8) hl rfl, q4]⟩
  unfold fX7_at
  rw [if_neg (nI_pos (by omega)), cgI (t := 7) (f105 hF) rfl, b1_s, a1, nI_ifle (by omega) (by omega), if_neg (by omega), qa_105_0 hF hX, b1_s, qn_106 hF hX, b1_s, nI_ifle (by omega) (by omega), if_neg (by omega), b1_s, cxP (t := 18) (f106 hF) rfl (by rw [show cN c 106 0 = 16 from hX.2.2.2.2.1]; omega) (by omega), b1_s, q1]
  rfl
theorem e_watO {x : Int32} (R : RC d c v u w) (h : x < 0 ∨ nI (v 29 0) ≤ x) : fX7_at (da d 105 0) x (cB d c) = some (none, cB d c) := by
  unfold fX7_at
  by_cases h1 : x < 0
  · rw [if_pos h1]
  · rw [if_neg h1, cgI (t := 7) (f105 R.2.1) rfl, b1_s, R.2.2.2.2.2.1.1, if_pos (h.resolve_left h1)]
/-- the first that waits for t -/
def fst1 (v : Nu) (t : Nat) : Nat := fa_first (fun k => v 26 k == t) (v 29 0)
theorem e_firstFor (R : RC d c v u w) (hb : v 29 0 ≤ 16) (hw : ∀ k, k < v 29 0 → v 26 k < v 9 0) (ht : t < v 9 0) : fX7_firstFor (da d 105 0) (some (da d 1 t)) (cB d c) = some (if fst1 v t < v 29 0 then nI (fst1 v t) else -1, cB d c) := by
  have hF := R.2.1
  have hX := R.2.2.1
  have key := zlp (F := fun n k (_ : Unit) => fX7_firstFor_2 n (da d 105 0) (some (da d 1 t)) k (cB d c)) (N := v 29 0)
    (fun k _ => ∀ j, j < k → v 26 j ≠ t)
    (fun y => y = some (if fst1 v t < v 29 0 then nI (fst1 v t) else -1, cB d c))
    (by
      rintro n k - hk hP
      obtain ⟨q, -, hl, q1, q2, -⟩ := e_wat R hb hk
      have e1 : fX7_firstFor_2 (n + 1) (da d 105 0) (some (da d 1 t)) (nI k) (cB d c) = if v 26 k = t then some (nI k, cB d c) else fX7_firstFor_2 n (da d 105 0) (some (da d 1 t)) (nI (k + 1)) (cB d c) := by
        rw [fX7_firstFor_2, cgI (t := 7) (f105 hF) rfl, b1_s, R.2.2.2.2.2.1.1, nI_ifle (by omega) (by omega), if_neg (by omega), qa_105_0 hF hX, b1_s, qn_106 hF hX, b1_s, nI_ifle (by omega) (by omega), if_neg (by omega), b1_s, cxP (t := 18) (f106 hF) rfl (by rw [show cN c 106 0 = 16 from hX.2.2.2.2.1]; omega) (by omega), b1_s, q1]
        show oe (some (da d 10 q)) _ _ = _
        rw [oe_1, q2, b1_s, nI_1]
        by_cases e : v 26 k = t
        · rw [if_pos e, if_pos (by rw [e])]
        · rw [if_neg e, if_neg (fun h => e ((da_inj (R.t (hw k hk)).1 (R.t ht).1).mp (Option.some.inj h)))]
      by_cases e : v 26 k = t
      · right
        show fX7_firstFor_2 (n + 1) (da d 105 0) (some (da d 1 t)) (nI k) (cB d c) = _
        rw [e1, if_pos e]
        have hf : fst1 v t = k := by
          have h1 := fa_first_no (fun k => v 26 k == t) (v 29 0)
          have h2 := fa_first_yes (fun k => v 26 k == t) (v 29 0)
          have h3 := fa_first_le (fun k => v 26 k == t) (v 29 0)
          show fa_first (fun k => v 26 k == t) (v 29 0) = k
          rcases Nat.lt_trichotomy (fa_first (fun k => v 26 k == t) (v 29 0)) k with h | h | h
          · have := h2 (by omega)
            exact absurd (by simpa using this) (hP _ h)
          · exact h
          · have := h1 k h
            simp [e] at this
        rw [hf, if_pos hk]
      · left
        refine ⟨(), by rw [← if_neg (c := v 26 k = t) e (t := some (nI k, cB d c)) (e := fX7_firstFor_2 n (da d 105 0) (some (da d 1 t)) (nI (k + 1)) (cB d c))]; exact e1, fun j hj => ?_⟩
        by_cases e2 : j = k
        · rw [e2]; exact e
        · exact hP j (by omega))
    (by
      rintro n - hP
      show fX7_firstFor_2 (n + 1) (da d 105 0) (some (da d 1 t)) (nI (v 29 0)) (cB d c) = _
      rw [fX7_firstFor_2, cgI (t := 7) (f105 hF) rfl, b1_s, R.2.2.2.2.2.1.1, if_pos (Int32.le_refl _), if_neg]
      intro h
      have h2 := fa_first_yes (fun k => v 26 k == t) (v 29 0) h
      exact hP (fa_first (fun k => v 26 k == t) (v 29 0)) h (by simpa using h2))
  exact key (v 29 0) 100000 0 () (by omega) (by omega) (fun j hj => by omega)
/-- the waiting names change -/
theorem RC.wait (R : RC d c v u w) (hE : Ex d d') (hw : WF d' c') (hd : ∀ k x, k ≠ 10 → (lvd d' k x ↔ lvd d k x)) (hs : ∀ k, k ≠ 10 → k ≠ 105 → k ≠ 106 → sm k c c') (h5 : ∀ i, cQ c' 105 0 i = cQ c 105 0 i) (hN : cN c' 105 0 = cN c 105 0 ∧ cN c' 106 0 = cN c 106 0) (hv : ∀ k i, k < 26 ∨ 29 < k → v' k i = v k i) (hW : WA d' c' v') : RC d' c' v' u w := by
  obtain ⟨-, R1, R2, R3, R4, R5, R6, R7, R8⟩ := R
  refine ⟨hw, R1.ex hE, R2.cg (fun k i hk => ?_) (fun k hk => ?_), R3.cg (hs _ (by decide) (by decide) (by decide)) (hs _ (by decide) (by decide) (by decide)) (hs _ (by decide) (by decide) (by decide)) (hs _ (by decide) (by decide) (by decide)) (hs _ (by decide) (by decide) (by decide)) (hs _ (by decide) (by decide) (by decide)) (hs _ (by decide) (by decide) (by decide)) (fun k x hk => hd k x (by omega)) (fun k i hk => hv k i (by omega)) (fun _ => rfl) (fun _ => rfl), R4.cg (hs _ (by decide) (by decide) (by decide)) (hs _ (by decide) (by decide) (by decide)) (hs _ (by decide) (by decide) (by decide)) (fun x => hd 4 x (by decide)) (fun k i hk => hv k i (by omega)), hW, R6.cg (fun k hk => hs k (by omega) (by omega) (by omega)) (hs _ (by decide) (by decide) (by decide)) ((hs 100 (by decide) (by decide) (by decide)).1 0 10) (fun k x hk => hd k x (by omega)) (fun k i hk => hv k i (by omega)) (fun k x _ _ _ => ⟨hv _ _ (by omega), hv _ _ (by omega)⟩), R7.cg (hs _ (by decide) (by decide) (by decide)) (hs _ (by decide) (by decide) (by decide)) (hs _ (by decide) (by decide) (by decide)) ((hs 100 (by decide) (by decide) (by decide)).1 0 11) ((hs 100 (by decide) (by decide) (by decide)).1 0 12) (fun k i hk => hv k i (by omega)), R8.cg (fun k hk => hs k (by omega) (by omega) (by omega)) (by rw [hv _ _ (by omega)]; exact Nat.le_refl _)⟩
  · by_cases e : k = 105
    · rw [e]; exact h5 i
    · exact (hs k (by simp only [fixS] at hk; omega) e (by simp only [fixS] at hk; omega)).2.1 0 i
  · by_cases e : k = 105
    · rw [e]; exact hN.1
    · by_cases e2 : k = 106
      · rw [e2]; exact hN.2
      · exact (hs k (by omega) e e2).2.2.2 0
/-- a name waits -/
def wav (v : Nu) (t root p : Nat) : Nu := zu (zu (zu (zu v 26 (v 29 0) t) 27 (v 29 0) root) 28 (v 29 0) p) 29 0 (v 29 0 + 1)
theorem e_wadd {root : Nat} (R : RC d c v u w) (ht : t < v 9 0) (hr : root < v 9 0) (hb : v 29 0 < 16) : ∃ d' c', fX7_add (da d 105 0) (some (da d 1 t)) (some (da d 1 root)) (nI p) (cB d c) = some (1, cB d' c') ∧ Ex d d' ∧ RC d' c' (wav v t root p) u w := by
  obtain ⟨a1, a2, nq, a3⟩ := id R.2.2.2.2.2.1
  have hX := R.2.2.1
  have g10 := a3 nq (Nat.le_refl _)
  have hA := R.1.1
  have w1 := R.1.new (n := 0) (k0 := 10) (x0 := nq) (by decide) g10
  have e1 : Ex d (dnew 10 nq d) := Ex.rfl.new hA g10
  have L10 : lvd (dnew 10 nq d) 10 nq := (dnew_new (by decide)).2
  have hd : ∀ k x, lvd (dnew 10 nq d) k x ↔ lvd d k x ∨ (k = 10 ∧ x = nq) := fun k x => dnew_iff hA (by decide) g10
  have hF := R.2.1.ex e1
  obtain ⟨et, Lt⟩ := e1 1 t (R.t ht).1
  obtain ⟨er, Lr⟩ := e1 1 root (R.t hr).1
  have e105 := (e1 105 0 (f105 R.2.1)).1
  have e106 := (e1 106 0 (f106 R.2.1)).1
  have hA1 := w1.1
  have w4 := ((w1.wQ (i := 0) (q := some (1, t)) L10 (fun y hy => by cases hy; exact Lt)).wQ (i := 1) (q := some (1, root)) L10 (fun y hy => by cases hy; exact Lr)).wI (i := 2) (v := nI p) L10
  have w6 := (w4.wQ (i := v 29 0) (q := some (10, nq)) (f106 hF) (fun y hy => by cases hy; exact L10)).wI (i := 1) (v := nI (v 29 0 + 1)) (f105 hF)
  refine ⟨_, _, ?_, e1, R.wait e1 w6 (fun k x hk => by rw [hd]; exact ⟨fun h => h.elim id (by omega), Or.inl⟩) (fun k h1 h2 h3 => (((((sm.rfl.N h1).Q h1).Q h1).I h1).Q h3).I h2) (fun _ => rfl) ⟨rfl, rfl⟩ (fun k i hk => ?_) ⟨?_, fun k hk => ?_, nq + 1, fun x hx => ?_⟩⟩
  · unfold fX7_add fX8_init
    rw [cgI (t := 7) (f105 R.2.1) rfl, b1_s, a1, qa_105_0 R.2.1 hX, b1_s, qn_106 R.2.1 hX, b1_s, nI_iflt (by omega) (by omega), if_pos hb, b1_s, b1_s, cnO (t := 8) (k0 := 10) (x0 := nq) R.1 (by decide) g10 rfl, b2_s, ← et, ← er, cpP (t := 8) (r := some (da (dnew 10 nq d) 1 t)) (some (1, t)) hA1 L10 rfl rfl, b1_s, cpP (t := 8) (r := some (da (dnew 10 nq d) 1 root)) (some (1, root)) hA1 L10 rfl rfl, b1_s, cpI (t := 8) hA1 L10 rfl, b1_s, b2_s, ← e106, cyP (t := 18) (e := 8) (r := some (da (dnew 10 nq d) 10 nq)) (some (10, nq)) hA1 (f106 hF) rfl (by show v 29 0 < c.2.2.2 106 0; rw [show c.2.2.2 106 0 = 16 from hX.2.2.2.2.1]; omega) (by omega) rfl (fun y hy => by cases hy; exact ⟨L10, rfl⟩), b1_s, ← e105, cgI (t := 7) (f105 hF) rfl, b1_s, show cI (kwQ 106 0 (v 29 0) (some (10, nq)) (kwI 10 nq 2 (nI p) (kwQ 10 nq 1 (some (1, root)) (kwQ 10 nq 0 (some (1, t)) (kwN 10 nq 0 c))))) 105 0 1 = nI (v 29 0) from a1, nI_1, cpI (t := 7) hA1 (f105 hF) rfl, b1_s]
    rfl
  · simp only [wav]
    rw [zu_n (by omega), zu_n (by omega), zu_n (by omega), zu_n (by omega)]
  · simp only [wav]
    rw [zu_s]
    rfl
  · have ew : wav v t root p 29 0 = v 29 0 + 1 := zu_s
    rw [ew] at hk
    by_cases e : k = v 29 0
    · subst e
      refine ⟨nq, z3_s (f := c.2.2.1), ?_, ?_, ?_⟩
      · simp [cQ, kwQ, kwI, kwN, z3, wav, zu]
      · simp [cQ, kwQ, kwI, kwN, z3, wav, zu]
      · simp [cI, kwQ, kwI, kwN, z3, wav, zu]
    · obtain ⟨q, q1, q2, q3, q4⟩ := a2 k (by omega)
      have hne : q ≠ nq := fun h => by rw [h] at q1; exact g10 (R.1.2.2 106 0 k _ q1)
      refine ⟨q, (z3_n (f := c.2.2.1) (by omega)).trans q1, ?_, ?_, ?_⟩
      · simp [cQ, kwQ, kwI, kwN, z3, wav, zu, hne, e]; exact q2
      · simp [cQ, kwQ, kwI, kwN, z3, wav, zu, hne, e]; exact q3
      · simp [cI, kwQ, kwI, kwN, z3, wav, zu, hne, e]; exact q4
  · rw [hd]
    exact fun h => h.elim (a3 x (by omega)) (by omega)
/-- one waits no more -/
def wrv (v : Nu) (i : Nat) : Nu := fun k j => if 26 ≤ k ∧ k ≤ 28 ∧ i ≤ j ∧ j + 1 < v 29 0 then v k (j + 1) else if k = 29 ∧ j = 0 then v 29 0 - 1 else v k j
theorem e_wremove {i : Nat} (R : RC d c v u w) (hi : i < v 29 0) (hb : v 29 0 ≤ 16) : ∃ c', fX7_remove (da d 105 0) (nI i) (cB d c) = some ((), cB d c') ∧ RC d c' (wrv v i) u w := by
  obtain ⟨a1, a2, a3⟩ := id R.2.2.2.2.2.1
  have hF := R.2.1
  have hX := R.2.2.1
  have hA := R.1.1
  have hN : cN c 106 0 = 16 := hX.2.2.2.2.1
  have key := zlp (F := fun n k (c' : CH) => fX7_remove_28 n (da d 105 0) (nI (v 29 0 - 1)) k (cB d c')) (N := v 29 0 - 1)
    (fun k c' => i ≤ k ∧ WF d c' ∧ (∀ k, k ≠ 106 → sm k c c') ∧ cN c' 106 0 = 16 ∧ ∀ j, j < v 29 0 → cQ c' 106 0 j = if i ≤ j ∧ j < k then cQ c 106 0 (j + 1) else cQ c 106 0 j)
    (fun y => ∃ c', y = some ((), cB d c') ∧ RC d c' (wrv v i) u w)
    (by
      rintro n k c' hk ⟨p0, p1, p2, p3, p4⟩
      left
      have e0 : cI c' 105 0 1 = nI (v 29 0) := ((p2 105 (by decide)).1 0 1).trans a1
      have e1 : cQ c' 105 0 0 = some (106, 0) := ((p2 105 (by decide)).2.1 0 0).trans hX.2.1.2.2.1
      obtain ⟨q, q1, -⟩ := a2 (k + 1) (by omega)
      have e2 : cQ c' 106 0 (k + 1) = some (10, q) := by rw [p4 _ (by omega), if_neg (by omega)]; exact q1
      have hl : lvd d 10 q := R.1.2.2 106 0 _ _ q1
      refine ⟨kwQ 106 0 k (some (10, q)) c', ?_, by omega, p1.wQ (f106 hF) (fun y hy => by cases hy; exact hl), fun k' hk' => (p2 k' hk').Q hk', p3, fun j hj => ?_⟩
      · show fX7_remove_28 (n + 1) (da d 105 0) (nI (v 29 0 - 1)) (nI k) (cB d c') = _
        rw [fX7_remove_28, nI_1, nI_ifle (by omega) (by omega), if_neg (by omega), cgA (t := 7) (f105 hF) rfl e1, b1_s]
        dsimp only
        rw [b1_s, cxP (t := 18) (f106 hF) rfl (by rw [p3]; omega) (by omega), b1_s, e2]
        show b1 (yP 18 8 (da d 106 0) (nI k) (some (da d 10 q)) (cB d c')) _ = _
        rw [cyP (t := 18) (e := 8) (r := some (da d 10 q)) (some (10, q)) hA (f106 hF) rfl (by rw [p3]; omega) (by omega) rfl (fun y hy => by cases hy; exact ⟨hl, rfl⟩), b1_s]
      · by_cases e : j = k
        · subst e
          rw [if_pos (by omega), q1]
          exact z3_s
        · have ev : cQ (kwQ 106 0 k (some (10, q)) c') 106 0 j = cQ c' 106 0 j := z3_n (by omega)
          rw [ev, p4 j hj]
          by_cases e3 : i ≤ j ∧ j < k
          · rw [if_pos e3, if_pos (by omega)]
          · rw [if_neg e3, if_neg (by omega)])
    (by
      rintro n c' ⟨p0, p1, p2, p3, p4⟩
      have e0 : cI c' 105 0 1 = nI (v 29 0) := ((p2 105 (by decide)).1 0 1).trans a1
      have e1 : cQ c' 105 0 0 = some (106, 0) := ((p2 105 (by decide)).2.1 0 0).trans hX.2.1.2.2.1
      have w5 := (p1.wI (i := 1) (v := nI (v 29 0 - 1)) (f105 hF)).wQ (i := v 29 0 - 1) (q := none) (f106 hF) (fun y hy => by cases hy)
      refine ⟨kwQ 106 0 (v 29 0 - 1) none (kwI 105 0 1 (nI (v 29 0 - 1)) c'), ?_, R.wait Ex.rfl w5 (fun _ _ _ => Iff.rfl) (fun k h1 h2 h3 => ((p2 k h3).I h2).Q h3) (fun i => (p2 105 (by decide)).2.1 0 i) ⟨(p2 105 (by decide)).2.2.2 0, by rw [hN]; exact p3⟩ (fun k i hk => ?_) ⟨?_, fun k hk => ?_, a3⟩⟩
      · show fX7_remove_28 (n + 1) (da d 105 0) (nI (v 29 0 - 1)) (nI (v 29 0 - 1)) (cB d c') = _
        rw [fX7_remove_28, if_pos (Int32.le_refl _), cgA (t := 7) (f105 hF) rfl e1, b1_s]
        dsimp only
        rw [cyP (t := 18) (e := 8) (r := none) none hA (f106 hF) rfl (by rw [p3]; omega) (by omega) rfl (fun y hy => by cases hy), b1_s, cpI (t := 7) hA (f105 hF) rfl, b1_s]
        rfl
      · simp only [wrv]
        rw [if_neg (by omega), if_neg (by omega)]
      · have : wrv v i 29 0 = v 29 0 - 1 := by simp [wrv]
        rw [this]
        rfl
      · have : wrv v i 29 0 = v 29 0 - 1 := by simp [wrv]
        rw [this] at hk
        have ev : cQ (kwQ 106 0 (v 29 0 - 1) none (kwI 105 0 1 (nI (v 29 0 - 1)) c')) 106 0 k = cQ c' 106 0 k := z3_n (by omega)
        have s10 := p2 10 (by decide)
        have z26 : ∀ f, 26 ≤ f ∧ f ≤ 28 → wrv v i f k = v f (if i ≤ k then k + 1 else k) := by
          intro f hf
          simp only [wrv]
          by_cases e : i ≤ k
          · rw [if_pos (by omega), if_pos e]
          · rw [if_neg (by omega), if_neg (by omega), if_neg e]
        obtain ⟨q, q1, q2, q3, q4⟩ := a2 (if i ≤ k then k + 1 else k) (by split <;> omega)
        refine ⟨q, ?_, ?_, ?_, ?_⟩
        · rw [ev, p4 k (by omega), ← q1]
          by_cases e : i ≤ k
          · rw [if_pos (by omega), if_pos e]
          · rw [if_neg (by omega), if_neg e]
        · rw [z26 26 (by omega), ← q2]; exact s10.2.1 q 0
        · rw [z26 27 (by omega), ← q3]; exact s10.2.1 q 1
        · rw [z26 28 (by omega), ← q4]; exact s10.1 q 2)
  unfold fX7_remove
  rw [cgI (t := 7) (f105 hF) rfl, b1_s, a1, if_neg (nI_pos (by omega)), show nI (v 29 0) - 1 = nI (v 29 0 - 1) from (by rw [show v 29 0 = (v 29 0 - 1) + 1 by omega, nI_pred]; rfl), nI_iflt (by omega) (by omega), if_neg (by omega), cgA (t := 7) (f105 hF) rfl hX.2.1.2.2.1, b1_s]
  dsimp only
  rw [cxN (t := 18) (f106 hF) rfl, b1_s, hN, nI_iflt (by omega) (by omega), if_pos (by omega)]
  exact key (v 29 0 - 1 - i) 100000 i c (by omega) (by omega) ⟨Nat.le_refl _, R.1, fun _ _ => sm.rfl, hN, fun j hj => by rw [if_neg (by omega)]⟩
end WT
