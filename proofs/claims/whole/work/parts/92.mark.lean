/-- from x to y in one step -/
def GE (v : Nu) (x y : Nat) : Prop := (v 0 x = 3 ∧ v 5 x = y + 1) ∨ (v 0 x ≠ 3 ∧ (LEv v x y ∨ (v 0 x = 2 ∧ ((∃ l, l < v 24 0 ∧ v 23 l = 1 ∧ v 14 l = 0 ∧ v 19 l = x + 1 ∧ v 17 l = y) ∨ ∃ k, k < v 29 0 ∧ v 27 k = x ∧ v 26 k = y))))
/-- the class, while it searches -/
def TS (d : AD) (c0 c : CH) (v : Nu) (m : Nat) (od : Nat → Nat) (bf : Nat → Option Nat) (dp : Nat → Nat) (M : Nat → Bool) : Prop := Tr c0 c ∧ WF d c ∧ SR c 118 (v 9 0) m od ∧ (∀ n, n < 300 → cI c 121 0 n = if M n = true then 1 else 0) ∧ cI c 117 0 4 = nI (fb_ct M 300) ∧ ∀ x, In m od x → cQ c 122 0 x = (bf x).map (fun p => (1, p)) ∧ cI c 123 0 x = nI (dp x)
def Acc (d : AD) (c0 c : CH) (v : Nu) (m : Nat) (od : Nat → Nat) (bf : Nat → Option Nat) (dp : Nat → Nat) (Q : Nat → Prop) : Prop := ∃ M, TS d c0 c v m od bf dp M ∧ ∀ n, M n = true ↔ v 7 n = 0 ∧ Q n
section MK
variable {d : AD} {c0 c c' : CH} {v : Nu} {u : Mu} {w : Me} {m x y : Nat} {od dp : Nat → Nat} {bf : Nat → Option Nat} {Q Q' : Nat → Prop}
theorem Acc.cg (h : Acc d c0 c v m od bf dp Q) (hq : ∀ n, Q n ↔ Q' n) : Acc d c0 c v m od bf dp Q' := by
  obtain ⟨M, h1, h2⟩ := h
  exact ⟨M, h1, fun n => (h2 n).trans (and_congr Iff.rfl (hq n))⟩
theorem Acc.rv (R : RC d c0 v u w) (h : Acc d c0 c v m od bf dp Q) : RV d c v u w := by
  obtain ⟨M, h1, h2⟩ := h
  exact h1.1.rv R h1.2.1
theorem e_markThing (R : RC d c0 v u w) (hT : iT v) (h : Acc d c0 c v m od bf dp Q) (hy : y < v 9 0) : ∃ c', fX1_markNextThing (da d 117 0) (some (da d 1 y)) (cB d c) = some ((), cB d c') ∧ Acc d c0 c' v m od bf dp (fun n => Q n ∨ n = y) := by
  have hb := hT.1
  have h7 := (hT.k hy).2.2.2.1
  have RW := h.rv R
  have hF := RW.2.1
  have hX := RW.2.2.1
  obtain ⟨M, ⟨t1, t2, t3, t4, t5, t6⟩, hM⟩ := id h
  have hN : cN c 121 0 = 300 := hX.2.2.2.2.2.2.2.2.2.2.2.2.2.2.2.1
  have e : fX1_markNextThing (da d 117 0) (some (da d 1 y)) (cB d c) = if v 7 y = 0 then (if M y = true then some ((), cB d c) else some ((), cB d (kwI 117 0 4 (nI (fb_ct M 300 + 1)) (kwI 121 0 y 1 c)))) else some ((), cB d c) := by
    unfold fX1_markNextThing
    rw [oe_1, rg_there RW hy, b1_s, nI_if0 (by omega)]
    by_cases e7 : v 7 y = 0
    · rw [if_neg (by omega), if_pos e7, rg_num RW hy, b1_s, if_neg (nI_pos (by omega)), b1_s, qa_117_1 hF hX, b1_s, qn_121 hF hX, b1_s, nI_ifle (by omega) (by omega), if_neg (by omega), b1_s, b1_s, cxI (t := 14) (f121 hF) rfl (by rw [hN]; omega) (by omega), b1_s, t4 y (by omega)]
      by_cases em : M y = true
      · rw [if_pos em, if_neg (show ¬ (1 : Int32) = 0 by decide), if_pos em]
      · have e1 : cI (kwI 121 0 y 1 c) 117 0 4 = nI (fb_ct M 300) := by
          show z3 c.1 121 0 y 1 117 0 4 = _
          rw [z3_n (by omega)]
          exact t5
        rw [if_neg em, if_pos rfl, if_neg em, b1_s, b1_s, cyZ t2.1 (f121 hF) rfl (by rw [hN]; omega) (by omega), b1_s, nar1, cgI (t := 1) (f117 hF) rfl, b1_s, e1, nI_1, cpI (t := 1) t2.1 (f117 hF) rfl, b1_s]
    · rw [if_pos (by omega), if_neg e7]
  by_cases e7 : v 7 y = 0
  · rw [if_pos e7] at e
    by_cases em : M y = true
    · rw [if_pos em] at e
      exact ⟨c, e, h.cg (fun n => ⟨Or.inl, fun g => g.elim id (fun g => by rw [g]; exact ((hM y).mp em).2)⟩)⟩
    · rw [if_neg em] at e
      obtain ⟨M', hM'⟩ : ∃ M' : Nat → Bool, M' = fun n => if n = y then true else M n := ⟨_, rfl⟩
      have hy' : M' y = true := by rw [hM']; exact if_pos rfl
      have hn' : ∀ n, n ≠ y → M' n = M n := fun n hn => by rw [hM']; exact if_neg hn
      have hct : fb_ct M' 300 = fb_ct M 300 + 1 := by
        have := fb_ct_upd M true (i := y) (n := 300) (by omega)
        rw [if_neg em, if_pos rfl, Nat.add_zero] at this
        rw [hM', this]
      refine ⟨_, e, M', ⟨t1.trans ((Tr.I (by decide)).trans (Tr.I (by decide))), (t2.wI (f121 hF)).wI (f117 hF), t3.cg ((sm.rfl.I (by decide)).I (by decide)) ((sm.rfl.I (by decide)).I (by decide)) ((sm.rfl.I (by decide)).I (by decide)) (Nat.le_refl _), fun n hn => ?_, ?_, fun x hx => ?_⟩, fun n => ?_⟩
      · show z3 (z3 c.1 121 0 y 1) 117 0 4 (nI (fb_ct M 300 + 1)) 121 0 n = _
        rw [z3_n (by omega)]
        by_cases en : n = y
        · subst en
          rw [z3_s, if_pos hy']
        · rw [z3_n (by omega), hn' n en]
          exact t4 n hn
      · show z3 (z3 c.1 121 0 y 1) 117 0 4 (nI (fb_ct M 300 + 1)) 117 0 4 = _
        rw [z3_s, hct]
      · refine ⟨(t6 x hx).1, ?_⟩
        show z3 (z3 c.1 121 0 y 1) 117 0 4 (nI (fb_ct M 300 + 1)) 123 0 x = _
        rw [z3_n (by omega), z3_n (by omega)]
        exact (t6 x hx).2
      · by_cases en : n = y
        · rw [en]
          exact ⟨fun _ => ⟨e7, Or.inr rfl⟩, fun _ => hy'⟩
        · rw [hn' n en, hM n]
          exact ⟨fun g => ⟨g.1, Or.inl g.2⟩, fun g => ⟨g.1, g.2.resolve_right en⟩⟩
  · rw [if_neg e7] at e
    refine ⟨c, e, M, ⟨t1, t2, t3, t4, t5, t6⟩, fun n => (hM n).trans ⟨fun g => ⟨g.1, Or.inl g.2⟩, fun g => ⟨g.1, g.2.resolve_right (fun en => ?_)⟩⟩⟩
    rw [en] at g
    exact e7 g.1
theorem e_mark105 (R : RC d c0 v u w) (hT : iT v) (hW : iW v) (h : Acc d c0 c v m od bf dp Q) (hx : x < v 9 0) : ∃ c', fX1_markNext_105 100000 (da d 117 0) (da d 1 x) (some (da d 105 0)) 0 (cB d c) = some ((), cB d c') ∧ Acc d c0 c' v m od bf dp (fun n => Q n ∨ ∃ k, k < v 29 0 ∧ v 27 k = x ∧ v 26 k = n) := by
  have hb := hT.1
  have hb2 := hW.1
  have key := zlp (F := fun n k (c' : CH) => fX1_markNext_105 n (da d 117 0) (da d 1 x) (some (da d 105 0)) k (cB d c')) (N := v 29 0)
    (fun k c' => Acc d c0 c' v m od bf dp (fun n => Q n ∨ ∃ j, j < k ∧ v 27 j = x ∧ v 26 j = n))
    (fun y => ∃ c', y = some ((), cB d c') ∧ Acc d c0 c' v m od bf dp (fun n => Q n ∨ ∃ k, k < v 29 0 ∧ v 27 k = x ∧ v 26 k = n))
    (by
      rintro n k c' hk hA
      left
      have RW := hA.rv R
      have hF := RW.2.1
      obtain ⟨w1, w2, w3, w4, w5, w6⟩ := hW.2 k hk
      obtain ⟨qq, a1, a2, a3, a4, a5, a6, a7, a8⟩ := re_wat RW hb2 hk
      have e0 : fX1_markNext_105 (n + 1) (da d 117 0) (da d 1 x) (some (da d 105 0)) (nI k) (cB d c') = if v 27 k = x then (b2 (fX1_markNextThing (da d 117 0) (some (da d 1 (v 26 k))) (cB d c')) fun _ s15 => fX1_markNext_105 n (da d 117 0) (da d 1 x) (some (da d 105 0)) (nI (k + 1)) s15) else fX1_markNext_105 n (da d 117 0) (da d 1 x) (some (da d 105 0)) (nI (k + 1)) (cB d c') := by
        rw [fX1_markNext_105, b1_s, qt_105 hF, b1_s, re_wsize RW, b2_s, nI_ifle (by omega) (by omega), if_neg (by omega), qt_105 hF, b1_s, a1, b2_s, oe_1, a5, b1_s, nI_1]
        by_cases e : v 27 k = x
        · rw [if_pos (show some (da d 1 (v 27 k)) = some (da d 1 x) by rw [e]), if_pos e, a4, b1_s, qt_117 hF, b1_s]
        · rw [if_neg (fun hh => e ((da_inj (RW.t w4).1 (RW.t hx).1).mp (Option.some.inj hh))), if_neg e]
      by_cases e : v 27 k = x
      · obtain ⟨c2, b1', b2'⟩ := e_markThing R hT hA w1
        rw [if_pos e, b1', b2_s] at e0
        refine ⟨c2, e0, b2'.cg (fun n => ⟨fun g => ?_, fun g => ?_⟩)⟩
        · rcases g with (g | ⟨j, j1, j2⟩) | g
          · exact Or.inl g
          · exact Or.inr ⟨j, by omega, j2⟩
          · exact Or.inr ⟨k, by omega, e, g.symm⟩
        · rcases g with g | ⟨j, j1, j2, j3⟩
          · exact Or.inl (Or.inl g)
          · by_cases ej : j = k
            · rw [ej] at j3; exact Or.inr j3.symm
            · exact Or.inl (Or.inr ⟨j, by omega, j2, j3⟩)
      · rw [if_neg e] at e0
        refine ⟨c', e0, hA.cg (fun n => ⟨fun g => ?_, fun g => ?_⟩)⟩
        · rcases g with g | ⟨j, j1, j2⟩
          · exact Or.inl g
          · exact Or.inr ⟨j, by omega, j2⟩
        · rcases g with g | ⟨j, j1, j2, j3⟩
          · exact Or.inl g
          · by_cases ej : j = k
            · rw [ej] at j2; exact absurd j2 e
            · exact Or.inr ⟨j, by omega, j2, j3⟩)
    (by
      rintro n c' hA
      have RW := hA.rv R
      refine ⟨c', ?_, hA⟩
      show fX1_markNext_105 (n + 1) (da d 117 0) (da d 1 x) (some (da d 105 0)) (nI (v 29 0)) (cB d c') = _
      rw [fX1_markNext_105, b1_s, qt_105 RW.2.1, b1_s, re_wsize RW, b2_s, if_pos (Int32.le_refl _)])
  exact key (v 29 0) 100000 0 c (by omega) (by omega) (h.cg (fun n => ⟨Or.inl, fun g => g.elim id (fun ⟨j, j1, _⟩ => by omega)⟩))
theorem e_mark48 (R : RC d c0 v u w) (hT : iT v) (hL : iL v) (hW : iW v) (h : Acc d c0 c v m od bf dp Q) (hx : x < v 9 0) : ∃ c', fX1_markNext_48 100000 (da d 117 0) (da d 1 x) (some (da d 103 0)) (some (da d 105 0)) 0 (cB d c) = some ((), cB d c') ∧ Acc d c0 c' v m od bf dp (fun n => Q n ∨ (∃ l, l < v 24 0 ∧ v 23 l = 1 ∧ v 14 l = 0 ∧ v 19 l = x + 1 ∧ v 17 l = n) ∨ ∃ k, k < v 29 0 ∧ v 27 k = x ∧ v 26 k = n) := by
  have hb := hT.1
  have hb2 := hL.1
  have key := zlp (F := fun n k (c' : CH) => fX1_markNext_48 n (da d 117 0) (da d 1 x) (some (da d 103 0)) (some (da d 105 0)) k (cB d c')) (N := v 24 0)
    (fun k c' => Acc d c0 c' v m od bf dp (fun n => Q n ∨ ∃ l, l < k ∧ v 23 l = 1 ∧ v 14 l = 0 ∧ v 19 l = x + 1 ∧ v 17 l = n))
    (fun y => ∃ c', y = some ((), cB d c') ∧ Acc d c0 c' v m od bf dp (fun n => Q n ∨ (∃ l, l < v 24 0 ∧ v 23 l = 1 ∧ v 14 l = 0 ∧ v 19 l = x + 1 ∧ v 17 l = n) ∨ ∃ k, k < v 29 0 ∧ v 27 k = x ∧ v 26 k = n))
    (by
      rintro n k c' hk hA
      left
      have RW := hA.rv R
      have hF := RW.2.1
      obtain ⟨o1, o2, o3, o4, o5, o6, o7, o8, o9, -⟩ := hL.2.1 k hk
      have e0 : fX1_markNext_48 (n + 1) (da d 117 0) (da d 1 x) (some (da d 103 0)) (some (da d 105 0)) (nI k) (cB d c') = if v 23 k = 1 ∧ v 14 k = 0 ∧ v 19 k = x + 1 then (b2 (fX1_markNextThing (da d 117 0) (some (da d 1 (v 17 k))) (cB d c')) fun _ s15 => fX1_markNext_48 n (da d 117 0) (da d 1 x) (some (da d 103 0)) (some (da d 105 0)) (nI (k + 1)) s15) else fX1_markNext_48 n (da d 117 0) (da d 1 x) (some (da d 103 0)) (some (da d 105 0)) (nI (k + 1)) (cB d c') := by
        rw [fX1_markNext_48, b1_s, qt_103 hF, b1_s, re_psize RW, b2_s, nI_ifle (by omega) (by omega), if_neg (by omega), qt_103 hF, b1_s, re_pfind RW hb2 hk, b2_s, oe_1, rgl_under RW hk, b1_s, nI_if0 (by omega), nI_1]
        by_cases e23 : v 23 k = 0
        · rw [if_pos e23, if_neg (by omega)]
        · rw [if_neg e23, rgl_target RW hk, b1_s]
          by_cases e19 : v 19 k = 0
          · rw [if_pos e19, if_neg (fun hh => by cases hh), if_neg (by omega)]
          · have e14 : v 14 k = 0 := by
              by_cases e14 : v 14 k = 0
              · exact e14
              · exact absurd (o9 e14).1 e19
            obtain ⟨r, p, r1, r2, r3, -⟩ := o8 e14
            rw [if_neg e19]
            by_cases e : v 19 k = x + 1
            · rw [if_pos (show some (da d 1 (v 19 k - 1)) = some (da d 1 x) by rw [e]; rfl), if_pos ⟨by omega, e14, e⟩, rgl_aboutA RW hk, b1_s, qt_117 hF, b1_s]
            · rw [if_neg (fun hh => by
                have := (da_inj (RW.t (show v 19 k - 1 < v 9 0 by omega)).1 (RW.t hx).1).mp (Option.some.inj hh)
                omega), if_neg (fun hh => e hh.2.2)]
      by_cases e : v 23 k = 1 ∧ v 14 k = 0 ∧ v 19 k = x + 1
      · obtain ⟨c2, b1', b2'⟩ := e_markThing R hT hA o4
        rw [if_pos e, b1', b2_s] at e0
        refine ⟨c2, e0, b2'.cg (fun n => ⟨fun g => ?_, fun g => ?_⟩)⟩
        · rcases g with (g | ⟨j, j1, j2⟩) | g
          · exact Or.inl g
          · exact Or.inr ⟨j, by omega, j2⟩
          · exact Or.inr ⟨k, by omega, e.1, e.2.1, e.2.2, g.symm⟩
        · rcases g with g | ⟨j, j1, j2, j3, j4, j5⟩
          · exact Or.inl (Or.inl g)
          · by_cases ej : j = k
            · rw [ej] at j5; exact Or.inr j5.symm
            · exact Or.inl (Or.inr ⟨j, by omega, j2, j3, j4, j5⟩)
      · rw [if_neg e] at e0
        refine ⟨c', e0, hA.cg (fun n => ⟨fun g => ?_, fun g => ?_⟩)⟩
        · rcases g with g | ⟨j, j1, j2⟩
          · exact Or.inl g
          · exact Or.inr ⟨j, by omega, j2⟩
        · rcases g with g | ⟨j, j1, j2, j3, j4, j5⟩
          · exact Or.inl g
          · by_cases ej : j = k
            · rw [ej] at j2 j3 j4; exact absurd ⟨j2, j3, j4⟩ e
            · exact Or.inr ⟨j, by omega, j2, j3, j4, j5⟩)
    (by
      rintro n c' hA
      have RW := hA.rv R
      obtain ⟨c2, e2, hA2⟩ := e_mark105 R hT hW hA hx
      refine ⟨c2, ?_, hA2.cg (fun n => or_assoc)⟩
      show fX1_markNext_48 (n + 1) (da d 117 0) (da d 1 x) (some (da d 103 0)) (some (da d 105 0)) (nI (v 24 0)) (cB d c') = _
      rw [fX1_markNext_48, b1_s, qt_103 RW.2.1, b1_s, re_psize RW, b2_s, if_pos (Int32.le_refl _)]
      exact e2)
  exact key (v 24 0) 100000 0 c (by omega) (by omega) (h.cg (fun n => ⟨Or.inl, fun g => g.elim id (fun ⟨j, j1, _⟩ => by omega)⟩))
theorem e_markNext (R : RC d c0 v u w) (hT : iT v) (hL : iL v) (hW : iW v) (h : Acc d c0 c v m od bf dp (fun _ => False)) (hx : x < v 9 0) : ∃ c', fX1_markNext (da d 117 0) (some (da d 1 x)) (some (da d 103 0)) (some (da d 105 0)) (cB d c) = some ((), cB d c') ∧ Acc d c0 c' v m od bf dp (fun n => GE v x n) := by
  have hb := hT.1
  obtain ⟨k0, k1, k3, k7, -⟩ := hT.k hx
  have key := zlp (F := fun n k (c' : CH) => fX1_markNext_3 n (da d 117 0) (some (da d 1 x)) (some (da d 103 0)) (some (da d 105 0)) k (cB d c')) (N := v 3 x)
    (fun k c' => Acc d c0 c' v m od bf dp (fun n => ∃ p, p < k ∧ v 10 (8 * x + p) = 1 ∧ v 11 (8 * x + p) = n))
    (fun y => ∃ c', y = some ((), cB d c') ∧ Acc d c0 c' v m od bf dp (fun n => GE v x n))
    (by
      rintro n k c' hk hA
      left
      have RW := hA.rv R
      have hF := RW.2.1
      have hpl := hT.pl hx hk
      have e0 : fX1_markNext_3 (n + 1) (da d 117 0) (some (da d 1 x)) (some (da d 103 0)) (some (da d 105 0)) (nI k) (cB d c') = (b2 (fX1_markNextThing (da d 117 0) (if v 10 (8 * x + k) = 1 then some (da d 1 (v 11 (8 * x + k))) else none) (cB d c')) fun _ s17 => fX1_markNext_3 n (da d 117 0) (some (da d 1 x)) (some (da d 103 0)) (some (da d 105 0)) (nI (k + 1)) s17) := by
        rw [fX1_markNext_3, b1_s, rg_tg RW hx, b1_s, re_placesSize RW hx, b2_s, nI_ifle (by omega) (by omega), if_neg (by omega), rg_tg RW hx, b1_s, re_thingAt RW hx k3 hk, b2_s, qt_117 hF, b1_s, nI_1]
      by_cases e : v 10 (8 * x + k) = 1
      · obtain ⟨c2, b1', b2'⟩ := e_markThing R hT hA ((hpl.2.1 e).1)
        rw [if_pos e, b1', b2_s] at e0
        refine ⟨c2, e0, b2'.cg (fun n => ⟨fun g => ?_, fun g => ?_⟩)⟩
        · rcases g with ⟨j, j1, j2⟩ | g
          · exact ⟨j, by omega, j2⟩
          · exact ⟨k, by omega, e, g.symm⟩
        · obtain ⟨j, j1, j2, j3⟩ := g
          by_cases ej : j = k
          · rw [ej] at j3; exact Or.inr j3.symm
          · exact Or.inl ⟨j, by omega, j2, j3⟩
      · have en : fX1_markNextThing (da d 117 0) none (cB d c') = some ((), cB d c') := by
          unfold fX1_markNextThing
          rw [oe_0]
        rw [if_neg e, en, b2_s] at e0
        refine ⟨c', e0, hA.cg (fun n => ⟨fun ⟨j, j1, j2⟩ => ⟨j, by omega, j2⟩, fun ⟨j, j1, j2, j3⟩ => ⟨j, ?_, j2, j3⟩⟩)⟩
        by_cases ej : j = k
        · rw [ej] at j2; exact absurd j2 e
        · omega)
    (by
      rintro n c' hA
      have RW := hA.rv R
      have hF := RW.2.1
      have hle : ∀ n, (∃ p, p < v 3 x ∧ v 10 (8 * x + p) = 1 ∧ v 11 (8 * x + p) = n) ↔ LEv v x n := fun n => ⟨fun ⟨p, p1, p2, p3⟩ => LEv.mk p1 p2 p3, fun hh => hh.at⟩
      have hA1 := hA.cg hle
      have hd : fX1_markNext_3 (n + 1) (da d 117 0) (some (da d 1 x)) (some (da d 103 0)) (some (da d 105 0)) (nI (v 3 x)) (cB d c') = (b2 (fX1_markNextThing (da d 117 0) (if v 5 x = 0 then none else some (da d 1 (v 5 x - 1))) (cB d c')) fun _ s9 => (b1 (gI 5 1 (da d 1 x) s9) fun x10 => (if x10 = 2 then fX1_markNext_48 100000 (da d 117 0) (da d 1 x) (some (da d 103 0)) (some (da d 105 0)) 0 s9 else some ((), s9)))) := by
        rw [fX1_markNext_3, b1_s, rg_tg RW hx, b1_s, re_placesSize RW hx, b2_s, if_pos (Int32.le_refl _), rg_named RW hx, b1_s, qt_117 hF, b1_s]
      show ∃ c'', fX1_markNext_3 (n + 1) (da d 117 0) (some (da d 1 x)) (some (da d 103 0)) (some (da d 105 0)) (nI (v 3 x)) (cB d c') = _ ∧ _
      rw [hd]
      by_cases e3 : v 0 x = 3
      · obtain ⟨⟨mm, m1, m2, -⟩, -⟩ := hT.g hx e3
        obtain ⟨c2, b1', b2'⟩ := e_markThing R hT hA1 (show v 5 x - 1 < v 9 0 by omega)
        have RW2 := b2'.rv R
        rw [if_neg (by omega), b1', b2_s, rg_kind RW2 hx, b1_s, nI_if2 (by omega), if_neg (by omega)]
        refine ⟨c2, rfl, b2'.cg (fun n => ⟨fun g => ?_, fun g => ?_⟩)⟩
        · rcases g with g | g
          · obtain ⟨p, p1, -⟩ := g.at
            rw [hT.np hx (Or.inr e3)] at p1
            omega
          · exact Or.inl ⟨e3, by omega⟩
        · rcases g with g | g
          · right; omega
          · exact absurd e3 g.1
      · have en : fX1_markNextThing (da d 117 0) none (cB d c') = some ((), cB d c') := by
          unfold fX1_markNextThing
          rw [oe_0]
        rw [if_pos (hT.ng hx e3).1, en, b2_s, rg_kind RW hx, b1_s, nI_if2 (by omega)]
        by_cases e2 : v 0 x = 2
        · obtain ⟨c2, b1', b2'⟩ := e_mark48 R hT hL hW hA1 hx
          rw [if_pos e2]
          refine ⟨c2, b1', b2'.cg (fun n => ⟨fun g => ?_, fun g => ?_⟩)⟩
          · exact Or.inr ⟨e3, g.imp id (fun g => ⟨e2, g⟩)⟩
          · rcases g with g | g
            · exact absurd g.1 e3
            · exact g.2.imp id (fun g => g.2)
        · rw [if_neg e2]
          refine ⟨c', rfl, hA1.cg (fun n => ⟨fun g => Or.inr ⟨e3, Or.inl g⟩, fun g => ?_⟩)⟩
          rcases g with g | g
          · exact absurd g.1 e3
          · exact g.2.elim id (fun g => absurd g.1 e2))
  unfold fX1_markNext
  exact key (v 3 x) 100000 0 c (by omega) (by omega) (h.cg (fun n => ⟨fun g => g.elim, fun ⟨j, j1, _⟩ => by omega⟩))
end MK
