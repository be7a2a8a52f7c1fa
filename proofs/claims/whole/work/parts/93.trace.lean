def dnx (dp : Nat → Nat) (p : Option Nat) : Nat := p.elim 0 (fun q => dp q + 1)
def fup {α : Type} (f : Nat → α) (y : Nat) (a : α) : Nat → α := fun x => if x = y then a else f x
section TC
variable {d : AD} {c0 c c' : CH} {v : Nu} {u : Mu} {w : Me} {m x y t : Nat} {od dp : Nat → Nat} {bf : Nat → Option Nat} {M : Nat → Bool}
theorem fup_s {α : Type} {f : Nat → α} {a : α} : fup f y a y = a := if_pos rfl
theorem fup_n {α : Type} {f : Nat → α} {a : α} (h : x ≠ y) : fup f y a x = f x := if_neg h
theorem TS.rv (R : RC d c0 v u w) (h : TS d c0 c v m od bf dp M) : RV d c v u w := h.1.rv R h.2.1
/-- one more, at the end -/
theorem app1 {m' : Nat} {od' : Nat → Nat} (hn : ¬ In m od t) (hm : m ≤ m') (h1 : ∀ i, i < m → od' i = od i) (h2 : ∀ x, In m' od' x ↔ In m od x ∨ x = t) (h3 : ∀ i j, i < m' → j < m' → od' i = od' j → i = j) : m' = m + 1 ∧ od' m = t := by
  obtain ⟨i, i1, i2⟩ := (h2 t).mpr (Or.inr rfl)
  have hi : m ≤ i := by
    rcases Nat.lt_or_ge i m with h | h
    · exact absurd ⟨i, h, by rw [← h1 i h]; exact i2⟩ hn
    · exact h
  have all : ∀ j, m ≤ j → j < m' → j = i := fun j j1 j2 => by
    rcases (h2 (od' j)).mp ⟨j, j2, rfl⟩ with ⟨a, a1, a2⟩ | h
    · rw [← h1 a a1] at a2
      have := h3 a j (by omega) j2 a2
      omega
    · exact h3 j i j2 i1 (by rw [h, i2])
  have e1 := all m (Nat.le_refl _) (by omega)
  refine ⟨?_, by rw [e1]; exact i2⟩
  by_cases e : m' = m + 1
  · exact e
  · have := all (m + 1) (by omega) (by omega)
    omega
theorem e_addBehind {p : Option Nat} (R : RC d c0 v u w) (hb : v 9 0 ≤ 300) (h : TS d c0 c v m od bf dp M) (hy : y < v 9 0) (hn : ¬ In m od y) (hp : ∀ q, p = some q → In m od q) : ∃ c' od', fX1_addBehind (da d 117 0) (some (da d 1 y)) (p.map (da d 1)) (cB d c) = some ((), cB d c') ∧ TS d c0 c' v (m + 1) od' (fup bf y p) (fup dp y (dnx dp p)) M ∧ od' m = y ∧ ∀ i, i < m → od' i = od i := by
  have RW := h.rv R
  have hF := RW.2.1
  have hX := RW.2.2.1
  obtain ⟨t1, t2, t3, t4, t5, t6⟩ := id h
  obtain ⟨c1, m1, od1, a1, a2, a3, a4, a5, a6, a7⟩ := e_add t2 (rr_118 hF hX) (RW.tn hb) t3 hy
  obtain ⟨e1, e2⟩ := app1 hn a5 a6 a7 a4.2.2.2.1
  subst e1
  have T1 := t1.trans a2.tr
  have RW1 : RV d c1 v u w := T1.rv R a3
  have hX1 := RW1.2.2.1
  have hN2 : cN c1 122 0 = 300 := hX1.2.2.2.2.2.2.2.2.2.2.2.2.2.2.2.2.1
  have hN3 : cN c1 123 0 = 300 := hX1.2.2.2.2.2.2.2.2.2.2.2.2.2.2.2.2.2
  have q1 : yP 17 5 (da d 122 0) (nI y) (p.map (da d 1)) (cB d c1) = some (cB d (kwQ 122 0 y (p.map (fun q => (1, q))) c1)) := cyP (t := 17) (e := 5) (r := p.map (da d 1)) (p.map (fun q => (1, q))) a3.1 (f122 hF) rfl (by rw [hN2]; omega) (by omega) (by cases p <;> rfl) (fun yy hyy => by
    cases p with
    | none => cases hyy
    | some q =>
      cases hyy
      obtain ⟨i, i1, i2⟩ := hp q rfl
      have := (t3.2.2.1 i i1).1
      rw [i2] at this
      exact ⟨(RW.t this).1, rfl⟩)
  have w2 : WF d (kwQ 122 0 y (p.map (fun q => (1, q))) c1) := a3.wQ (f122 hF) (fun yy hyy => by
    cases p with
    | none => cases hyy
    | some q =>
      cases hyy
      obtain ⟨i, i1, i2⟩ := hp q rfl
      have := (t3.2.2.1 i i1).1
      rw [i2] at this
      exact (RW.t this).1)
  have T2 : Tr c0 (kwQ 122 0 y (p.map (fun q => (1, q))) c1) := T1.trans (Tr.Q (by decide))
  have RW2 : RV d (kwQ 122 0 y (p.map (fun q => (1, q))) c1) v u w := T2.rv R w2
  have hX2 := RW2.2.2.1
  have q2 : yI (da d 123 0) (nI y) (nI (dnx dp p)) (cB d (kwQ 122 0 y (p.map (fun q => (1, q))) c1)) = some (cB d (kwI 123 0 y (nI (dnx dp p)) (kwQ 122 0 y (p.map (fun q => (1, q))) c1))) := cyI w2.1 (f123 hF) rfl (show y < cN c1 123 0 by rw [hN3]; omega) (by omega)
  refine ⟨kwI 123 0 y (nI (dnx dp p)) (kwQ 122 0 y (p.map (fun q => (1, q))) c1), od1, ?_, ⟨T2.trans (Tr.I (by decide)), w2.wI (f123 hF), a4.cg ((sm.rfl.Q (by decide)).I (by decide)) ((sm.rfl.Q (by decide)).I (by decide)) ((sm.rfl.Q (by decide)).I (by decide)) (Nat.le_refl _), fun n hn => ?_, ?_, fun x hx => ?_⟩, e2, a6⟩
  · unfold fX1_addBehind
    rw [b1_s, rg_num RW hy, b1_s, if_neg (nI_pos (by omega)), b1_s, qa_117_2 hF hX, b1_s, qn_122 hF hX, b1_s, nI_ifle (by omega) (by omega), if_neg (by omega), b1_s, qa_117_3 hF hX, b1_s, qn_123 hF hX, b1_s, nI_iflt (by omega) (by omega), if_pos (by omega), qa_117_0 hF hX, b1_s, qt_118 hF, b1_s, a1, b2_s, qa_117_2 hF hX1, b1_s, rg_num RW1 hy, b1_s, q1, b1_s, qa_117_3 hF hX2, b1_s, rg_num RW2 hy, b1_s]
    cases p with
    | none =>
      show oe none _ _ = _
      rw [oe_0, show (0 : Int32) = nI (dnx dp none) from rfl, q2, b1_s]
    | some q =>
      obtain ⟨i, i1, i2⟩ := hp q rfl
      have hq := (t3.2.2.1 i i1).1
      rw [i2] at hq
      have hd : cI (kwQ 122 0 y ((some q).map (fun q => (1, q))) c1) 123 0 q = nI (dp q) := by
        show cI c1 123 0 q = _
        rw [(a2.sm (k := 123) (by decide)).1]
        exact (t6 q ⟨i, i1, i2⟩).2
      have hdep : fX1_depthOf (da d 117 0) (some (da d 1 q)) (cB d (kwQ 122 0 y ((some q).map (fun q => (1, q))) c1)) = some (nI (dp q), cB d (kwQ 122 0 y ((some q).map (fun q => (1, q))) c1)) := by
        unfold fX1_depthOf
        rw [b1_s, rg_num RW2 hq, b1_s, if_neg (nI_pos (by omega)), b1_s, qa_117_3 hF hX2, b1_s, qn_123 hF hX2, b1_s, nI_ifle (by omega) (by omega), if_neg (by omega), b1_s, b1_s, cxI (t := 12) (c := kwQ 122 0 y ((some q).map (fun q => (1, q))) c1) (f123 hF) rfl (show q < cN c1 123 0 by rw [hN3]; omega) (by omega), b1_s, hd]
      show oe (some (da d 1 q)) _ _ = _
      rw [oe_1, qt_117 hF, b1_s, hdep, b2_s, nI_1, show nI (dp q + 1) = nI (dnx dp (some q)) from rfl, q2, b1_s]
  · show z3 c1.1 123 0 y (nI (dnx dp p)) 121 0 n = _
    rw [z3_n (by omega)]
    exact ((a2.sm (k := 121) (by decide)).1 0 n).trans (t4 n hn)
  · show z3 c1.1 123 0 y (nI (dnx dp p)) 117 0 4 = _
    rw [z3_n (by omega)]
    exact ((a2.sm (k := 117) (by decide)).1 0 4).trans t5
  · constructor
    · show z3 c1.2.2.1 122 0 y (p.map (fun q => (1, q))) 122 0 x = _
      by_cases e : x = y
      · rw [e, z3_s, fup_s]
      · rw [z3_n (by omega), fup_n e]
        have hin := ((a7 x).mp hx).resolve_right e
        exact ((a2.sm (k := 122) (by decide)).2.1 0 x).trans (t6 x hin).1
    · show z3 c1.1 123 0 y (nI (dnx dp p)) 123 0 x = _
      by_cases e : x = y
      · rw [e, z3_s, fup_s]
      · rw [z3_n (by omega), fup_n e]
        have hin := ((a7 x).mp hx).resolve_right e
        exact ((a2.sm (k := 123) (by decide)).1 0 x).trans (t6 x hin).2
/-- what is added behind p -/
def AddP (p m : Nat) (od : Nat → Nat) (bf : Nat → Option Nat) (dp : Nat → Nat) (M : Nat → Bool) (i m' : Nat) (od' : Nat → Nat) (bf' : Nat → Option Nat) (dp' : Nat → Nat) : Prop :=
  m ≤ m' ∧ (∀ j, j < m → od' j = od j) ∧ (∀ x, In m' od' x ↔ In m od x ∨ (M x = true ∧ x < i)) ∧
  (∀ j, m ≤ j → j < m' → M (od' j) = true ∧ ¬ In m od (od' j) ∧ bf' (od' j) = some p ∧ dp' (od' j) = dp p + 1 ∧ od' j < i) ∧
  (∀ j1 j2, m ≤ j1 → j1 < j2 → j2 < m' → od' j1 < od' j2) ∧ ∀ x, In m od x → bf' x = bf x ∧ dp' x = dp x
section AP
variable {p i m' : Nat} {od' dp' : Nat → Nat} {bf' : Nat → Option Nat}
theorem AddP.le (h : AddP p m od bf dp M i m' od' bf' dp') : m ≤ m' := h.1
theorem AddP.old (h : AddP p m od bf dp M i m' od' bf' dp') : ∀ j, j < m → od' j = od j := h.2.1
theorem AddP.iff (h : AddP p m od bf dp M i m' od' bf' dp') : ∀ x, In m' od' x ↔ In m od x ∨ (M x = true ∧ x < i) := h.2.2.1
theorem AddP.new (h : AddP p m od bf dp M i m' od' bf' dp') : ∀ j, m ≤ j → j < m' → M (od' j) = true ∧ ¬ In m od (od' j) ∧ bf' (od' j) = some p ∧ dp' (od' j) = dp p + 1 ∧ od' j < i := h.2.2.2.1
theorem AddP.ord (h : AddP p m od bf dp M i m' od' bf' dp') : ∀ j1 j2, m ≤ j1 → j1 < j2 → j2 < m' → od' j1 < od' j2 := h.2.2.2.2.1
theorem AddP.keep (h : AddP p m od bf dp M i m' od' bf' dp') : ∀ x, In m od x → bf' x = bf x ∧ dp' x = dp x := h.2.2.2.2.2
end AP
theorem e_addNext {p : Nat} (R : RC d c0 v u w) (hT : iT v) (h : TS d c0 c v m od bf dp M) (hM : ∀ n, M n = true → n < v 9 0 ∧ v 7 n = 0) (hp : In m od p) : ∃ c' m' od' bf' dp', fX1_addNextByNumbers (da d 117 0) (some (da d 1 p)) (some (da d 101 0)) (cB d c) = some ((), cB d c') ∧ TS d c0 c' v m' od' bf' dp' (fun _ => false) ∧ AddP p m od bf dp M (v 9 0) m' od' bf' dp' := by
  have hb := hT.1
  have fin : ∀ (c' : CH) (i m' : Nat) (od' : Nat → Nat) (bf' : Nat → Option Nat) (dp' : Nat → Nat) (M' : Nat → Bool), i ≤ v 9 0 → TS d c0 c' v m' od' bf' dp' M' → (∀ n, M' n = true ↔ i ≤ n ∧ M n = true) → (∀ n, M' n = false) → AddP p m od bf dp M i m' od' bf' dp' → TS d c0 c' v m' od' bf' dp' (fun _ => false) ∧ AddP p m od bf dp M (v 9 0) m' od' bf' dp' := by
    intro c' i m' od' bf' dp' M' hi hts h1 h2 hA
    have : M' = fun _ => false := funext h2
    rw [this] at hts
    refine ⟨hts, hA.le, hA.old, fun x => (hA.iff x).trans (or_congr Iff.rfl ⟨fun g => ⟨g.1, (hM x g.1).1⟩, fun g => ⟨g.1, ?_⟩⟩), fun j j1 j2 => ?_, hA.ord, hA.keep⟩
    · rcases Nat.lt_or_ge x i with g2 | g2
      · exact g2
      · have := (h1 x).mpr ⟨g2, g.1⟩
        rw [h2 x] at this
        cases this
    · obtain ⟨b1, b2, b3, b4, b5⟩ := hA.new j j1 j2
      exact ⟨b1, b2, b3, b4, by omega⟩
  have key := zlp (F := fun n i (c' : CH) => fX1_addNextByNumbers_2 n (da d 117 0) (some (da d 1 p)) (some (da d 101 0)) i (cB d c')) (N := v 9 0)
    (fun i c' => ∃ m' od' bf' dp' M', TS d c0 c' v m' od' bf' dp' M' ∧ (∀ n, M' n = true ↔ i ≤ n ∧ M n = true) ∧ AddP p m od bf dp M i m' od' bf' dp')
    (fun y => ∃ c' m' od' bf' dp', y = some ((), cB d c') ∧ TS d c0 c' v m' od' bf' dp' (fun _ => false) ∧ AddP p m od bf dp M (v 9 0) m' od' bf' dp')
    (by
      rintro n i c' hi ⟨m', od', bf', dp', M', hts, h1, hA⟩
      have RW := hts.rv R
      have hF := RW.2.1
      have hX := RW.2.2.1
      have hN : cN c' 121 0 = 300 := hX.2.2.2.2.2.2.2.2.2.2.2.2.2.2.2.1
      obtain ⟨t1, t2, t3, t4, t5, t6⟩ := id hts
      have hct := fb_ct_le M' 300
      by_cases e0 : fb_ct M' 300 = 0
      · right
        have h2 : ∀ n, M' n = false := fun n => by
          cases e : M' n with
          | false => rfl
          | true =>
            have := (hM n ((h1 n).mp e).2).1
            have := (fb_ct_zero.mp e0) n (by omega)
            rw [e] at this
            cases this
        obtain ⟨f1, f2⟩ := fin c' i m' od' bf' dp' M' (by omega) hts h1 h2 hA
        refine ⟨c', m', od', bf', dp', ?_, f1, f2⟩
        show fX1_addNextByNumbers_2 (n + 1) (da d 117 0) (some (da d 1 p)) (some (da d 101 0)) (nI i) (cB d c') = _
        rw [fX1_addNextByNumbers_2, cgI (t := 1) (f117 hF) rfl, b1_s, t5, e0, if_pos (show nI 0 ≤ 0 from Int32.le_refl _)]
      left
      have k7 := (hT.k hi).2.2.2.1
      have ehead : fX1_addNextByNumbers_2 (n + 1) (da d 117 0) (some (da d 1 p)) (some (da d 101 0)) (nI i) (cB d c') = if M' i = true then (b1 (yZ (da d 121 0) (nI i) 0 (cB d c')) fun s15 => (b1 (gI 1 4 (da d 117 0) s15) fun x16 => (b1 (pI 1 4 (da d 117 0) (x16 - 1) s15) fun s17 => (b1 (tg 6 (da d 101 0) s17) fun _ => (b2 (fX6_find (da d 101 0) (nI i) s17) fun r19 s20 => (oe r19 (fX1_addNextByNumbers_2 n (da d 117 0) (some (da d 1 p)) (some (da d 101 0)) (nI (i + 1)) s20) fun a21 => (b1 (gA 1 0 (da d 117 0) s20) fun a22 => (b1 (tg 3 a22 s20) fun _ => (b2 (fX3_has a22 (some a21) s20) fun x24 s25 => (if x24 = 0 then (b1 (tg 1 (da d 117 0) s25) fun _ => (b2 (fX1_addBehind (da d 117 0) (some a21) (some (da d 1 p)) s25) fun _ s29 => fX1_addNextByNumbers_2 n (da d 117 0) (some (da d 1 p)) (some (da d 101 0)) (nI (i + 1)) s29)) else fX1_addNextByNumbers_2 n (da d 117 0) (some (da d 1 p)) (some (da d 101 0)) (nI (i + 1)) s25)))))))))) else fX1_addNextByNumbers_2 n (da d 117 0) (some (da d 1 p)) (some (da d 101 0)) (nI (i + 1)) (cB d c') := by
        rw [fX1_addNextByNumbers_2, cgI (t := 1) (f117 hF) rfl, b1_s, t5, if_neg (nI_nle (by omega) (by omega)), b1_s, qt_101 hF, b1_s, re_size RW, b2_s, nI_ifle (by omega) (by omega), if_neg (by omega), qa_117_1 hF hX, b1_s, qn_121 hF hX, b1_s, nI_ifle (by omega) (by omega), if_neg (by omega), b1_s, cxI (t := 14) (f121 hF) rfl (by rw [hN]; omega) (by omega), b1_s, t4 i (by omega), nI_1]
        by_cases em : M' i = true
        · rw [if_pos em, if_neg (show ¬ (1 : Int32) = 0 by decide), if_pos em, b1_s]
        · rw [if_neg em, if_pos rfl, if_neg em]
      by_cases em : M' i = true
      rotate_left
      · rw [if_neg em] at ehead
        have hne : M i ≠ true := fun g => em ((h1 i).mpr ⟨Nat.le_refl _, g⟩)
        refine ⟨c', ehead, m', od', bf', dp', M', hts, fun n => (h1 n).trans ⟨fun g => ⟨?_, g.2⟩, fun g => ⟨by omega, g.2⟩⟩, hA.le, hA.old, fun x => (hA.iff x).trans (or_congr Iff.rfl ⟨fun g => ⟨g.1, by omega⟩, fun g => ⟨g.1, ?_⟩⟩), fun j j1 j2 => ?_, hA.ord, hA.keep⟩
        · by_cases e : n = i
          · rw [e] at g; exact absurd g.2 hne
          · omega
        · by_cases e : x = i
          · rw [e] at g; exact absurd g.1 hne
          · omega
        · obtain ⟨b1, b2, b3, b4, b5⟩ := hA.new j j1 j2
          exact ⟨b1, b2, b3, b4, by omega⟩
      rw [if_pos em] at ehead
      have hMi := ((h1 i).mp em).2
      have h7 := (hM i hMi).2
      -- the mark is taken off
      obtain ⟨M2, hM2⟩ : ∃ M2 : Nat → Bool, M2 = fun n => if n = i then false else M' n := ⟨_, rfl⟩
      have hy2 : M2 i = false := by rw [hM2]; exact if_pos rfl
      have hn2 : ∀ n, n ≠ i → M2 n = M' n := fun n hn => by rw [hM2]; exact if_neg hn
      have hct2 : fb_ct M2 300 + 1 = fb_ct M' 300 := by
        have := fb_ct_upd M' false (i := i) (n := 300) (by omega)
        rw [if_pos em, if_neg (show ¬ false = true by decide)] at this
        rw [hM2, this, Nat.add_zero]
      have z1 : yZ (da d 121 0) (nI i) 0 (cB d c') = some (cB d (kwI 121 0 i (vp_nar .boolean 0) c')) := cyZ t2.1 (f121 hF) rfl (by rw [hN]; omega) (by omega)
      have w1 : WF d (kwI 121 0 i (vp_nar .boolean 0) c') := t2.wI (f121 hF)
      have g1 : gI 1 4 (da d 117 0) (cB d (kwI 121 0 i (vp_nar .boolean 0) c')) = some (nI (fb_ct M' 300)) := by
        rw [cgI (t := 1) (f117 hF) rfl]
        show some (z3 c'.1 121 0 i (vp_nar .boolean 0) 117 0 4) = _
        rw [z3_n (by omega)]
        exact congrArg some t5
      have hsub : nI (fb_ct M' 300) - 1 = nI (fb_ct M2 300) := by rw [← hct2]; exact nI_pred _
      have z2 : pI 1 4 (da d 117 0) (nI (fb_ct M2 300)) (cB d (kwI 121 0 i (vp_nar .boolean 0) c')) = some (cB d (kwI 117 0 4 (nI (fb_ct M2 300)) (kwI 121 0 i (vp_nar .boolean 0) c'))) := cpI (t := 1) w1.1 (f117 hF) rfl
      have ts2 : TS d c0 (kwI 117 0 4 (nI (fb_ct M2 300)) (kwI 121 0 i (vp_nar .boolean 0) c')) v m' od' bf' dp' M2 := by
        refine ⟨t1.trans ((Tr.I (by decide)).trans (Tr.I (by decide))), w1.wI (f117 hF), t3.cg ((sm.rfl.I (by decide)).I (by decide)) ((sm.rfl.I (by decide)).I (by decide)) ((sm.rfl.I (by decide)).I (by decide)) (Nat.le_refl _), fun n hn => ?_, ?_, fun x hx => ⟨(t6 x hx).1, ?_⟩⟩
        · show z3 (z3 c'.1 121 0 i (vp_nar .boolean 0)) 117 0 4 (nI (fb_ct M2 300)) 121 0 n = _
          rw [z3_n (by omega)]
          by_cases en : n = i
          · rw [en, z3_s, hy2]
            rfl
          · rw [z3_n (by omega), hn2 n en]
            exact t4 n hn
        · show z3 (z3 c'.1 121 0 i (vp_nar .boolean 0)) 117 0 4 (nI (fb_ct M2 300)) 117 0 4 = _
          rw [z3_s]
        · show z3 (z3 c'.1 121 0 i (vp_nar .boolean 0)) 117 0 4 (nI (fb_ct M2 300)) 123 0 x = _
          rw [z3_n (by omega), z3_n (by omega)]
          exact (t6 x hx).2
      have hM2' : ∀ n, M2 n = true ↔ i + 1 ≤ n ∧ M n = true := fun n => by
        by_cases en : n = i
        · rw [en, hy2]
          exact ⟨fun g => (by cases g), fun g => (by omega)⟩
        · rw [hn2 n en, h1 n]
          exact ⟨fun g => ⟨by omega, g.2⟩, fun g => ⟨by omega, g.2⟩⟩
      have RW2 := ts2.rv R
      have hX2 := RW2.2.2.1
      haveI := Classical.propDecidable (In m' od' i)
      have hhas : fX3_has (da d 118 0) (some (da d 1 i)) (cB d (kwI 117 0 4 (nI (fb_ct M2 300)) (kwI 121 0 i (vp_nar .boolean 0) c'))) = some (if In m' od' i then 1 else 0, cB d (kwI 117 0 4 (nI (fb_ct M2 300)) (kwI 121 0 i (vp_nar .boolean 0) c'))) := by
        rw [e_has (rr_118 hF hX2) (RW2.tn hb) ts2.2.2.1 hi, ts2.2.2.1.mark (by omega) Iff.rfl]
      rw [z1, b1_s, g1, b1_s, hsub, z2, b1_s, qt_101 hF, b1_s, re_find RW2 hb hi k7, b2_s, if_pos h7, oe_1, qa_117_0 hF hX2, b1_s, qt_118 hF, b1_s, hhas, b2_s] at ehead
      by_cases ein : In m' od' i
      · rw [if_pos ein, if_neg (show ¬ (1 : Int32) = 0 by decide)] at ehead
        have hold : In m od i := by
          rcases (hA.iff i).mp ein with g | g
          · exact g
          · omega
        refine ⟨_, ehead, m', od', bf', dp', M2, ts2, hM2', hA.le, hA.old, fun x => (hA.iff x).trans ⟨fun g => g.imp id (fun g => ⟨g.1, by omega⟩), fun g => ?_⟩, fun j j1 j2 => ?_, hA.ord, hA.keep⟩
        · rcases g with g | g
          · exact Or.inl g
          · by_cases e : x = i
            · rw [e]; exact Or.inl hold
            · exact Or.inr ⟨g.1, by omega⟩
        · obtain ⟨b1, b2, b3, b4, b5⟩ := hA.new j j1 j2
          exact ⟨b1, b2, b3, b4, by omega⟩
      · have hpin : In m' od' p := (hA.iff p).mpr (Or.inl hp)
        obtain ⟨c3, od3, s1, s2, s3, s4⟩ := e_addBehind (p := some p) R hb ts2 hi ein (fun q hq => by cases hq; exact hpin)
        have s1' : fX1_addBehind (da d 117 0) (some (da d 1 i)) (some (da d 1 p)) (cB d (kwI 117 0 4 (nI (fb_ct M2 300)) (kwI 121 0 i (vp_nar .boolean 0) c'))) = some ((), cB d c3) := s1
        rw [if_neg ein, if_pos rfl, qt_117 hF, b1_s, s1', b2_s] at ehead
        have hnew : ∀ x, In (m' + 1) od3 x ↔ In m' od' x ∨ x = i := fun x => by
          constructor
          · rintro ⟨j, j1, j2⟩
            by_cases e : j = m'
            · right; rw [← j2, e, s3]
            · left; exact ⟨j, by omega, by rw [← s4 j (by omega)]; exact j2⟩
          · rintro (⟨j, j1, j2⟩ | g)
            · exact ⟨j, by omega, by rw [s4 j j1]; exact j2⟩
            · exact ⟨m', by omega, by rw [s3, g]⟩
        have hno : ¬ In m od i := fun g => ein ((hA.iff i).mpr (Or.inl g))
        refine ⟨c3, ehead, m' + 1, od3, _, _, M2, s2, hM2', by have := hA.le; omega, fun j hj => ?_, fun x => ?_, fun j j1 j2 => ?_, fun j1 j2 g1 g2 g3 => ?_, fun x hx => ?_⟩
        · rw [s4 j (by have := hA.le; omega)]
          exact hA.old j hj
        · rw [hnew, hA.iff]
          constructor
          · rintro ((g | g) | g)
            · exact Or.inl g
            · exact Or.inr ⟨g.1, by omega⟩
            · rw [g]; exact Or.inr ⟨hMi, by omega⟩
          · rintro (g | g)
            · exact Or.inl (Or.inl g)
            · by_cases e : x = i
              · exact Or.inr e
              · exact Or.inl (Or.inr ⟨g.1, by omega⟩)
        · by_cases e : j = m'
          · rw [e, s3]
            refine ⟨hMi, hno, fup_s, ?_, by omega⟩
            rw [fup_s]
            show dp' p + 1 = dp p + 1
            rw [(hA.keep p hp).2]
          · obtain ⟨b1, b2, b3, b4, b5⟩ := hA.new j j1 (by omega)
            rw [s4 j (by omega), fup_n (by omega), fup_n (by omega)]
            exact ⟨b1, b2, b3, b4, by omega⟩
        · by_cases e : j2 = m'
          · rw [e, s3, s4 j1 (by omega)]
            exact (hA.new j1 g1 (by omega)).2.2.2.2
          · rw [s4 j1 (by omega), s4 j2 (by omega)]
            exact hA.ord j1 j2 g1 g2 (by omega)
        · have : x ≠ i := fun e => hno (by rw [← e]; exact hx)
          rw [fup_n this, fup_n this]
          exact hA.keep x hx)
    (by
      rintro n c' ⟨m', od', bf', dp', M', hts, h1, hA⟩
      have RW := hts.rv R
      have hF := RW.2.1
      obtain ⟨t1, t2, t3, t4, t5, t6⟩ := id hts
      have h2 : ∀ n, M' n = false := fun n => by
        cases e : M' n with
        | false => rfl
        | true =>
          obtain ⟨g1, g2⟩ := (h1 n).mp e
          have := (hM n g2).1
          omega
      obtain ⟨f1, f2⟩ := fin c' (v 9 0) m' od' bf' dp' M' (Nat.le_refl _) hts h1 h2 hA
      refine ⟨c', m', od', bf', dp', ?_, f1, f2⟩
      show fX1_addNextByNumbers_2 (n + 1) (da d 117 0) (some (da d 1 p)) (some (da d 101 0)) (nI (v 9 0)) (cB d c') = _
      rw [fX1_addNextByNumbers_2, cgI (t := 1) (f117 hF) rfl, b1_s, b1_s, qt_101 hF, b1_s, re_size RW, b2_s, if_pos (Int32.le_refl _)]
      split <;> rfl)
  exact key (v 9 0) 100000 0 c (by omega) (by omega) ⟨m, od, bf, dp, M, h, fun n => ⟨fun g => ⟨by omega, g⟩, fun g => g.2⟩, Nat.le_refl _, fun _ _ => rfl, fun x => ⟨Or.inl, fun g => g.elim id (fun g => by omega)⟩, fun j j1 j2 => by omega, fun j1 j2 g1 g2 g3 => by omega, fun x hx => ⟨rfl, rfl⟩⟩
end TC
