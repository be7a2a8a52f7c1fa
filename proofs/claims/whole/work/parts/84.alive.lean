/-! What a walk finds alive. -/
def OB (v : Nu) (k : Nat) (S : Nat → Prop) (b : Nat) : Prop := b < v 9 0 ∧ v 7 b = 0 ∧ (v 0 b = 2 ∨ Wtd v b ∨ (anch v b ∧ (pas v k b = false ∨ S b)))
def RB (v : Nu) (k : Nat) (S : Nat → Prop) (x : Nat) : Prop := Cl (LEv v) (OB v k S) x
def AC (v : Nu) (k : Nat) (S : Nat → Prop) (x : Nat) : Prop := mew v k x < v 4 x ∨ RB v k S x ∨ ∃ g, g < v 9 0 ∧ met v k g = true ∧ v 5 g = x + 1 ∧ RB v k S g
def AL (v : Nu) (k x : Nat) : Prop := ∀ S : Nat → Prop, (∀ x, x < v 9 0 → pas v k x = true → AC v k S x → S x) → S x
/-- what was passed or met is there -/
def iP (v : Nu) (k : Nat) : Prop := ∀ x, x < 300 → v 42 (300 * k + x) = 1 → x < v 9 0 ∧ v 7 x = 0
section AV
variable {d d' : AD} {c c' : CH} {v v' : Nu} {u u' : Mu} {w w' : Me} {n q z m r t p k l b0 g wt x y h m1 m2 i : Nat} {od od1 od2 : Nat → Nat} {S S' : Nat → Prop}
theorem RB.mono (h : RB v k S x) (hS : ∀ x, S x → S' x) : RB v k S' x := Cl.mono h (fun b hb => ⟨hb.1, hb.2.1, hb.2.2.imp id (Or.imp id (fun h => ⟨h.1, h.2.imp id (hS b)⟩))⟩)
theorem AC.mono (h : AC v k S x) (hS : ∀ x, S x → S' x) : AC v k S' x := h.imp id (Or.imp (fun h => h.mono hS) (fun ⟨g, g1, g2, g3, g4⟩ => ⟨g, g1, g2, g3, g4.mono hS⟩))
theorem AL.mk (hx : x < v 9 0) (hp : pas v k x = true) (h : AC v k (AL v k) x) : AL v k x := fun S hS => hS x hx hp (h.mono (fun y hy => hy S hS))
theorem pas_iff : pas v k x = true ↔ v 42 (300 * k + x) = 1 ∧ v 0 x ≠ 3 := by simp [pas]
theorem met_iff : met v k x = true ↔ v 42 (300 * k + x) = 1 ∧ v 0 x = 3 := by simp [met]
/-- the two sets of the class -/
def CS (d : AD) (c : CH) (v : Nu) (u : Mu) (w : Me) (m1 : Nat) (od1 : Nat → Nat) (m2 : Nat) (od2 : Nat → Nat) : Prop := RC d c v u w ∧ SR c 111 (v 9 0) m1 od1 ∧ SR c 114 (v 9 0) m2 od2
def Gr (m : Nat) (od : Nat → Nat) (m' : Nat) (od' : Nat → Nat) : Prop := m ≤ m' ∧ ∀ i, i < m → od' i = od i
theorem Gr.rfl : Gr m od m od := ⟨Nat.le_refl _, fun _ _ => Eq.refl _⟩
theorem CS.a1 (C : CS d c v u w m1 od1 m2 od2) (hb : v 9 0 ≤ 300) (ht : t < v 9 0) : ∃ c' m' od', fX3_add (da d 111 0) (some (da d 1 t)) (cB d c) = some ((), cB d c') ∧ CS d c' v u w m' od' m2 od2 ∧ Gr m1 od1 m' od' ∧ ∀ x, In m' od' x ↔ In m1 od1 x ∨ x = t := by
  obtain ⟨R, S1, S2⟩ := C
  obtain ⟨c2, m2', od2', r1, r2, r3, r4, r5, r6, r7⟩ := e_add R.1 (R.rr (Or.inl rfl)) (R.tn hb) S1 ht
  exact ⟨c2, m2', od2', r1, ⟨R.sc (Or.inl rfl) r2 r3 r4, r4, S2.cg (r2.sm (by decide)) (r2.sm (by decide)) (r2.sm (by decide)) (Nat.le_refl _)⟩, ⟨r5, r6⟩, r7⟩
theorem CS.a2 (C : CS d c v u w m1 od1 m2 od2) (hb : v 9 0 ≤ 300) (ht : t < v 9 0) : ∃ c' m' od', fX3_add (da d 114 0) (some (da d 1 t)) (cB d c) = some ((), cB d c') ∧ CS d c' v u w m1 od1 m' od' ∧ ∀ x, In m' od' x ↔ In m2 od2 x ∨ x = t := by
  obtain ⟨R, S1, S2⟩ := C
  obtain ⟨c2, m2', od2', r1, r2, r3, r4, r5, r6, r7⟩ := e_add R.1 (R.rr (Or.inr (Or.inl rfl))) (R.tn hb) S2 ht
  exact ⟨c2, m2', od2', r1, ⟨R.sc (Or.inr (Or.inl rfl)) r2 r3 r4, S1.cg (r2.sm (by decide)) (r2.sm (by decide)) (r2.sm (by decide)) (Nat.le_refl _), r4⟩, r7⟩
theorem e_bring (C : CS d c v u w m1 od1 m2 od2) (hT : iT v) (ht : t < v 9 0) : ∃ c' m1' od1' m2' od2', fX10_bringAlive (da d 100 0) (some (da d 1 t)) (cB d c) = some ((), cB d c') ∧ CS d c' v u w m1' od1' m2' od2' ∧ Gr m1 od1 m1' od1' ∧ (∀ x, In m1' od1' x ↔ In m1 od1 x ∨ (x = t ∧ 0 < v 4 t ∧ v 8 t = 0)) ∧ ∀ x, In m2' od2' x ↔ In m2 od2 x ∨ x = t := by
  have hb := hT.1
  obtain ⟨k0, k1, k3, k7, k8, k4, k6⟩ := hT.k ht
  obtain ⟨c2, m2', od2', q1, C2, q3⟩ := C.a2 hb ht
  have R := C.1
  have R2 := C2.1
  have e : fX10_bringAlive (da d 100 0) (some (da d 1 t)) (cB d c) = if 0 < v 4 t ∧ v 8 t = 0 then (b2 (fX3_add (da d 111 0) (some (da d 1 t)) (cB d c2)) fun _ s13 => some ((), s13)) else some ((), cB d c2) := by
    unfold fX10_bringAlive
    rw [qa_100_8 R.2.1 R.2.2.1, b1_s, qt_114 R.2.1, b1_s, q1, b2_s, b1_s, g_tg R2 ht, b1_s, e_isAnchor R2 ht (by omega) k8, b2_s]
    by_cases g : 0 < v 4 t ∧ v 8 t = 0
    · rw [if_pos g, if_neg (show ¬ (1 : Int32) = 0 by decide), if_pos g, qa_100_7 R2.2.1 R2.2.2.1, b1_s, qt_111 R2.2.1, b1_s]
    · rw [if_neg g, if_pos rfl, if_neg g]
  by_cases g : 0 < v 4 t ∧ v 8 t = 0
  · obtain ⟨c3, m1', od1', r1, C3, r2, r3⟩ := C2.a1 hb ht
    rw [if_pos g, r1, b2_s] at e
    exact ⟨c3, m1', od1', m2', od2', e, C3, r2, fun x => (r3 x).trans ⟨Or.imp id (fun h => ⟨h, g⟩), Or.imp id (fun h => h.1)⟩, q3⟩
  · rw [if_neg g] at e
    exact ⟨c2, m1, od1, m2', od2', e, C2, Gr.rfl, fun x => ⟨Or.inl, fun h => h.elim id (fun h => absurd h.2 g)⟩, q3⟩
/-- between steps: nothing but what is alive, and what is alive and holds is among the first -/
def LV (v : Nu) (k m1 : Nat) (od1 : Nat → Nat) (m2 : Nat) (od2 : Nat → Nat) : Prop := (∀ x, In m1 od1 x → RB v k (AL v k) x) ∧ (∀ x, In m2 od2 x → AL v k x ∧ pas v k x = true) ∧ ∀ x, In m2 od2 x → anch v x → In m1 od1 x
theorem LV.bring (hP : iP v k) (L : LV v k m1 od1 m2 od2) (hb : v 9 0 ≤ 300) (ht : t < v 9 0) (hp : pas v k t = true) (ha : AC v k (AL v k) t) {m1' m2' : Nat} {od1' od2' : Nat → Nat} (h1 : ∀ x, In m1' od1' x ↔ In m1 od1 x ∨ (x = t ∧ 0 < v 4 t ∧ v 8 t = 0)) (h2 : ∀ x, In m2' od2' x ↔ In m2 od2 x ∨ x = t) : LV v k m1' od1' m2' od2' := by
  obtain ⟨l1, l2, l3⟩ := L
  have hal := AL.mk ht hp ha
  obtain ⟨p1, p2⟩ := pas_iff.mp hp
  have h7 := (hP t (by omega) p1).2
  refine ⟨fun x hx => ?_, fun x hx => ?_, fun x hx hA => ?_⟩
  · rcases (h1 x).mp hx with h | ⟨rfl, g⟩
    · exact l1 x h
    · exact Cl.base ⟨ht, h7, Or.inr (Or.inr ⟨⟨h7, p2, g⟩, Or.inr hal⟩)⟩
  · rcases (h2 x).mp hx with h | rfl
    · exact l2 x h
    · exact ⟨hal, hp⟩
  · rcases (h2 x).mp hx with h | rfl
    · exact (h1 x).mpr (Or.inl (l3 x h hA))
    · exact (h1 x).mpr (Or.inr ⟨rfl, hA.2.2⟩)
def OB0 (v : Nu) (k b : Nat) : Prop := b < v 9 0 ∧ v 7 b = 0 ∧ (v 0 b = 2 ∨ Wtd v b ∨ (anch v b ∧ pas v k b = false))
theorem LV.out (L : LV v k m1 od1 m2 od2) (ho : OB0 v k t) {m1' : Nat} {od1' : Nat → Nat} (h1 : ∀ x, In m1' od1' x ↔ In m1 od1 x ∨ x = t) : LV v k m1' od1' m2 od2 := by
  obtain ⟨l1, l2, l3⟩ := L
  refine ⟨fun x hx => ?_, l2, fun x hx hA => (h1 x).mpr (Or.inl (l3 x hx hA))⟩
  rcases (h1 x).mp hx with h | rfl
  · exact l1 x h
  · exact Cl.base ⟨ho.1, ho.2.1, ho.2.2.imp id (Or.imp id (fun h => ⟨h.1, Or.inl h.2⟩))⟩
theorem mew_le (h44 : ∀ x, x < 300 → v 44 (300 * k + x) ≤ 40000) : mew v k t ≤ 12000000 := by
  have : ∀ n, n ≤ 300 → fb_sm (fun g => if met v k g = true ∧ v 5 g = t + 1 then v 44 (300 * k + g) else 0) n ≤ 40000 * n := by
    intro n
    induction n with
    | zero => intro _; exact Nat.zero_le _
    | succ n ih =>
      intro hn
      have i1 := ih (by omega)
      have i2 := h44 n (by omega)
      show fb_sm _ n + (if met v k n = true ∧ v 5 n = t + 1 then v 44 (300 * k + n) else 0) ≤ _
      split <;> omega
  exact this 300 (by omega)
theorem e_addLive (C : CS d c v u w 0 od1 0 od2) (hT : iT v) (hW : iW v) (hk : k < v 46 0) (hP : iP v k) (h44 : ∀ x, x < 300 → v 44 (300 * k + x) ≤ 40000) : ∃ c' m1' od1' m2' od2', fX10_addLiveFromOutside (da d 100 0) (some (da d 5 k)) (cB d c) = some ((), cB d c') ∧ CS d c' v u w m1' od1' m2' od2' ∧ LV v k m1' od1' m2' od2' ∧ ∀ x, x < v 9 0 → (OB0 v k x → In m1' od1' x) ∧ (pas v k x = true → mew v k x < v 4 x → In m2' od2' x) := by
  have hb := hT.1
  haveI := fun x => Classical.propDecidable (OB0 v k x)
  haveI := fun x => Classical.propDecidable (Wtd v x)
  have key := zlp (F := fun n i (c' : CH) => fX10_addLiveFromOutside_2 n (da d 100 0) (some (da d 5 k)) i (cB d c')) (N := v 9 0)
    (fun i c' => ∃ m1' od1' m2' od2', CS d c' v u w m1' od1' m2' od2' ∧ LV v k m1' od1' m2' od2' ∧ ∀ x, x < i → (OB0 v k x → In m1' od1' x) ∧ (pas v k x = true → mew v k x < v 4 x → In m2' od2' x))
    (fun y => ∃ c' m1' od1' m2' od2', y = some ((), cB d c') ∧ CS d c' v u w m1' od1' m2' od2' ∧ LV v k m1' od1' m2' od2' ∧ ∀ x, x < v 9 0 → (OB0 v k x → In m1' od1' x) ∧ (pas v k x = true → mew v k x < v 4 x → In m2' od2' x))
    (by
      rintro n i c' hi ⟨m1', od1', m2', od2', p1, p2, p3⟩
      left
      have R := p1.1
      obtain ⟨k0, k1, k3, k7, k8, k4, k6⟩ := hT.k hi
      have hF := R.2.1
      have hX := R.2.2.1
      have hmw := mew_le (v := v) (k := k) (t := i) h44
      obtain ⟨fx, f1, f2⟩ := e_first2 (t := i) R hW hi
      -- the second half
      have e84 : ∀ (c1 : CH), RC d c1 v u w → fX10_addLiveFromOutside_84 (fX10_addLiveFromOutside_2 n) (da d 100 0) (some (da d 5 k)) (nI i) (da d 1 i) (cB d c1) = if pas v k i = true ∧ mew v k i < v 4 i then (b2 (fX10_bringAlive (da d 100 0) (some (da d 1 i)) (cB d c1)) fun _ s13 => fX10_addLiveFromOutside_2 n (da d 100 0) (some (da d 5 k)) (nI (i + 1)) s13) else fX10_addLiveFromOutside_2 n (da d 100 0) (some (da d 5 k)) (nI (i + 1)) (cB d c1) := by
        intro c1 R1
        unfold fX10_addLiveFromOutside_84
        rw [b1_s, gk_tg R1 hk, b1_s, e_hasPassed R1 hb hk hi, b2_s, nI_1]
        by_cases g : pas v k i = true
        · rw [if_pos g, if_neg (show ¬ (1 : Int32) = 0 by decide), g_exit R1 hi, b1_s, gk_tg R1 hk, b1_s, e_weightMetFor R1 hb hk hi, b2_s, nI_ifle (by omega) (by omega), qt_100 R1.2.1, b1_s]
          by_cases g2 : v 4 i ≤ mew v k i
          · rw [if_pos g2, if_neg (by omega)]
          · rw [if_neg g2, if_pos ⟨g, by omega⟩]
        · rw [if_neg g, if_pos rfl, if_neg (fun h => g h.1)]
      -- the first half
      have e0 : fX10_addLiveFromOutside_2 (n + 1) (da d 100 0) (some (da d 5 k)) (nI i) (cB d c') = if v 7 i = 0 then (if OB0 v k i then (b2 (fX3_add (da d 111 0) (some (da d 1 i)) (cB d c')) fun _ s4 => fX10_addLiveFromOutside_84 (fX10_addLiveFromOutside_2 n) (da d 100 0) (some (da d 5 k)) (nI i) (da d 1 i) s4) else fX10_addLiveFromOutside_84 (fX10_addLiveFromOutside_2 n) (da d 100 0) (some (da d 5 k)) (nI i) (da d 1 i) (cB d c')) else fX10_addLiveFromOutside_2 n (da d 100 0) (some (da d 5 k)) (nI (i + 1)) (cB d c') := by
        rw [fX10_addLiveFromOutside_2, qa_100_0 hF hX, b1_s, qt_101 hF, b1_s, e_size R, b2_s, nI_ifle (by omega) (by omega), if_neg (by omega), qa_100_0 hF hX, b1_s, qt_101 hF, b1_s, e_find R hb hi k7, b2_s, nI_1]
        by_cases h7 : v 7 i = 0
        · have e76 : fX10_addLiveFromOutside_76 (fX10_addLiveFromOutside_2 n) (da d 100 0) (some (da d 5 k)) (nI i) (da d 1 i) (cB d c') = (b2 (fX3_add (da d 111 0) (some (da d 1 i)) (cB d c')) fun _ s4 => fX10_addLiveFromOutside_84 (fX10_addLiveFromOutside_2 n) (da d 100 0) (some (da d 5 k)) (nI i) (da d 1 i) s4) := by
            unfold fX10_addLiveFromOutside_76
            rw [qa_100_7 hF hX, b1_s, qt_111 hF, b1_s]
          have e49 : ∀ f : Int32, (f = 0 ∨ f = 1) → fX10_addLiveFromOutside_49 (fX10_addLiveFromOutside_2 n) (da d 100 0) (some (da d 5 k)) (nI i) (da d 1 i) f (cB d c') = if v 0 i = 2 ∨ Wtd v i ∨ f = 1 then fX10_addLiveFromOutside_76 (fX10_addLiveFromOutside_2 n) (da d 100 0) (some (da d 5 k)) (nI i) (da d 1 i) (cB d c') else fX10_addLiveFromOutside_84 (fX10_addLiveFromOutside_2 n) (da d 100 0) (some (da d 5 k)) (nI i) (da d 1 i) (cB d c') := by
            intro f hf
            unfold fX10_addLiveFromOutside_49
            rw [g_kind R hi, b1_s, nI_if2 (by omega)]
            by_cases g2 : v 0 i = 2
            · rw [if_pos g2, if_pos (Or.inl g2)]
            · rw [if_neg g2]
              rcases hf with rfl | rfl
              · rw [if_pos rfl, qa_100_2 hF hX, b1_s, qt_105 hF, b1_s, f1, b2_s]
                by_cases gw : Wtd v i
                · rw [if_neg (fun h => (f2.mp h) gw), if_pos (Or.inr (Or.inl gw))]
                · rw [if_pos (f2.mpr gw), if_neg (fun h => h.elim g2 (fun h => h.elim gw (by decide)))]
              · rw [if_neg (show ¬ (1 : Int32) = 0 by decide), if_pos (Or.inr (Or.inr rfl))]
          rw [if_pos h7, if_pos h7, oe_1, g_tg R hi, b1_s, e_isAnchor R hi (by omega) k8, b2_s, ← e76]
          by_cases ga : 0 < v 4 i ∧ v 8 i = 0
          · have g3 : v 0 i ≠ 3 := fun e => by
              have := (hT.g hi e).2.1
              omega
            rw [if_pos ga, if_neg (show ¬ (1 : Int32) = 0 by decide), b1_s, gk_tg R hk, b1_s, e_hasPassed R hb hk hi, b2_s]
            by_cases g : pas v k i = true
            · rw [if_pos g, if_neg (show ¬ (1 : Int32) = 0 by decide)]
              unfold fX10_addLiveFromOutside_48
              rw [e49 0 (Or.inl rfl)]
              by_cases ho : OB0 v k i
              · rw [if_pos ho, if_pos (ho.2.2.imp id (Or.imp id (fun h => by rw [g] at h; cases h.2)))]
              · rw [if_neg ho, if_neg (fun h => ho ⟨hi, h7, h.imp id (Or.imp id (fun h => absurd h (by decide)))⟩)]
            · rw [if_neg g, if_pos rfl, e49 1 (Or.inr rfl), if_pos (Or.inr (Or.inr rfl)), if_pos ⟨hi, h7, Or.inr (Or.inr ⟨⟨h7, g3, ga⟩, by simpa using g⟩)⟩]
          · rw [if_neg ga, if_pos rfl]
            unfold fX10_addLiveFromOutside_48
            rw [e49 0 (Or.inl rfl)]
            by_cases ho : OB0 v k i
            · rw [if_pos ho, if_pos (ho.2.2.imp id (Or.imp id (fun h => absurd h.1.2.2 ga)))]
            · rw [if_neg ho, if_neg (fun h => ho ⟨hi, h7, h.imp id (Or.imp id (fun h => absurd h (by decide)))⟩)]
        · rw [if_neg h7, oe_0, if_neg h7]
      -- the first half, done
      have first : v 7 i = 0 → ∃ c1 m1a od1a, fX10_addLiveFromOutside_2 (n + 1) (da d 100 0) (some (da d 5 k)) (nI i) (cB d c') = fX10_addLiveFromOutside_84 (fX10_addLiveFromOutside_2 n) (da d 100 0) (some (da d 5 k)) (nI i) (da d 1 i) (cB d c1) ∧ CS d c1 v u w m1a od1a m2' od2' ∧ LV v k m1a od1a m2' od2' ∧ (∀ x, In m1' od1' x → In m1a od1a x) ∧ (OB0 v k i → In m1a od1a i) := by
        intro h7
        rw [if_pos h7] at e0
        by_cases ho : OB0 v k i
        · obtain ⟨c1, m1a, od1a, r1, r2, r3, r4⟩ := p1.a1 hb hi
          rw [if_pos ho, r1, b2_s] at e0
          exact ⟨c1, m1a, od1a, e0, r2, p2.out ho r4, fun x hx => (r4 x).mpr (Or.inl hx), fun _ => (r4 i).mpr (Or.inr rfl)⟩
        · rw [if_neg ho] at e0
          exact ⟨c', m1', od1', e0, p1, p2, fun _ h => h, fun h => absurd h ho⟩
      by_cases h7 : v 7 i = 0
      · obtain ⟨c1, m1a, od1a, a1, a2, a3, a4, a5⟩ := first h7
        by_cases hp : pas v k i = true ∧ mew v k i < v 4 i
        · obtain ⟨c2, m1b, od1b, m2b, od2b, b1', b2', b3, b4, b5⟩ := e_bring a2 hT hi
          refine ⟨c2, ?_, m1b, od1b, m2b, od2b, b2', a3.bring hP hb hi hp.1 (Or.inl hp.2) b4 b5, fun x hx => ⟨fun h => ?_, fun h h' => ?_⟩⟩
          · show fX10_addLiveFromOutside_2 (n + 1) (da d 100 0) (some (da d 5 k)) (nI i) (cB d c') = _
            rw [a1, e84 c1 a2.1, if_pos hp, b1', b2_s]
          · by_cases e : x = i
            · subst e
              exact (b4 x).mpr (Or.inl (a5 h))
            · exact (b4 x).mpr (Or.inl (a4 x ((p3 x (by omega)).1 h)))
          · by_cases e : x = i
            · exact (b5 x).mpr (Or.inr e)
            · exact (b5 x).mpr (Or.inl ((p3 x (by omega)).2 h h'))
        · refine ⟨c1, ?_, m1a, od1a, m2', od2', a2, a3, fun x hx => ⟨fun h => ?_, fun h h' => ?_⟩⟩
          · show fX10_addLiveFromOutside_2 (n + 1) (da d 100 0) (some (da d 5 k)) (nI i) (cB d c') = _
            rw [a1, e84 c1 a2.1, if_neg hp]
          · by_cases e : x = i
            · subst e
              exact a5 h
            · exact a4 x ((p3 x (by omega)).1 h)
          · by_cases e : x = i
            · subst e
              exact absurd ⟨h, h'⟩ hp
            · exact (p3 x (by omega)).2 h h'
      · refine ⟨c', by rw [e0, if_neg h7], m1', od1', m2', od2', p1, p2, fun x hx => ⟨fun h => ?_, fun h h' => ?_⟩⟩
        · by_cases e : x = i
          · subst e
            exact absurd h.2.1 h7
          · exact (p3 x (by omega)).1 h
        · by_cases e : x = i
          · subst e
            exact absurd (hP x (by omega) (pas_iff.mp h).1).2 h7
          · exact (p3 x (by omega)).2 h h')
    (by
      rintro n c' ⟨m1', od1', m2', od2', p1, p2, p3⟩
      have R := p1.1
      refine ⟨c', m1', od1', m2', od2', ?_, p1, p2, p3⟩
      show fX10_addLiveFromOutside_2 (n + 1) (da d 100 0) (some (da d 5 k)) (nI (v 9 0)) (cB d c') = _
      rw [fX10_addLiveFromOutside_2, qa_100_0 R.2.1 R.2.2.1, b1_s, qt_101 R.2.1, b1_s, e_size R, b2_s, if_pos (Int32.le_refl _)])
  refine key (v 9 0) 100000 0 c (by omega) (by omega) ⟨0, od1, 0, od2, C, ⟨?_, ?_, ?_⟩, fun x hx => by omega⟩
  · rintro x ⟨i, hi, -⟩; omega
  · rintro x ⟨i, hi, -⟩; omega
  · rintro x ⟨i, hi, -⟩; omega
end AV
