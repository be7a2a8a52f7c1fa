section AW
variable {d d' : AD} {c c' : CH} {v v' : Nu} {u u' : Mu} {w w' : Me} {n q z m r t p k l b0 g wt x y h m1 m2 i : Nat} {od od1 od2 : Nat → Nat} {S S' : Nat → Prop}
/-- what x brings alive -/
def rvt (v : Nu) (x : Nat) : Nat := if v 0 x = 3 then v 5 x - 1 else x
def rvc (v : Nu) (k x : Nat) : Prop := (v 0 x = 3 → met v k x = true) ∧ pas v k (rvt v x) = true
theorem rvt_lt (hT : iT v) (hx : x < v 9 0) : rvt v x < v 9 0 := by
  simp only [rvt]
  by_cases e : v 0 x = 3
  · obtain ⟨m, m1, m2, -⟩ := (hT.g hx e).1
    rw [if_pos e]
    omega
  · rw [if_neg e]; exact hx
theorem e_revive (C : CS d c v u w m1 od1 m2 od2) (hT : iT v) (hk : k < v 46 0) (hP : iP v k) (L : LV v k m1 od1 m2 od2) (hx : x < v 9 0) (hR : RB v k (AL v k) x) : ∃ c' m1' od1' m2' od2', fX10_revive (da d 100 0) (some (da d 5 k)) (some (da d 1 x)) (cB d c) = some ((), cB d c') ∧ CS d c' v u w m1' od1' m2' od2' ∧ LV v k m1' od1' m2' od2' ∧ Gr m1 od1 m1' od1' ∧ (∀ x, In m1 od1 x → In m1' od1' x) ∧ (∀ x, In m2 od2 x → In m2' od2' x) ∧ (rvc v k x → In m2' od2' (rvt v x)) := by
  have hb := hT.1
  have R := C.1
  haveI := Classical.propDecidable (rvc v k x)
  obtain ⟨k0, k1, k3, k7, k8, k4, k6⟩ := hT.k hx
  have hrt := rvt_lt hT hx
  have e : fX10_revive (da d 100 0) (some (da d 5 k)) (some (da d 1 x)) (cB d c) = if rvc v k x then (b2 (fX10_bringAlive (da d 100 0) (some (da d 1 (rvt v x))) (cB d c)) fun _ s9 => some ((), s9)) else some ((), cB d c) := by
    unfold fX10_revive
    rw [b1_s, g_kind R hx, b1_s, nI_if3 (by omega)]
    have e27 : ∀ t, t < v 9 0 → fX10_revive_27 (da d 100 0) (some (da d 5 k)) (some (da d 1 t)) (cB d c) = if pas v k t = true then (b2 (fX10_bringAlive (da d 100 0) (some (da d 1 t)) (cB d c)) fun _ s9 => some ((), s9)) else some ((), cB d c) := by
      intro t ht
      unfold fX10_revive_27
      rw [oe_1, b1_s, gk_tg R hk, b1_s, e_hasPassed R hb hk ht, b2_s]
      by_cases g : pas v k t = true
      · rw [if_pos g, if_neg (show ¬ (1 : Int32) = 0 by decide), if_pos g, qt_100 R.2.1, b1_s]
      · rw [if_neg g, if_pos rfl, if_neg g]
    by_cases g3 : v 0 x = 3
    · have h5 := (hT.g hx g3).1
      have er : rvt v x = v 5 x - 1 := by simp only [rvt, if_pos g3]
      rw [if_pos g3, b1_s, gk_tg R hk, b1_s, e_hasMet R hb hk hx, b2_s]
      by_cases gm : met v k x = true
      · rw [if_pos gm, if_neg (show ¬ (1 : Int32) = 0 by decide), g_named R hx, b1_s, if_neg (by obtain ⟨m, m1, -⟩ := h5; omega)]
        unfold fX10_revive_26
        rw [← er, e27 _ hrt]
        by_cases gp : pas v k (rvt v x) = true
        · rw [if_pos gp, if_pos ⟨fun _ => gm, gp⟩]
        · rw [if_neg gp, if_neg (fun h => gp h.2)]
      · rw [if_neg gm, if_pos rfl, if_neg (fun h => gm (h.1 g3))]
        unfold fX10_revive_26 fX10_revive_27
        rw [oe_0]
    · have er : rvt v x = x := by simp only [rvt, if_neg g3]
      rw [if_neg g3, e27 x hx]
      by_cases gp : pas v k x = true
      · rw [if_pos gp, if_pos ⟨fun h => absurd h g3, by rw [er]; exact gp⟩, er]
      · rw [if_neg gp, if_neg (fun h => gp (by have h2 := h.2; rw [er] at h2; exact h2))]
  by_cases g : rvc v k x
  · obtain ⟨c2, m1b, od1b, m2b, od2b, b1', b2', b3, b4, b5⟩ := e_bring C hT hrt
    rw [if_pos g, b1', b2_s] at e
    refine ⟨c2, m1b, od1b, m2b, od2b, e, b2', L.bring hP hb hrt g.2 (Or.inr ?_) b4 b5, b3, fun x hx => (b4 x).mpr (Or.inl hx), fun x hx => (b5 x).mpr (Or.inl hx), fun _ => (b5 _).mpr (Or.inr rfl)⟩
    by_cases g3 : v 0 x = 3
    · right
      obtain ⟨m, m1, -⟩ := (hT.g hx g3).1
      exact ⟨x, hx, g.1 g3, by simp only [rvt, if_pos g3]; omega, hR⟩
    · left
      simp only [rvt, if_neg g3]
      exact hR
  · rw [if_neg g] at e
    exact ⟨c, m1, od1, m2, od2, e, C, L, Gr.rfl, fun _ h => h, fun _ h => h, fun h => absurd h g⟩
theorem e_isStartAlive [Decidable (AL v k (v 38 k))] (R : RC d c v u w) (hT : iT v) (hW : iW v) (hk : k < v 46 0) (hP : iP v k) (h44 : ∀ x, x < 300 → v 44 (300 * k + x) ≤ 40000) (h38 : v 38 k < v 9 0) : ∃ c', fX10_isStartAlive (da d 100 0) (some (da d 5 k)) (cB d c) = some (if AL v k (v 38 k) then 1 else 0, cB d c') ∧ RC d c' v u w := by
  have hb := hT.1
  obtain ⟨c1, od1, a1, a2, a3, a4⟩ := e_restart2 R hb (Or.inl rfl)
  obtain ⟨c2, od2, b1', b2', b3, b4⟩ := e_restart2 a3 hb (Or.inr (Or.inl rfl))
  have a4' : SR c2 111 (v 9 0) 0 od1 := a4.cg (b2'.sm (by decide)) (b2'.sm (by decide)) (b2'.sm (by decide)) (Nat.le_refl _)
  obtain ⟨c3, m1, o1, m2, o2, d1, d2, d3, d4⟩ := e_addLive (k := k) (⟨b3, a4', b4⟩ : CS d c2 v u w 0 od1 0 od2) hT hW hk hP h44
  have fin : ∀ (c4 : CH) (m1 : Nat) (o1 : Nat → Nat) (m2 : Nat) (o2 : Nat → Nat) (i : Nat), m1 ≤ i → CS d c4 v u w m1 o1 m2 o2 → LV v k m1 o1 m2 o2 → (∀ x, x < v 9 0 → (OB0 v k x → In m1 o1 x) ∧ (pas v k x = true → mew v k x < v 4 x → In m2 o2 x)) → (∀ j, j < i → j < m1 → (∀ y, LEv v (o1 j) y → In m1 o1 y) ∧ (rvc v k (o1 j) → In m2 o2 (rvt v (o1 j)))) → ∃ c', fX10_isStartAlive_75 (da d 100 0) (some (da d 5 k)) (cB d c4) = some (if AL v k (v 38 k) then 1 else 0, cB d c') ∧ RC d c' v u w := by
    intro c4 m1 o1 m2 o2 i hi C L h1 h2
    have R4 := C.1
    refine ⟨c4, ?_, R4⟩
    have hin : In m2 o2 (v 38 k) ↔ AL v k (v 38 k) := by
      refine ⟨fun h => (L.2.1 _ h).1, fun h => h (In m2 o2) (fun z hz hp hA => ?_)⟩
      have hrb : ∀ x, RB v k (In m2 o2) x → In m1 o1 x := fun x hx => hx (In m1 o1) (fun b hb => by
        obtain ⟨e1, e2, e3 | e3 | ⟨e3, e4 | e4⟩⟩ := hb
        · exact (h1 b e1).1 ⟨e1, e2, Or.inl e3⟩
        · exact (h1 b e1).1 ⟨e1, e2, Or.inr (Or.inl e3)⟩
        · exact (h1 b e1).1 ⟨e1, e2, Or.inr (Or.inr ⟨e3, e4⟩)⟩
        · exact L.2.2 b e4 e3) (fun a b ha hab => by
        obtain ⟨j, j1, j2⟩ := ha
        exact (h2 j (by omega) j1).1 b (by rw [j2]; exact hab))
      rcases hA with h | h | ⟨g, g1, g2, g3, g4⟩
      · exact (h1 z hz).2 hp h
      · obtain ⟨j, j1, j2⟩ := hrb z h
        have hk3 := (pas_iff.mp hp).2
        have := (h2 j (by omega) j1).2
        rw [j2] at this
        have er : rvt v z = z := by simp only [rvt, if_neg hk3]
        rw [er] at this
        exact this ⟨fun h => absurd h hk3, by rw [er]; exact hp⟩
      · obtain ⟨j, j1, j2⟩ := hrb g g4
        have hk3 := (met_iff.mp g2).2
        have := (h2 j (by omega) j1).2
        rw [j2] at this
        have er : rvt v g = z := by simp only [rvt, if_pos hk3]; omega
        rw [er] at this
        exact this ⟨fun _ => g2, by rw [er]; exact hp⟩
    unfold fX10_isStartAlive_75
    rw [qa_100_8 R4.2.1 R4.2.2.1, b1_s, b1_s, gk_start R4 hk, b1_s, qt_114 R4.2.1, b1_s, e_has (R4.rr (Or.inr (Or.inl rfl))) (R4.tn hb) C.2.2 h38, b2_s, C.2.2.mark (by omega) hin]
    split <;> rfl
  have key : ∀ (g n i : Nat) (c4 : CH) (m1 : Nat) (o1 : Nat → Nat) (m2 : Nat) (o2 : Nat → Nat), i + g = 300 → g < n → CS d c4 v u w m1 o1 m2 o2 → LV v k m1 o1 m2 o2 → (∀ x, x < v 9 0 → (OB0 v k x → In m1 o1 x) ∧ (pas v k x = true → mew v k x < v 4 x → In m2 o2 x)) → (∀ j, j < i → j < m1 → (∀ y, LEv v (o1 j) y → In m1 o1 y) ∧ (rvc v k (o1 j) → In m2 o2 (rvt v (o1 j)))) → i ≤ m1 → ∃ c', fX10_isStartAlive_21 n (da d 100 0) (some (da d 5 k)) (nI i) (cB d c4) = some (if AL v k (v 38 k) then 1 else 0, cB d c') ∧ RC d c' v u w := by
    intro g
    induction g with
    | zero =>
      intro n i c4 m1 o1 m2 o2 e1 e2 C L h1 h2 h3
      obtain ⟨n, rfl⟩ : ∃ n', n = n' + 1 := ⟨n - 1, by omega⟩
      have hm := C.2.1.1
      have R4 := C.1
      obtain ⟨c', f1, f2⟩ := fin c4 m1 o1 m2 o2 i (by omega) C L h1 h2
      refine ⟨c', ?_, f2⟩
      rw [fX10_isStartAlive_21, qa_100_7 R4.2.1 R4.2.2.1, b1_s, qt_111 R4.2.1, b1_s, e_rsize (R4.rr (Or.inl rfl)) C.2.1, b2_s, nI_ifle (by omega) (by omega), if_pos (by omega)]
      exact f1
    | succ g ih =>
      intro n i c4 m1 o1 m2 o2 e1 e2 C L h1 h2 h3
      obtain ⟨n, rfl⟩ : ∃ n', n = n' + 1 := ⟨n - 1, by omega⟩
      have hm := C.2.1.1
      have R4 := C.1
      rcases Nat.lt_or_ge i m1 with hi | hi
      · obtain ⟨x1, x2⟩ := C.2.1.2.2.1 i hi
        obtain ⟨c5, m5, o5, p1, p2, p3, p4, p5, p6, p7⟩ := e_addHeldBy R4 hT.tb (Or.inl rfl) C.2.1 x1
        have C5 : CS d c5 v u w m5 o5 m2 o2 := ⟨p3, p4, C.2.2.cg (p2.sm (by decide)) (p2.sm (by decide)) (p2.sm (by decide)) (Nat.le_refl _)⟩
        have hRi : RB v k (AL v k) (o1 i) := L.1 _ ⟨i, hi, rfl⟩
        have L5 : LV v k m5 o5 m2 o2 := by
          refine ⟨fun x hx => ?_, L.2.1, fun x hx ha => (p7 x).mpr (Or.inl (L.2.2 x hx ha))⟩
          rcases (p7 x).mp hx with h | h
          · exact L.1 x h
          · exact Cl.step hRi h
        obtain ⟨c6, m6, o6, m7, o7, q1, q2, q3, q4, q5, q6, q7⟩ := e_revive C5 hT hk hP L5 x1 hRi
        have e3 : fX10_isStartAlive_21 (n + 1) (da d 100 0) (some (da d 5 k)) (nI i) (cB d c4) = fX10_isStartAlive_21 n (da d 100 0) (some (da d 5 k)) (nI (i + 1)) (cB d c6) := by
          rw [fX10_isStartAlive_21, qa_100_7 R4.2.1 R4.2.2.1, b1_s, qt_111 R4.2.1, b1_s, e_rsize (R4.rr (Or.inl rfl)) C.2.1, b2_s, nI_ifle (by omega) (by omega), if_neg (by omega), show (300 : Int32) = nI 300 from rfl, nI_ifle (by omega) (by omega), if_neg (by omega), qa_100_7 R4.2.1 R4.2.2.1, b1_s, qt_111 R4.2.1, b1_s, e_rat (R4.rr (Or.inl rfl)) C.2.1 hi, b2_s, oe_1, qa_100_7 R4.2.1 R4.2.2.1, b1_s, qt_111 R4.2.1, b1_s, p1, b2_s, qt_100 p3.2.1, b1_s, q1, b2_s, nI_1]
        rw [e3]
        refine ih n (i + 1) c6 m6 o6 m7 o7 (by omega) (by omega) q2 q3 (fun x hx => ⟨fun h => q5 x ((p7 x).mpr (Or.inl ((h1 x hx).1 h))), fun h h' => q6 x ((h1 x hx).2 h h')⟩) (fun j hj hj2 => ?_) (by have := q4.1; omega)
        have eo : o6 j = o1 j := by
          rw [q4.2 j (by omega), p6 j (by omega)]
        rw [eo]
        by_cases e : j = i
        · subst e
          exact ⟨fun y hy => q5 y ((p7 y).mpr (Or.inr hy)), q7⟩
        · obtain ⟨s1, s2⟩ := h2 j (by omega) (by omega)
          exact ⟨fun y hy => q5 y ((p7 y).mpr (Or.inl (s1 y hy))), fun h => q6 _ (s2 h)⟩
      · obtain ⟨c', f1, f2⟩ := fin c4 m1 o1 m2 o2 i hi C L h1 h2
        refine ⟨c', ?_, f2⟩
        rw [fX10_isStartAlive_21, qa_100_7 R4.2.1 R4.2.2.1, b1_s, qt_111 R4.2.1, b1_s, e_rsize (R4.rr (Or.inl rfl)) C.2.1, b2_s, nI_ifle (by omega) (by omega), if_pos (by omega)]
        exact f1
  obtain ⟨c', f1, f2⟩ := key 300 100000 0 c3 m1 o1 m2 o2 (by omega) (by omega) d2 d3 d4 (fun j hj => by omega) (by omega)
  refine ⟨c', ?_, f2⟩
  unfold fX10_isStartAlive
  rw [qa_100_7 R.2.1 R.2.2.1, b1_s, qt_111 R.2.1, b1_s, a1, b2_s, qa_100_8 a3.2.1 a3.2.2.1, b1_s, qt_114 a3.2.1, b1_s, b1', b2_s, qt_100 b3.2.1, b1_s, d1, b2_s]
  exact f1
end AW
