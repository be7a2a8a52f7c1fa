/-! A letter more: what holds between calls. -/
def ltz (v : Nu) (kd to fr t wt rt pl wk st : Nat) : Nu := zu (zu (zu (zu (zu (zu (zu (zu (zu (zu (zu v 14 (v 24 0) kd) 15 (v 24 0) to) 16 (v 24 0) fr) 17 (v 24 0) t) 18 (v 24 0) wt) 19 (v 24 0) rt) 20 (v 24 0) pl) 21 (v 24 0) wk) 22 (v 24 0) st) 23 (v 24 0) 1) 24 0 (v 24 0 + 1)
section LT
variable {n t p x y h s l kd to fr wt rt pl wk st : Nat} {D : Nat → Prop} {v v' : Nu} {u u' : Mu} {w w' : Me}
theorem ltv_eq : ltv v kd to fr t wt rt pl wk st = ltz v kd to fr t wt rt pl wk st := by
  funext k i
  by_cases e1 : i = v 24 0 ∧ 14 ≤ k ∧ k ≤ 23
  · obtain ⟨rfl, e2, e3⟩ := e1
    rcases (show k = 14 ∨ k = 15 ∨ k = 16 ∨ k = 17 ∨ k = 18 ∨ k = 19 ∨ k = 20 ∨ k = 21 ∨ k = 22 ∨ k = 23 by omega) with rfl | rfl | rfl | rfl | rfl | rfl | rfl | rfl | rfl | rfl <;> simp [ltv, ltz, zu]
  · by_cases e2 : k = 24 ∧ i = 0
    · obtain ⟨rfl, rfl⟩ := e2
      simp [ltv, ltz, zu]
    · rw [ltv_n e1 e2]
      simp only [ltz]
      rw [zu_n (by omega), zu_n (by omega), zu_n (by omega), zu_n (by omega), zu_n (by omega), zu_n (by omega), zu_n (by omega), zu_n (by omega), zu_n (by omega), zu_n (by omega), zu_n (by omega)]
theorem ltz_24 : ltz v kd to fr t wt rt pl wk st 24 0 = v 24 0 + 1 := by rw [← ltv_eq]; exact ltv_24
theorem ltz_l : ltz v kd to fr t wt rt pl wk st 14 (v 24 0) = kd ∧ ltz v kd to fr t wt rt pl wk st 15 (v 24 0) = to ∧ ltz v kd to fr t wt rt pl wk st 16 (v 24 0) = fr ∧ ltz v kd to fr t wt rt pl wk st 17 (v 24 0) = t ∧ ltz v kd to fr t wt rt pl wk st 18 (v 24 0) = wt ∧ ltz v kd to fr t wt rt pl wk st 19 (v 24 0) = rt ∧ ltz v kd to fr t wt rt pl wk st 20 (v 24 0) = pl ∧ ltz v kd to fr t wt rt pl wk st 21 (v 24 0) = wk ∧ ltz v kd to fr t wt rt pl wk st 22 (v 24 0) = st ∧ ltz v kd to fr t wt rt pl wk st 23 (v 24 0) = 1 := by rw [← ltv_eq]; exact ltv_l
theorem ltz_n {k i : Nat} (h1 : i ≠ v 24 0) (h2 : ¬ (k = 24 ∧ i = 0)) : ltz v kd to fr t wt rt pl wk st k i = v k i := by rw [← ltv_eq]; exact ltv_n (by omega) h2
theorem ltz_o {k i : Nat} (h1 : k < 14 ∨ 24 < k) : ltz v kd to fr t wt rt pl wk st k i = v k i := by rw [← ltv_eq]; exact ltv_n (by omega) (by omega)
/-- a letter of v, in the new tables -/
theorem LO.ltz (h : LO v l) (hl : l < v 24 0) : LO (ltz v kd to fr t wt rt pl wk st) l := by
  simp only [LO]
  rw [ltz_n (k := 14) (by omega) (by omega), ltz_n (k := 15) (by omega) (by omega), ltz_n (k := 16) (by omega) (by omega), ltz_n (k := 17) (by omega) (by omega), ltz_n (k := 18) (by omega) (by omega), ltz_n (k := 19) (by omega) (by omega), ltz_n (k := 20) (by omega) (by omega), ltz_n (k := 21) (by omega) (by omega), ltz_n (k := 22) (by omega) (by omega), ltz_n (k := 23) (by omega) (by omega)]
  exact h
theorem iL.ltz (hL : iL v) (h600 : v 24 0 < 600) (hn : LO (ltz v kd to fr t wt rt pl wk st) (v 24 0)) : iL (ltz v kd to fr t wt rt pl wk st) := by
  refine ⟨by rw [ltz_24]; omega, fun l hl => ?_, fun l h1 h2 => ?_⟩
  · rw [ltz_24] at hl
    by_cases e : l = v 24 0
    · rw [e]; exact hn
    · exact (hL.2.1 l (by omega)).ltz (by omega)
  · rw [ltz_24] at h1
    rw [ltz_n (by omega) (by omega)]
    exact hL.2.2 l (by omega) h2
theorem lsum_ltz : lsum (ltz v kd to fr t wt rt pl wk st) s = lsum v s + (if t = s then wt else 0) := by
  obtain ⟨a14, a15, a16, a17, a18, a19, a20, a21, a22, a23⟩ := ltz_l (v := v) (kd := kd) (to := to) (fr := fr) (t := t) (wt := wt) (rt := rt) (pl := pl) (wk := wk) (st := st)
  simp only [lsum]
  rw [ltz_24, fb_sm_succ, a23, a17, a18]
  congr 1
  · refine fb_sm_cong (fun l hl => ?_)
    rw [ltz_n (k := 23) (by omega) (by omega), ltz_n (k := 17) (by omega) (by omega), ltz_n (k := 18) (by omega) (by omega)]
  · simp
theorem qlet_iff {hh : Nat} : qlet v hh s l = true ↔ v 23 l = 1 ∧ v 17 l = s ∧ ((v 14 l = 1 ∧ v 16 l = hh) ∨ (v 14 l = 2 ∧ v 15 l = hh)) := by
  simp [qlet, and_assoc]
theorem qwai_iff {hh : Nat} : qwai v hh s l = true ↔ v 1 (v 26 l) = hh ∧ v 5 (v 26 l) = s + 1 := by
  simp [qwai]
theorem if_iff {a b : Prop} [Decidable a] [Decidable b] (h : a ↔ b) : (if a then 1 else 0 : Nat) = if b then 1 else 0 := by
  by_cases c : b
  · rw [if_pos (h.mpr c), if_pos c]
  · rw [if_neg (fun h2 => c (h.mp h2)), if_neg c]
theorem qlet_ltz {hh : Nat} : fb_ct (qlet (ltz v kd to fr t wt rt pl wk st) hh s) (ltz v kd to fr t wt rt pl wk st 24 0) = fb_ct (qlet v hh s) (v 24 0) + (if t = s ∧ ((kd = 1 ∧ fr = hh) ∨ (kd = 2 ∧ to = hh)) then 1 else 0) := by
  obtain ⟨a14, a15, a16, a17, a18, a19, a20, a21, a22, a23⟩ := ltz_l (v := v) (kd := kd) (to := to) (fr := fr) (t := t) (wt := wt) (rt := rt) (pl := pl) (wk := wk) (st := st)
  rw [ltz_24, fb_ct_succ]
  congr 1
  · refine fb_ct_cong (fun l hl => ?_)
    simp only [qlet]
    rw [ltz_n (k := 23) (by omega) (by omega), ltz_n (k := 17) (by omega) (by omega), ltz_n (k := 14) (by omega) (by omega), ltz_n (k := 15) (by omega) (by omega), ltz_n (k := 16) (by omega) (by omega)]
  · refine if_iff ?_
    rw [qlet_iff, a23, a17, a14, a16, a15]
    simp
theorem iX.ltz (hX : iX v) (hn : ∀ k, wk = k + 1 → v 37 k = 0 → (kd = 4 ∧ t = v 38 k) ∨ v 42 (300 * k + v 38 k) = 1 ∨ v 7 (v 38 k) = 1) : iX (ltz v kd to fr t wt rt pl wk st) := by
  obtain ⟨a14, a15, a16, a17, a18, a19, a20, a21, a22, a23⟩ := ltz_l (v := v) (kd := kd) (to := to) (fr := fr) (t := t) (wt := wt) (rt := rt) (pl := pl) (wk := wk) (st := st)
  intro l k hl h21 h37
  rw [ltz_24] at hl
  by_cases e : l = v 24 0
  · subst e
    rw [a21] at h21
    rw [a14, a17]
    exact hn k h21 h37
  · rw [ltz_n (by omega) (by omega)] at h21
    rw [ltz_n (k := 14) (by omega) (by omega), ltz_n (k := 17) (by omega) (by omega)]
    exact hX l k (by omega) h21 h37
theorem iM.ltz (hM : iM v) (hn : kd = 0 → ∀ x, Cl (MtE v) (fun y => y = t) x → v 7 x = 0 ∧ v 8 x = 0) : iM (ltz v kd to fr t wt rt pl wk st) := by
  obtain ⟨a14, a15, a16, a17, a18, a19, a20, a21, a22, a23⟩ := ltz_l (v := v) (kd := kd) (to := to) (fr := fr) (t := t) (wt := wt) (rt := rt) (pl := pl) (wk := wk) (st := st)
  intro x hx
  have key : Mt v x ∨ (kd = 0 ∧ Cl (MtE v) (fun y => y = t) x) := by
    refine hx (fun x => Mt v x ∨ (kd = 0 ∧ Cl (MtE v) (fun y => y = t) x)) ?_ ?_
    · rintro b (hb | ⟨l, h1, h2, h3, h4⟩ | hb)
      · exact Or.inl (Cl.base (Or.inl hb))
      · rw [ltz_24] at h1
        by_cases e : l = v 24 0
        · subst e
          rw [a14] at h3
          rw [a17] at h4
          exact Or.inr ⟨h3, Cl.base h4.symm⟩
        · rw [ltz_n (by omega) (by omega)] at h2 h3 h4
          exact Or.inl (Cl.base (Or.inr (Or.inl ⟨l, by omega, h2, h3, h4⟩)))
      · exact Or.inl (Cl.base (Or.inr (Or.inr hb)))
    · intro x y hS hE
      have hE' : MtE v x y := hE
      rcases hS with hS | ⟨s1, s2⟩
      · exact Or.inl (hS.step hE')
      · exact Or.inr ⟨s1, s2.step hE'⟩
  rcases key with key | ⟨k1, k2⟩
  · exact hM x key
  · exact hn k1 x k2
/-! weights and exits -/
theorem gsum_6 {g e : Nat} (hg : g < v 9 0) : gsum (zu v 6 g e) s + (if v 7 g = 0 ∧ v 0 g = 3 ∧ v 5 g = s + 1 then v 6 g else 0) = gsum v s + (if v 7 g = 0 ∧ v 0 g = 3 ∧ v 5 g = s + 1 then e else 0) := by
  have e1 : gsum (zu v 6 g e) s = fb_sm (fun k => if k = g then (if v 7 g = 0 ∧ v 0 g = 3 ∧ v 5 g = s + 1 then e else 0) else (if v 7 k = 0 ∧ v 0 k = 3 ∧ v 5 k = s + 1 then v 6 k else 0)) (v 9 0) := by
    refine fb_sm_cong (fun k hk => ?_)
    have e7 : zu v 6 g e 7 k = v 7 k := rfl
    have e0 : zu v 6 g e 0 k = v 0 k := rfl
    have e5 : zu v 6 g e 5 k = v 5 k := rfl
    rw [e7, e0, e5]
    by_cases e : k = g
    · subst e
      rw [if_pos rfl, zu_s]
    · rw [if_neg e, zu_n (by omega)]
  rw [e1]
  exact fb_sm_upd (fun k => if v 7 k = 0 ∧ v 0 k = 3 ∧ v 5 k = s + 1 then v 6 k else 0) _ hg
theorem iT.exit {e : Nat} (hT : iT v) (ht : t < v 9 0) (h3 : v 0 t ≠ 3) (he : e ≤ 40000) : iT (zu v 4 t e) := by
  refine ⟨hT.1, fun s hs => ?_⟩
  obtain ⟨c1, c2, c3, c4, c5, c6, c7, c8, c9, c10, c11, c12, c13⟩ := hT.2 s hs
  by_cases e1 : s = t
  · subst e1
    exact ⟨c1, c2, c3, c4, c5, by rw [zu_s]; exact he, c7, c8, c9, c10, fun h => absurd h h3, c12, c13⟩
  · have e4 : zu v 4 t e 4 s = v 4 s := zu_n (by omega)
    exact ⟨c1, c2, c3, c4, c5, by rw [e4]; exact c6, c7, c8, c9, c10, fun h => by rw [e4]; exact c11 h, c12, c13⟩
theorem iT.weight {e : Nat} (hT : iT v) (ht : t < v 9 0) (h3 : v 0 t = 3) (he : 1 ≤ e ∧ e ≤ 40000) : iT (zu v 6 t e) := by
  refine ⟨hT.1, fun s hs => ?_⟩
  obtain ⟨c1, c2, c3, c4, c5, c6, c7, c8, c9, c10, c11, c12, c13⟩ := hT.2 s hs
  by_cases e1 : s = t
  · subst e1
    have e6 : zu v 6 s e 6 s = e := zu_s
    exact ⟨c1, c2, c3, c4, c5, c6, by rw [e6]; exact he.2, c8, c9, c10, fun h => ⟨(c11 h).1, (c11 h).2.1, (c11 h).2.2.1, by rw [e6]; exact he.1⟩, fun h => absurd h3 h, c13⟩
  · have e6 : zu v 6 t e 6 s = v 6 s := zu_n (by omega)
    exact ⟨c1, c2, c3, c4, c5, c6, by rw [e6]; exact c7, c8, c9, c10, fun h => by rw [e6]; exact c11 h, fun h => by rw [e6]; exact c12 h, c13⟩
theorem loc_exit {e g : Nat} (hne : v 1 t ≠ g) : Loc v (zu v 4 t e) g := by
  refine ⟨fun x hx hg => ⟨hx, hg, rfl, rfl, ?_, rfl, rfl, rfl, Iff.rfl, fun _ _ => ⟨rfl, fun _ => rfl⟩⟩, fun x hx hg => ⟨hx, hg⟩⟩
  exact zu_n (fun h => hne (by rw [← hg, h.2]))
theorem loc_weight {e g : Nat} (hne : v 1 t ≠ g) : Loc v (zu v 6 t e) g := by
  refine ⟨fun x hx hg => ⟨hx, hg, rfl, rfl, rfl, ?_, rfl, rfl, Iff.rfl, fun _ _ => ⟨rfl, fun _ => rfl⟩⟩, fun x hx hg => ⟨hx, hg⟩⟩
  exact zu_n (fun h => hne (by rw [← hg, h.2]))
theorem iF.exit {e : Nat} (hF : iF v u) (ht : t < v 9 0) : iF (zu v 4 t e) u := by
  intro s h1 h2
  obtain ⟨c1, c2, c3⟩ := hF s h1 h2
  have h1' : v 9 0 ≤ s := h1
  exact ⟨c1, by rw [zu_n (by omega)]; exact c2, c3⟩
theorem iF.weight {e : Nat} (hF : iF v u) (ht : t < v 9 0) : iF (zu v 6 t e) u := by
  intro s h1 h2
  obtain ⟨c1, c2, c3, c4⟩ := hF s h1 h2
  have h1' : v 9 0 ≤ s := h1
  exact ⟨c1, c2, by rw [zu_n (by omega)]; exact c3, c4⟩
theorem iK.touch1 {h0 : Nat} (hT : iT v) (h : iK (fun g => g = h0) n v w) : iK D0 n (tch v h0) w := by
  obtain ⟨h1, h2, h3⟩ := h
  refine ⟨h1, fun k hk => ?_, h3⟩
  obtain ⟨a1, a2, a3, a4, a5, a6, a7, a8⟩ := h2 k hk
  refine ⟨a1, a2, a3, a4, a5, a6, fun g hg => ?_, fun e => ⟨(a8 e).1, fun x hx hx2 => ⟨((a8 e).2 x hx hx2).1, fun e1 _ => ?_⟩⟩⟩
  · by_cases e : g = h0
    · subst e
      rw [tch_30]
      have := a7 g hg
      show v 41 (8 * k + g) ≤ _
      omega
    · rw [tch_n e]
      exact a7 g hg
  · have e1' : v 41 (8 * k + v 1 x) = tch v h0 30 (v 1 x) + 1 := e1
    by_cases e2 : v 1 x = h0
    · have hg := (hT.k ((a6 x hx).2.2.2 hx2)).2.1
      have := a7 _ hg
      rw [e2] at e1' this
      rw [tch_30] at e1'
      omega
    · rw [tch_n e2] at e1'
      exact ((a8 e).2 x hx hx2).2 e1' e2
theorem Inv.touch1 {h0 : Nat} (h : Inv (fun g => g = h0) (n + 1) v u w) (hc : ∀ g, g < 8 → v 30 g ≤ n) : Inv D0 (n + 1) (tch v h0) u w := by
  obtain ⟨h1, h2, h3, h4, h5, h6, h7⟩ := h
  refine ⟨h1, h2, h3, h4, ⟨fun g hg => ?_, h5.2⟩, h6.touch1 h1, h7⟩
  have := hc g hg
  by_cases e : g = h0
  · subst e
    rw [tch_30]
    omega
  · rw [tch_n e]
    omega
/-- a thing that is no GATE is SENT -/
theorem Inv.send64 {root : Nat} (hI : Inv D n v u w) (hn : n < 512) (h600 : v 24 0 < 600) (ht : t < v 9 0) (h3 : v 0 t ≠ 3) (hD : D (v 1 t)) (hr : root < v 9 0) (hr2 : v 0 root = 2) (hp : p < v 3 root) (hm : ∀ x, Cl (MtE v) (fun y => y = t) x → v 7 x = 0 ∧ v 8 x = 0) : Inv D (n + 1) (ltz (zu v 4 t (v 4 t + 64)) 0 (v 1 root) (v 1 t) t 64 (root + 1) (p + 1) 0 0) u w := by
  obtain ⟨hT, hF, hL, hW, hC, hK, hX, hS, hG, hQ, hM⟩ := hI
  have hle := (hS t ht h3).2
  have hT1 : iT (zu v 4 t (v 4 t + 64)) := hT.exit ht h3 (by omega)
  have hL1 : iL (zu v 4 t (v 4 t + 64)) := hL
  obtain ⟨a14, a15, a16, a17, a18, a19, a20, a21, a22, a23⟩ := ltz_l (v := zu v 4 t (v 4 t + 64)) (kd := 0) (to := v 1 root) (fr := v 1 t) (t := t) (wt := 64) (rt := root + 1) (pl := p + 1) (wk := 0) (st := 0)
  have hK' : iK D n (ltz (zu v 4 t (v 4 t + 64)) 0 (v 1 root) (v 1 t) t 64 (root + 1) (p + 1) 0 0) w := by
    refine hK.loc hT (show iT (zu v 4 t (v 4 t + 64)) from hT1) (fun g hg hd => ?_) (fun _ _ => rfl) (Nat.le_refl _) (fun _ _ => ⟨rfl, rfl⟩) (fun f i hf => ?_) (fun _ => rfl)
    · exact loc_exit (fun e => hd (by rw [← e]; exact hD))
    · rw [ltz_o (by omega)]
      exact zu_n (by omega)
  refine ⟨hT1, hF.exit ht, hL1.ltz h600 ?_, hW, hC.up, hK'.up, ?_, fun s hs hs3 => ?_, hG, fun g s => ?_, ?_⟩
  · have b24 : zu v 4 t (v 4 t + 64) 24 0 = v 24 0 := rfl
    rw [b24] at a14 a15 a16 a17 a18 a19 a20 a21 a22 a23 ⊢
    simp only [LO]
    rw [a14, a15, a16, a17, a18, a19, a20, a21, a22, a23]
    refine ⟨by decide, (hT.k hr).2.1, (hT.k ht).2.1, ht, h3, by decide, by decide, fun _ => ⟨root, p, rfl, rfl, hr, hr2, rfl, hp, by decide⟩, fun e => absurd rfl e, fun e => by omega, fun e => by omega, fun e => by omega, fun e => by omega, fun _ => rfl⟩
  · exact (show iX (zu v 4 t (v 4 t + 64)) from hX).ltz (fun k e => by omega)
  · obtain ⟨s1, s2⟩ := hS s hs hs3
    rw [lsum_ltz]
    have e1 : gsum (ltz (zu v 4 t (v 4 t + 64)) 0 (v 1 root) (v 1 t) t 64 (root + 1) (p + 1) 0 0) s = gsum v s := rfl
    have e2 : lsum (zu v 4 t (v 4 t + 64)) s = lsum v s := rfl
    have e3 : ltz (zu v 4 t (v 4 t + 64)) 0 (v 1 root) (v 1 t) t 64 (root + 1) (p + 1) 0 0 4 s = zu v 4 t (v 4 t + 64) 4 s := rfl
    rw [e1, e2, e3]
    by_cases e : s = t
    · subst e
      rw [zu_s, if_pos rfl]
      omega
    · rw [zu_n (by omega), if_neg (fun h => e h.symm)]
      omega
  · rw [qlet_ltz, if_neg (by omega)]
    exact hQ g s
  · exact (show iM (zu v 4 t (v 4 t + 64)) from hM).ltz (fun _ => hm)
/-- a GATE is SENT, of a WEIGHT of 2 or more -/
theorem Inv.sendHalf {g m root : Nat} (hI : Inv D n v u w) (h600 : v 24 0 < 600) (hg : g < v 9 0) (h3 : v 0 g = 3) (h7 : v 7 g = 0) (h5 : v 5 g = m + 1) (h6 : 2 ≤ v 6 g) (hD : D (v 1 g)) (hr : root < v 9 0) (hr2 : v 0 root = 2) (hp : p < v 3 root) (hm : ∀ x, Cl (MtE v) (fun y => y = m) x → v 7 x = 0 ∧ v 8 x = 0) : Inv D n (ltz (zu v 6 g (v 6 g - v 6 g / 2)) 0 (v 1 root) (v 1 g) m (v 6 g / 2) (root + 1) (p + 1) 0 0) u w := by
  obtain ⟨hT, hF, hL, hW, hC, hK, hX, hS, hG, hQ, hM⟩ := hI
  obtain ⟨⟨m', m1, m2, m3, m4⟩, -⟩ := hT.g hg h3
  have hmm : m' = m := by omega
  subst hmm
  have k6 := (hT.k hg).2.2.2.2.2.2
  have hT1 : iT (zu v 6 g (v 6 g - v 6 g / 2)) := hT.weight hg h3 (by omega)
  have hL1 : iL (zu v 6 g (v 6 g - v 6 g / 2)) := hL
  obtain ⟨a14, a15, a16, a17, a18, a19, a20, a21, a22, a23⟩ := ltz_l (v := zu v 6 g (v 6 g - v 6 g / 2)) (kd := 0) (to := v 1 root) (fr := v 1 g) (t := m') (wt := v 6 g / 2) (rt := root + 1) (pl := p + 1) (wk := 0) (st := 0)
  have hK' : iK D n (ltz (zu v 6 g (v 6 g - v 6 g / 2)) 0 (v 1 root) (v 1 g) m' (v 6 g / 2) (root + 1) (p + 1) 0 0) w := by
    refine hK.loc hT (show iT (zu v 6 g (v 6 g - v 6 g / 2)) from hT1) (fun h hh hd => ?_) (fun _ _ => rfl) (Nat.le_refl _) (fun _ _ => ⟨rfl, rfl⟩) (fun f i hf => ?_) (fun _ => rfl)
    · exact loc_weight (fun e => hd (by rw [← e]; exact hD))
    · rw [ltz_o (by omega)]
      exact zu_n (by omega)
  refine ⟨hT1, hF.weight hg, hL1.ltz h600 ?_, hW, hC, hK', ?_, fun s hs hs3 => ?_, hG, fun h s => ?_, ?_⟩
  · have b24 : zu v 6 g (v 6 g - v 6 g / 2) 24 0 = v 24 0 := rfl
    rw [b24] at a14 a15 a16 a17 a18 a19 a20 a21 a22 a23 ⊢
    simp only [LO]
    rw [a14, a15, a16, a17, a18, a19, a20, a21, a22, a23]
    refine ⟨by decide, (hT.k hr).2.1, (hT.k hg).2.1, m2, m3, by decide, by decide, fun _ => ⟨root, p, rfl, rfl, hr, hr2, rfl, hp, by omega⟩, fun e => absurd rfl e, fun e => by omega, fun e => by omega, fun e => by omega, fun e => by omega, fun _ => rfl⟩
  · exact (show iX (zu v 6 g (v 6 g - v 6 g / 2)) from hX).ltz (fun k e => by omega)
  · obtain ⟨s1, s2⟩ := hS s hs hs3
    rw [lsum_ltz]
    have e1 : gsum (ltz (zu v 6 g (v 6 g - v 6 g / 2)) 0 (v 1 root) (v 1 g) m' (v 6 g / 2) (root + 1) (p + 1) 0 0) s = gsum (zu v 6 g (v 6 g - v 6 g / 2)) s := rfl
    have e2 : lsum (zu v 6 g (v 6 g - v 6 g / 2)) s = lsum v s := rfl
    have e3 : ltz (zu v 6 g (v 6 g - v 6 g / 2)) 0 (v 1 root) (v 1 g) m' (v 6 g / 2) (root + 1) (p + 1) 0 0 4 s = v 4 s := rfl
    rw [e1, e2, e3]
    have := gsum_6 (v := v) (g := g) (e := v 6 g - v 6 g / 2) (s := s) hg
    by_cases e : m' = s
    · subst e
      rw [if_pos ⟨h7, h3, m1⟩, if_pos ⟨h7, h3, m1⟩] at this
      rw [if_pos rfl]
      omega
    · rw [if_neg (by omega), if_neg (by omega)] at this
      rw [if_neg e]
      omega
  · rw [qlet_ltz, if_neg (by omega)]
    exact hQ h s
  · exact (show iM (zu v 6 g (v 6 g - v 6 g / 2)) from hM).ltz (fun _ => hm)
/-- a GATE is SENT, of a WEIGHT of 1: the name WAITS -/
theorem wav_k {k g root : Nat} (hk : k < v 29 0) : wav v g root p 26 k = v 26 k ∧ wav v g root p 27 k = v 27 k ∧ wav v g root p 28 k = v 28 k := by
  refine ⟨?_, ?_, ?_⟩ <;> (simp only [wav]; rw [zu_n (by omega), zu_n (by omega), zu_n (by omega), zu_n (by omega)])
theorem wav_l {g root : Nat} : wav v g root p 26 (v 29 0) = g ∧ wav v g root p 27 (v 29 0) = root ∧ wav v g root p 28 (v 29 0) = p ∧ wav v g root p 29 0 = v 29 0 + 1 := by
  refine ⟨?_, ?_, ?_, ?_⟩ <;> simp [wav, zu]
theorem Wtd.wav {g root : Nat} : Wtd (wav v g root p) x ↔ Wtd v x ∨ x = g := by
  obtain ⟨a1, a2, a3, a4⟩ := wav_l (v := v) (p := p) (g := g) (root := root)
  constructor
  · rintro ⟨k, h1, h2⟩
    rw [a4] at h1
    by_cases e : k = v 29 0
    · subst e
      rw [a1] at h2
      exact Or.inr h2.symm
    · rw [(wav_k (by omega)).1] at h2
      exact Or.inl ⟨k, by omega, h2⟩
  · rintro (⟨k, h1, h2⟩ | rfl)
    · exact ⟨k, by rw [a4]; omega, by rw [(wav_k h1).1]; exact h2⟩
    · exact ⟨v 29 0, by rw [a4]; omega, a1⟩
theorem Inv.sendWait {g m root : Nat} (hI : Inv D n v u w) (h600 : v 24 0 < 600) (h16 : v 29 0 < 16) (hg : g < v 9 0) (h3 : v 0 g = 3) (h7 : v 7 g = 0) (h5 : v 5 g = m + 1) (hD : D (v 1 g)) (hr : root < v 9 0) (hr2 : v 0 root = 2) (hp : p < v 3 root) (hm : Mt v g) : Inv D n (ltz (wav v g root p) 1 (v 1 m) (v 1 g) m 0 0 0 0 0) u w := by
  obtain ⟨hT, hF, hL, hW, hC, hK, hX, hS, hG, hQ, hM⟩ := hI
  obtain ⟨⟨m', m1, m2, m3, m4⟩, -⟩ := hT.g hg h3
  have hmm : m' = m := by omega
  subst hmm
  obtain ⟨w1, w2, w3, w4⟩ := wav_l (v := v) (p := p) (g := g) (root := root)
  have hT1 : iT (wav v g root p) := hT
  have hL1 : iL (wav v g root p) := hL
  obtain ⟨a14, a15, a16, a17, a18, a19, a20, a21, a22, a23⟩ := ltz_l (v := wav v g root p) (kd := 1) (to := v 1 m') (fr := v 1 g) (t := m') (wt := 0) (rt := 0) (pl := 0) (wk := 0) (st := 0)
  have hW1 : iW (wav v g root p) := by
    refine ⟨by rw [w4]; omega, fun k hk => ?_⟩
    rw [w4] at hk
    by_cases e : k = v 29 0
    · subst e
      rw [w1, w2, w3]
      exact ⟨hg, h3, h7, hr, hr2, hp⟩
    · obtain ⟨j1, j2, j3⟩ := wav_k (v := v) (p := p) (g := g) (root := root) (show k < v 29 0 by omega)
      rw [j1, j2, j3]
      exact hW.2 k (by omega)
  have hM1 : iM (wav v g root p) := by
    intro x hx
    refine hM x (hx (Mt v) ?_ ?_)
    · rintro b (hb | hb | hb)
      · exact Cl.base (Or.inl hb)
      · exact Cl.base (Or.inr (Or.inl hb))
      · rcases Wtd.wav.mp hb with hb | rfl
        · exact Cl.base (Or.inr (Or.inr hb))
        · exact hm
    · intro x y hS hE
      have hE' : MtE v x y := hE
      exact hS.step hE'
  have hK' : iK D n (ltz (wav v g root p) 1 (v 1 m') (v 1 g) m' 0 0 0 0 0) w := by
    refine hK.loc hT (show iT (wav v g root p) from hT1) (fun h hh hd => ?_) (fun _ _ => rfl) (Nat.le_refl _) (fun _ _ => ⟨rfl, rfl⟩) (fun f i hf => ?_) (fun _ => rfl)
    · refine ⟨fun x hx hg' => ⟨hx, hg', rfl, rfl, rfl, rfl, rfl, rfl, ?_, fun _ _ => ⟨rfl, fun _ => rfl⟩⟩, fun x hx hg' => ⟨hx, hg'⟩⟩
      have hx' : Wtd (ltz (wav v g root p) 1 (v 1 m') (v 1 g) m' 0 0 0 0 0) x ↔ Wtd (wav v g root p) x := Iff.rfl
      rw [hx', Wtd.wav]
      constructor
      · rintro (h | rfl)
        · exact h
        · exact absurd hD (by rw [hg']; exact hd)
      · exact Or.inl
    · rw [ltz_o (by omega)]
      simp only [wav]
      rw [zu_n (by omega), zu_n (by omega), zu_n (by omega), zu_n (by omega)]
  refine ⟨hT1, hF, hL1.ltz h600 ?_, hW1, hC, hK', ?_, fun s hs hs3 => ?_, hG, fun h s => ?_, ?_⟩
  · have b24 : wav v g root p 24 0 = v 24 0 := rfl
    rw [b24] at a14 a15 a16 a17 a18 a19 a20 a21 a22 a23 ⊢
    simp only [LO]
    rw [a14, a15, a16, a17, a18, a19, a20, a21, a22, a23]
    refine ⟨by decide, (hT.k m2).2.1, (hT.k hg).2.1, m2, m3, by decide, by decide, fun e => by omega, fun _ => ⟨rfl, rfl⟩, fun _ => rfl, fun e => by omega, fun _ => rfl, fun e => by omega, fun _ => rfl⟩
  · exact (show iX (wav v g root p) from hX).ltz (fun k e => by omega)
  · obtain ⟨s1, s2⟩ := hS s hs hs3
    rw [lsum_ltz]
    have e1 : gsum (ltz (wav v g root p) 1 (v 1 m') (v 1 g) m' 0 0 0 0 0) s = gsum v s := rfl
    have e2 : lsum (wav v g root p) s = lsum v s := rfl
    have e3 : ltz (wav v g root p) 1 (v 1 m') (v 1 g) m' 0 0 0 0 0 4 s = v 4 s := rfl
    rw [e1, e2, e3]
    by_cases e : m' = s
    · rw [if_pos e]; omega
    · rw [if_neg e]; omega
  · rw [qlet_ltz]
    have e1 : fb_ct (qlet (wav v g root p) h s) (wav v g root p 24 0) = fb_ct (qlet v h s) (v 24 0) := rfl
    have e2 : ltz (wav v g root p) 1 (v 1 m') (v 1 g) m' 0 0 0 0 0 29 0 = v 29 0 + 1 := w4
    have e3 : qwai (ltz (wav v g root p) 1 (v 1 m') (v 1 g) m' 0 0 0 0 0) h s = qwai (wav v g root p) h s := rfl
    rw [e1, e2, e3, fb_ct_succ, hQ h s]
    congr 1
    · refine fb_ct_cong (fun k hk => ?_)
      simp only [qwai]
      rw [(wav_k hk).1]
      rfl
    · refine if_iff ?_
      have e5 : wav v g root p 5 g = m' + 1 := m1
      have e6 : wav v g root p 1 g = v 1 g := rfl
      rw [qwai_iff, w1, e5, e6]
      omega
  · exact hM1.ltz (fun e => by omega)
end LT
