section WY
variable {d : AD} {c : CH} {v : Nu} {u : Mu} {w : Me} {q z m r t n p : Nat} {od dp pi f dl : Nat → Nat} {bf : Nat → Option Nat}
theorem nI_dec (a : Nat) : nI (a + 1) + (-1) = nI a := by
  rw [← Int32.sub_eq_add_neg]
  exact nI_pred _
theorem e_depthOf (R : RC d c v u w) (hb : v 9 0 ≤ 300) (ht : t < v 9 0) (h : cI c 123 0 t = nI (dp t)) : fX1_depthOf (da d 117 0) (some (da d 1 t)) (cB d c) = some (nI (dp t), cB d c) := by
  have hF := R.2.1
  have hX := R.2.2.1
  unfold fX1_depthOf
  rw [b1_s, g_num R ht, b1_s, if_neg (nI_pos (by omega)), b1_s, qa_117_3 hF hX, b1_s, qn_123 hF hX, b1_s, nI_ifle (by omega) (by omega), if_neg (by omega), b1_s, b1_s, cxI (t := 12) (f123 hF) rfl (by rw [show cN c 123 0 = 300 from hX.2.2.2.2.2.2.2.2.2.2.2.2.2.2.2.2.2]; omega) (by omega), b1_s, h]
theorem e_beforeOf (R : RC d c v u w) (hb : v 9 0 ≤ 300) (ht : t < v 9 0) (h : cQ c 122 0 t = (bf t).map (fun p => (1, p))) (hp : bf t = some p) : fX1_beforeOf (da d 117 0) (some (da d 1 t)) (cB d c) = some (some (da d 1 p), cB d c) := by
  have hF := R.2.1
  have hX := R.2.2.1
  unfold fX1_beforeOf
  rw [b1_s, g_num R ht, b1_s, if_neg (nI_pos (by omega)), b1_s, qa_117_2 hF hX, b1_s, qn_122 hF hX, b1_s, nI_ifle (by omega) (by omega), if_neg (by omega), b1_s, b1_s, cxP (t := 17) (f122 hF) rfl (by rw [show cN c 122 0 = 300 from hX.2.2.2.2.2.2.2.2.2.2.2.2.2.2.2.2.1]; omega) (by omega), b1_s, h, hp]
  rfl
/-- the class steps back -/
theorem e_way (R : RC d c v u w) (hT : iT v) (hlt : ∀ i, i < m → od i < v 9 0) (hm : m ≤ 300) (hbd : ∀ x, In m od x → cQ c 122 0 x = (bf x).map (fun p => (1, p)) ∧ cI c 123 0 x = nI (dp x)) (h : LIs v r m m od bf dp pi) (ht : In m od t) (hp : p ≤ dp t) : ∃ x, anc bf t (dp t - p) x ∧ fX1_onTheWay_35 100000 (da d 117 0) (nI p) (some (da d 1 t)) (nI (dp t)) (cB d c) = some (nI x, cB d c) := by
  have hb := hT.1
  have hF := R.2.1
  have hD : dp t < 300 := by
    obtain ⟨i, i1, i2⟩ := ht
    have := h.dpl i i1
    rw [i2] at this
    omega
  have key : ∀ g j k x, p + g = j → j ≤ dp t → g < k → anc bf t (dp t - j) x → ∃ x', anc bf t (dp t - p) x' ∧ fX1_onTheWay_35 k (da d 117 0) (nI p) (some (da d 1 x)) (nI j) (cB d c) = some (nI x', cB d c) := by
    intro g
    induction g with
    | zero =>
      intro j k x e1 e2 e3 hx
      obtain ⟨k, rfl⟩ : ∃ k', k = k' + 1 := ⟨k - 1, by omega⟩
      have e : j = p := by omega
      subst e
      obtain ⟨c1, c2⟩ := h.ancIn ht _ x hx
      refine ⟨x, hx, ?_⟩
      rw [fX1_onTheWay_35, if_pos (Int32.le_refl _)]
      unfold fX1_onTheWay_57
      rw [oe_1, g_num R (h.there hT hlt c1).1, b1_s]
    | succ g ih =>
      intro j k x e1 e2 e3 hx
      obtain ⟨k, rfl⟩ : ∃ k', k = k' + 1 := ⟨k - 1, by omega⟩
      obtain ⟨j, rfl⟩ : ∃ j', j = j' + 1 := ⟨j - 1, by omega⟩
      obtain ⟨c1, c2⟩ := h.ancIn ht _ x hx
      obtain ⟨y, hy⟩ := h.ancEx ht (dp t - (j + 1) + 1) (by omega)
      obtain ⟨s, s1, s2⟩ := hy
      have es := anc.fn _ s x s1 hx
      rw [es] at s2
      rw [fX1_onTheWay_35, nI_ifle (by omega) (by omega), if_neg (by omega), oe_1, qt_117 hF, b1_s, e_beforeOf R hb (h.there hT hlt c1).1 (hbd x c1).1 s2, b2_s, nI_dec]
      exact ih j k y (by omega) (by omega) (by omega) (by
        rw [show dp t - j = dp t - (j + 1) + 1 by omega]
        exact ⟨x, hx, s2⟩)
  exact key (dp t - p) (dp t) 100000 t (by omega) (Nat.le_refl _) (by omega) (by rw [Nat.sub_self]; rfl)
/-- the reference looks for the next -/
theorem x_why53 {K : Nat → Int32 → Int32 → Int32 → Hz → Option (Int32 × Hz)} {x x' k : Nat} {v2 v4 : Int32} (hN : Nv v u) (hT : iT v) (hL : iL v) (hW : iW v) (hQ : QS u n f dl) (hn : n ≤ 300) (hB : ∀ i, i < n → dl (f i) ≤ i) (hx : x < v 9 0) (hin : In n f x) (hd : dl x = k + 1) (hx' : x' < v 9 0) (h7 : v 7 x' = 0) (hg : GE v x x') (hi' : In n f x') (hd' : dl x' = k) (hl : ∀ y, y < x' → v 7 y = 0 → In n f y → dl y = k → ¬ GE v x y) : fX11_why_53 K 100000 q v2 (nI x) v4 0 (mB q z u w) = K q v2 (nI x') (v4 + 1) (mB q z u w) := by
  have hb := hT.1
  have hd3 : ∀ x, In n f x → dl x < 300 := fun x ⟨i, i1, i2⟩ => by
    have := hB i i1
    rw [i2] at this
    omega
  have hk : k < 300 := by have := hd3 x hin; omega
  have key : ∀ g i j, i + g = x' → g < j → fX11_why_53 K j q v2 (nI x) v4 (nI i) (mB q z u w) = K q v2 (nI x') (v4 + 1) (mB q z u w) := by
    intro g
    induction g with
    | zero =>
      intro i j e1 e2
      obtain ⟨j, rfl⟩ : ∃ j', j = j' + 1 := ⟨j - 1, by omega⟩
      have e : i = x' := by omega
      subst e
      haveI := Classical.propDecidable (GE v x i)
      have r1 : u 49 i = nI k := by rw [(hQ.2 i (by omega)).1 hi', hd']
      have r2 : u 49 x = nI (k + 1) := by rw [(hQ.2 x (by omega)).1 hin, hd]
      rw [fX11_why_53, mA7, b1_s, mX7, mI_n (by omega) (by decide), b1_s, hN.k7, h7, if_pos (show nI 0 = 0 from rfl), mA49, b1_s, mX49, mI_n (by omega) (by decide), b1_s, b1_s, mX49, mI_n (by omega) (by decide), b1_s, r1, r2, nI_pred, if_pos rfl, mtg, b1_s, s_goes hN hT hL hW hx hx', b2_s, if_pos hg, if_neg (show ¬ (1 : Int32) = 0 by decide)]
    | succ g ih =>
      intro i j e1 e2
      obtain ⟨j, rfl⟩ : ∃ j', j = j' + 1 := ⟨j - 1, by omega⟩
      have hi : i < v 9 0 := by omega
      have k7 := (hT.k hi).2.2.2.1
      haveI := Classical.propDecidable (GE v x i)
      haveI := Classical.propDecidable (In n f i)
      have r2 : u 49 x = nI (k + 1) := by rw [(hQ.2 x (by omega)).1 hin, hd]
      have nxt := ih (i + 1) j (by omega) (by omega)
      rw [fX11_why_53, mA7, b1_s, mX7, mI_n (by omega) (by decide), b1_s, hN.k7, nI_if0 (by omega), nI_1]
      by_cases e7 : v 7 i = 0
      rotate_left
      · rw [if_neg e7]
        exact nxt
      rw [if_pos e7, mA49, b1_s, mX49, mI_n (by omega) (by decide), b1_s, b1_s, mX49, mI_n (by omega) (by decide), b1_s, r2, nI_pred]
      by_cases ein : In n f i
      rotate_left
      · rw [(hQ.2 i (by omega)).2 ein, if_neg (fun e => nI_m1 (a := k) (by omega) e.symm)]
        exact nxt
      have := hd3 i ein
      rw [(hQ.2 i (by omega)).1 ein, nI_ifeq (by omega) (by omega)]
      by_cases ed : dl i = k
      rotate_left
      · rw [if_neg ed]
        exact nxt
      rw [if_pos ed, mtg, b1_s, s_goes hN hT hL hW hx hi, b2_s, if_neg (hl i (by omega) e7 ein ed), if_pos rfl]
      exact nxt
  exact key x' 0 100000 (by omega) (by omega)
/-- the reference steps on -/
theorem x_way {b : Nat} (hN : Nv v u) (hT : iT v) (hL : iL v) (hW : iW v) (hlt : ∀ i, i < m → od i < v 9 0) (hinj : ∀ a b, a < m → b < m → od a = od b → a = b) (hm : m ≤ 300) (h : LIs v r m m od bf dp pi) (hQ : QI v t n n f dl) (hS : QS u n f dl) (hB : ∀ i, i < n → dl (f i) ≤ i) (ht : In m od t) (hR : BR v n f dl (v 9 0) (some b)) (hp : p ≤ dp t) : ∃ x, anc bf t (dp t - p) x ∧ fX11_why_44 100000 q (nI p) (nI b) 0 (mB q z u w) = some (nI x, mB q z u w) := by
  have hb := hT.1
  have hD : dp t < 300 := by
    obtain ⟨i, i1, i2⟩ := ht
    have := h.dpl i i1
    rw [i2] at this
    omega
  have key : ∀ g i k x, i + g = p → g < k → anc bf t (dp t - i) x → ∃ x', anc bf t (dp t - p) x' ∧ fX11_why_44 k q (nI p) (nI x) (nI i) (mB q z u w) = some (nI x', mB q z u w) := by
    intro g
    induction g with
    | zero =>
      intro i k x e1 e2 hx
      obtain ⟨k, rfl⟩ : ∃ k', k = k' + 1 := ⟨k - 1, by omega⟩
      have e : i = p := by omega
      subst e
      exact ⟨x, hx, by rw [fX11_why_44, if_pos (Int32.le_refl _)]⟩
    | succ g ih =>
      intro i k x e1 e2 hx
      obtain ⟨k, rfl⟩ : ∃ k', k = k' + 1 := ⟨k - 1, by omega⟩
      obtain ⟨kk, hkk⟩ : ∃ kk, dp t - i = kk + 1 := ⟨dp t - i - 1, by omega⟩
      obtain ⟨c1, c2⟩ := h.ancIn ht _ x hx
      obtain ⟨d1, d2⟩ := why_dl hT hlt h hQ ht hx
      rw [hkk] at hx d2
      obtain ⟨x', y1, y2, y3, y4, y5, y6, y7⟩ := why_next hT hlt hinj h hQ ht hx
      rw [fX11_why_44, nI_ifle (by omega) (by omega), if_neg (by omega), x_why53 hN hT hL hW hS hQ.1 hB (h.there hT hlt c1).1 d1 d2 y2 y3 y4 y5 y6 y7, nI_1]
      exact ih (i + 1) k x' (by omega) (by omega) (by rw [show dp t - (i + 1) = kk by omega]; exact y1)
  exact key p 0 100000 b (by omega) (by omega) (why_root hT hlt hinj h hQ ht hR)
end WY
section SW
variable {b0 q : Nat}
theorem st_why : st2 (Jx b0 q) b0 q fX10_why fX11_why := by
  intro n x y v1 v2 hn hJ
  obtain ⟨d, c, v, u, w, z, rfl, rfl, rfl, R, hN, hI⟩ := id hJ
  have hT := hI.1
  have hL := hI.2.2.1
  have hW := hI.2.2.2.1
  have hF := R.2.1
  have hX := R.2.2.1
  have hb := hT.1
  unfold fX10_why fX11_why
  rw [qa_100_0 hF hX, b1_s, qt_101 hF, b1_s, mtg, b1_s]
  rcases b_there (q := q) (z := z) R hT hN v1 with ⟨t, ht, h7, rfl, e1, e2⟩ | ⟨e1, e2⟩
  rotate_left
  · rw [e1, b2_s, oe_0, e2, b2_s]
    exact ⟨-1, _, _, rfl, rfl, rfl, hJ.up⟩
  obtain ⟨c', m, od, bf, dp, pi, r, t1, R', t3, t4, t5⟩ := e_trace R hT hL hW
  have hF' := R'.2.1
  have hX' := R'.2.2.1
  have hlt : ∀ i, i < m → od i < v 9 0 := fun i hi => (t3.2.2.1 i hi).1
  have hinj := t3.2.2.2.1
  haveI := Classical.propDecidable (In m od t)
  rw [e1, b2_s, oe_1, qa_100_9 hF hX, b1_s, qa_100_0 hF hX, b1_s, qa_100_1 hF hX, b1_s, qa_100_2 hF hX, b1_s, qt_117 hF, b1_s, t1, b2_s, qa_100_9 hF hX', b1_s, qt_117 hF, b1_s, e2, b2_s, if_neg (show ¬ (1:Int32) = 0 by decide)]
  unfold fX1_onTheWay
  rw [qa_117_0 hF hX', b1_s, qt_118 hF, b1_s, e_has (rr_118 hF hX') (R'.tn hb) t3 ht, t3.mark (by omega) Iff.rfl, b2_s]
  by_cases hv : v2 < 0
  · rw [if_neg (show ¬ (0 : Int32) ≤ v2 from fun h => Int32.not_le.mpr hv h)]
    refine ⟨-1, cB d c', _, ?_, rfl, rfl, d, c', v, u, w, z, rfl, rfl, rfl, R', hN, hI.up⟩
    by_cases e : In m od t
    · rw [if_pos e, if_neg (show ¬ (1 : Int32) = 0 by decide), if_pos hv, b2_s]
    · rw [if_neg e, if_pos rfl, b2_s]
  obtain ⟨u', k, f, dl, m1, m2, m3, m4, m5⟩ := x_measure (q := q) (z := z) (w := w) hN hT hL hW ht h7
  obtain ⟨o, o1, o2⟩ := x_rootFor (q := q) (z := z) (w := w) (hN.sc m4.sc) hT m2 m3.1 m5
  have hiff := meant_iff hT hlt t5 m3 o2
  have u2 : ∀ i, u' 2 i = u 2 i := fun i => m4 2 i (by decide)
  have J' : Jx (da d 100 0) q (n + 1) (cB d c') (mB q z u' w) := ⟨d, c', v, u', w, z, rfl, rfl, rfl, R'.uw u2 (fun _ => rfl), hN.sc m4.sc, (hI.up).uw u2⟩
  rw [if_pos (show (0 : Int32) ≤ v2 from Int32.not_lt.mp hv), mtg, b1_s, m1, b2_s, mtg, b1_s, o1, b2_s]
  cases o with
  | none =>
    rw [if_neg (fun e => hiff.mp e rfl), if_pos rfl, b2_s, if_pos (show oI none = -1 from rfl)]
    exact ⟨-1, _, _, rfl, rfl, rfl, J'⟩
  | some b =>
    have hb1 : b < v 9 0 := o2.1
    have hin : In m od t := hiff.mpr (fun e => by cases e)
    have hD : dp t < 300 := by
      obtain ⟨i, i1, i2⟩ := hin
      have := t5.dpl i i1
      rw [i2] at this
      have := t3.1
      omega
    have hanc := why_root hT hlt hinj t5 m3 hin o2
    obtain ⟨d1, d2⟩ := why_dl hT hlt t5 m3 hin hanc
    have r49 : u' 49 b = nI (dp t) := by rw [(m2.2 b (by omega)).1 d1, d2]
    rw [if_pos hin, if_neg (show ¬ (1 : Int32) = 0 by decide), if_neg hv, qt_117 hF, b1_s, e_depthOf R' hb ht (t4 t hin).2, b2_s, if_neg (show ¬ oI (some b) = -1 from nI_m1 (by omega)), mA49, b1_s, show oI (some b) = nI b from rfl, mX49, mI_n (by omega) (by decide), b1_s, r49]
    rcases inOut v2 (n := dp t + 1) (by omega) with (g | g) | ⟨p, p1, rfl⟩
    · exact absurd g hv
    · have hno : ¬ v2 ≤ nI (dp t) := fun h => nI_ge (Nat.lt_succ_self (dp t)) (by omega) (Int32.le_trans g h)
      rw [if_neg hno, if_neg hno, b2_s]
      exact ⟨-1, _, _, rfl, rfl, rfl, J'⟩
    · obtain ⟨x1, a1, a2⟩ := e_way R' hT hlt t3.1 t4 t5 hin (show p ≤ dp t by omega)
      obtain ⟨x2, a3, a4⟩ := x_way (q := q) (z := z) (w := w) (hN.sc m4.sc) hT hL hW hlt hinj t3.1 t5 m3 m2 m5 hin o2 (show p ≤ dp t by omega)
      have hx : x2 = x1 := anc.fn _ x2 x1 a3 a1
      rw [hx] at a4
      have hle : nI p ≤ nI (dp t) := (nI_leI (by omega) (by omega)).mpr (by omega)
      rw [if_pos hle, if_pos hle, qt_117 hF, b1_s, e_depthOf R' hb ht (t4 t hin).2, b2_s, a2, b2_s, a4]
      exact ⟨nI x1, _, _, rfl, rfl, rfl, J'⟩
end SW
