section SM
variable {b0 q : Nat}
theorem e_has1 {d : AD} {c : CH} {v : Nu} {u : Mu} {w : Me} {m t : Nat} {od : Nat → Nat} (R : RC d c v u w) (hb : v 9 0 ≤ 300) (hS : SR c 118 (v 9 0) m od) (ht : t < v 9 0) [Decidable (In m od t)] : fX1_has (da d 117 0) (some (da d 1 t)) (cB d c) = some (if In m od t then 1 else 0, cB d c) := by
  unfold fX1_has
  rw [qa_117_0 R.2.1 R.2.2.1, b1_s, qt_118 R.2.1, b1_s, e_has (rr_118 R.2.1 R.2.2.1) (R.tn hb) hS ht, hS.mark (by omega) Iff.rfl, b2_s]
  by_cases e : In m od t
  · rw [if_pos e]; rfl
  · rw [if_neg e]; rfl
theorem st_meant : st1 (Jx b0 q) b0 q fX10_meant fX11_meant := by
  intro n x y v1 hn hJ
  obtain ⟨d, c, v, u, w, z, rfl, rfl, rfl, R, hN, hI⟩ := id hJ
  have hT := hI.1
  have hL := hI.2.2.1
  have hW := hI.2.2.2.1
  have hF := R.2.1
  have hX := R.2.2.1
  unfold fX10_meant fX11_meant
  rw [qa_100_0 hF hX, b1_s, qt_101 hF, b1_s, mtg, b1_s]
  rcases b_there (q := q) (z := z) R hT hN v1 with ⟨t, ht, h7, rfl, e1, e2⟩ | ⟨e1, e2⟩
  rotate_left
  · rw [e1, b2_s, oe_0, e2, b2_s]
    exact ⟨0, _, _, rfl, rfl, rfl, hJ.up⟩
  obtain ⟨c', m, od, bf, dp, pi, r, t1, R', t3, t4, t5⟩ := e_trace R hT hL hW
  obtain ⟨u', k, f, dl, m1, m2, m3, m4, m5⟩ := x_measure (q := q) (z := z) (w := w) hN hT hL hW ht h7
  obtain ⟨o, o1, o2⟩ := x_rootFor (q := q) (z := z) (w := w) (hN.sc m4.sc) hT m2 m3.1 m5
  have hlt : ∀ i, i < m → od i < v 9 0 := fun i hi => (t3.2.2.1 i hi).1
  have hiff := meant_iff hT hlt t5 m3 o2
  haveI := Classical.propDecidable (In m od t)
  have hb := hT.1
  rw [e1, b2_s, oe_1, qa_100_9 hF hX, b1_s, qa_100_0 hF hX, b1_s, qa_100_1 hF hX, b1_s, qa_100_2 hF hX, b1_s, qt_117 hF, b1_s, t1, b2_s, qa_100_9 hF R'.2.2.1, b1_s, qt_117 hF, b1_s, e_has1 R' hb t3 ht, b2_s, e2, b2_s, if_neg (show ¬ (1:Int32) = 0 by decide), mtg, b1_s, m1, b2_s, mtg, b1_s, o1, b2_s]
  have u2 : ∀ i, u' 2 i = u 2 i := fun i => m4 2 i (by decide)
  have J' : Jx (da d 100 0) q (n + 1) (cB d c') (mB q z u' w) := ⟨d, c', v, u', w, z, rfl, rfl, rfl, R'.uw u2 (fun _ => rfl), hN.sc m4.sc, (hI.up).uw u2⟩
  cases o with
  | none =>
    rw [if_neg (fun e => hiff.mp e rfl), if_pos (show oI none = -1 from rfl)]
    exact ⟨0, _, _, rfl, rfl, rfl, J'⟩
  | some b =>
    have hb1 : b < v 9 0 := o2.1
    rw [if_pos (hiff.mpr (fun e => by cases e)), if_neg (show ¬ oI (some b) = -1 from nI_m1 (by omega))]
    exact ⟨1, _, _, rfl, rfl, rfl, J'⟩
end SM
