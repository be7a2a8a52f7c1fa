section DV
variable {d d' : AD} {c c' : CH} {v v' : Nu} {u u' : Mu} {w w' : Me} {n q z k l b0 : Nat}
theorem b_deliver (R : RC d c v u w) (hN : Nv v u) (hI : Inv D0 n v u w) (hn : n < 512) (hl : l < v 24 0) (h23 : v 23 l = 1) : Dok q n l d c v u w z := by
  have h5 := (hI.2.2.1.2.1 l hl).1
  rcases (show v 14 l = 0 ∨ v 14 l = 1 ∨ v 14 l = 2 ∨ v 14 l = 3 ∨ v 14 l = 4 ∨ v 14 l = 5 by omega) with h | h | h | h | h | h
  · exact b_name R hN hI hl h23 h
  · exact b_more R hN hI hn hl h23 h
  · exact b_give R hN hI hl h23 h
  · exact b_home R hN hI hl h23 h
  · exact b_step R hN hI hn hl h23 h
  · exact b_back R hN hI hn hl h23 h
theorem st_deliver : st1 (Jx b0 q) b0 q fX10_deliver fX11_deliver := by
  intro n x y v1 hn hJ
  obtain ⟨d, c, v, u, w, z, rfl, rfl, rfl, R, hN, hI⟩ := id hJ
  have hF := R.2.1
  have hX := R.2.2.1
  have hL := hI.2.2.1
  have hb2 := hL.1
  unfold fX10_deliver
  rw [qa_100_1 hF hX, b1_s, qt_103 hF, b1_s]
  rcases inOut v1 (n := v 24 0) (by omega) with ho | ⟨l, hl, rfl⟩
  · have e2 : fX11_isIn v1 (nI (v 24 0)) (mB q z u w) = some (0, mB q z u w) := isIn_o (by omega) ho
    unfold fX11_deliver
    rw [e_pfindO R ho, b2_s, oe_0, mG24, b1_s, hN.k24, e2, b2_s, if_pos rfl]
    exact b_ref 0 R hN hI (by decide) (by decide)
  have h6 := (hL.2.1 l hl).2.2.2.2.2.1
  rw [e_pfind R hb2 hl, b2_s, oe_1, gl_under R hl, b1_s, nI_if0 (by omega)]
  by_cases h23 : v 23 l = 0
  · have e2 : fX11_isIn (nI l) (nI (v 24 0)) (mB q z u w) = some (1, mB q z u w) := isIn_n hl (by omega)
    obtain ⟨h1, h2, h3, h4, h5⟩ := R.2.2.2.2.2.2.2.1
    have p1 : gI 10 12 (da d 100 0) (cB d c) = some (nI (v 25 0)) := by rw [cgI (t := 10) (f100 hF) rfl, h5]
    have p2 : pI 10 12 (da d 100 0) (nI (v 25 0 + 1)) (cB d c) = some (cB d (kwI 100 0 12 (nI (v 25 0 + 1)) c)) := cpI (t := 10) R.1.1 (f100 hF) rfl
    have hC : CO (kwI 100 0 12 (nI (v 25 0 + 1)) c) (zu v 25 0 (v 25 0 + 1)) := by
      refine ⟨fun j hj => ?_, fun j hj => ?_, ?_, fun j hj => ?_, ?_⟩
      · rw [zu_n (by omega), ← h1 j hj]; first | exact rfl | exact z3_n (by omega)
      · rw [zu_n (by omega), ← h2 j hj]; first | exact rfl | exact z3_n (by omega)
      · rw [zu_n (by omega), ← h3]; first | exact rfl | exact z3_n (by omega)
      · rw [zu_n (by omega)] at hj
        rw [zu_n (by omega), ← h4 j hj]; first | exact rfl | exact z3_n (by omega)
      · rw [zu_s]
        exact z3_s (f := c.1) (k := 100) (x := 0) (i := 12)
    have R1 : RC d (kwI 100 0 12 (nI (v 25 0 + 1)) c) (zu v 25 0 (v 25 0 + 1)) u w := R.co (f100 hF) (by omega) (fun k i h => zu_n (by omega)) hC
    unfold fX11_deliver
    rw [if_pos h23, p1, b1_s, nI_1, p2, b1_s, mG24, b1_s, hN.k24, e2, b2_s, if_neg (show ¬ (1 : Int32) = 0 by decide), mA23, b1_s, mX23, mI_n (by omega) (by decide), b1_s, hN.k23, nI_if0 (by omega), if_pos h23, mG25, b1_s, hN.k25, nI_1, mP25, b1_s]
    exact ⟨_, _, _, rfl, rfl, rfl, d, _, _, _, w, z, rfl, rfl, rfl, R1.uw (fun i => zu_n (by omega)) (fun _ => rfl), hN.wr (by rw [dv_n rfl]), (hI.again).uw (fun i => zu_n (by omega))⟩
  · rw [if_neg h23, qt_100 hF, b1_s]
    rcases b_deliver (q := q) (z := z) R hN hI hn hl (by omega) with ⟨c1, u1, e1, R1, hN1, hu1, e2⟩ | ⟨d1, c1, v1, u1, w1, e1, hE, R1, hl1, e2, hN1, hI1⟩
    · rw [e1, b2_s, if_pos rfl, e2]
      unfold fX11_deliver_119
      exact b_ref 5 R1 hN1 (hI.uw hu1) (by decide) (by decide)
    · obtain ⟨p1, R2⟩ := R1.came hl1
      have e4 : da d1 4 l = da d 4 l := (hE 4 l (R.lt hl).1).1
      rw [e1, b2_s, if_neg (show ¬ (1 : Int32) = 0 by decide), ← e4, p1, b1_s, e2]
      exact ⟨_, _, _, rfl, rfl, rfl, d1, _, _, u1, w1, z, rfl, rfl, (hE 100 0 (f100 hF)).1, R2, hN1, hI1⟩
end DV
