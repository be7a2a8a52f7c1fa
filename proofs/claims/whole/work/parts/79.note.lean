/-! What a WALK notes of a thing, in the reference. -/
theorem bshl : ∀ j, j < 300 → (((1 : Int64) <<< ((nI j).toInt64 &&& 63)) : Int64).toBitVec = BitVec.ofNat 64 (2 ^ (j % 64)) := by decide +kernel
theorem bsmod : ∀ j, j < 300 → (((nI j).toInt64 &&& 63).toBitVec.smod 64).toNat = j % 64 := by decide +kernel
theorem bor {x : Int64} {j i : Nat} (hj : j < 300) (hi : i < 64) : (x ||| (((1 : Int64) <<< ((nI j).toInt64 &&& 63)) : Int64)).toBitVec.getLsbD i = (x.toBitVec.getLsbD i || decide (j % 64 = i)) := by
  rw [Int64.toBitVec_or, BitVec.getLsbD_or, bshl j hj, BitVec.getLsbD_ofNat, Nat.testBit_two_pow]
  simp [hi]
theorem lg_cmp0 {a : Int64} : lg_cmp a 0 = 0 ↔ a = 0 := by
  unfold lg_cmp
  by_cases h : a = 0
  · subst h
    simp
  · by_cases h2 : a > 0
    · rw [if_pos h2]
      constructor
      · intro h3; exact absurd h3 (by decide)
      · intro h3; exact absurd h3 h
    · rw [if_neg h2, if_neg h]
      constructor
      · intro h3; exact absurd h3 (by decide)
      · intro h3; exact absurd h3 h
theorem and1 {b : BitVec 64} : b &&& 1#64 = 0#64 ↔ b.getLsbD 0 = false := by
  constructor
  · intro h
    have := congrArg (fun c => BitVec.getLsbD c 0) h
    simpa using this
  · intro h
    apply BitVec.eq_of_getLsbD_eq
    intro i hi
    rw [BitVec.getLsbD_and]
    by_cases e : i = 0
    · subst e
      rw [h]
      rfl
    · have : BitVec.getLsbD 1#64 i = false := by
        obtain ⟨i', rfl⟩ : ∃ i', i = i' + 1 := ⟨i - 1, by omega⟩
        rw [BitVec.getLsbD_ofNat, Nat.testBit_succ]
        simp
      rw [this]
      simp
theorem bread {x : Int64} {j : Nat} (hj : j < 300) : lg_cmp (((x >>> ((nI j).toInt64 &&& 63)) : Int64) &&& 1) 0 = 0 ↔ x.toBitVec.getLsbD (j % 64) = false := by
  rw [lg_cmp0, ← Int64.toBitVec_inj, Int64.toBitVec_and]
  have e1 : (((x >>> ((nI j).toInt64 &&& 63)) : Int64)).toBitVec = x.toBitVec.sshiftRight' (((nI j).toInt64 &&& 63).toBitVec.smod 64) := rfl
  have e2 : (1 : Int64).toBitVec = 1#64 := rfl
  have e3 : (0 : Int64).toBitVec = 0#64 := rfl
  rw [e1, e2, e3, and1, BitVec.getLsbD_sshiftRight', bsmod j hj]
  have : j % 64 < 64 := Nat.mod_lt _ (by decide)
  rw [if_pos (by omega)]
  simp
section NO
variable {v v' : Nu} {u u' : Mu} {w w' : Me} {n q z t k x h g : Nat} {D : Nat → Prop}
theorem Led.iff : Led v t x ↔ Cl (LEv v) (fun b => b = t) x := Iff.rfl
theorem x_isRooted [Decidable (Rtd v t)] (hN : Nv v u) (hT : iT v) (hW : iW v) (ht : t < v 9 0) : ∃ u', fX11_isRooted q (nI t) (mB q z u w) = some (if Rtd v t then 1 else 0, mB q z u' w) ∧ Sx u u' := by
  haveI := Classical.propDecidable (Wtd v t)
  haveI := Classical.propDecidable (Near v t)
  unfold fX11_isRooted
  rw [mtg, b1_s, s_isWaited hN hT hW ht, b2_s]
  by_cases hw : Wtd v t
  · rw [if_pos hw, if_neg (show ¬ (1 : Int32) = 0 by decide), if_pos (show Rtd v t from Or.inl hw)]
    exact ⟨u, rfl, Sx.rfl⟩
  · obtain ⟨u', e1, e2⟩ := x_isNear (o := q) (z := z) (w := w) hN hT ht
    rw [if_neg hw, if_pos rfl, mtg, b1_s, e1, b2_s]
    by_cases hn : Near v t
    · rw [if_pos hn, if_neg (show ¬ (1 : Int32) = 0 by decide), if_pos (show Rtd v t from Or.inr hn)]
      exact ⟨u', rfl, e2⟩
    · rw [if_neg hn, if_pos rfl, if_neg (show ¬ Rtd v t from fun h => h.elim hw hn)]
      exact ⟨u', rfl, e2⟩
/-- the slot of what is held by -/
def slot (k x i : Nat) : Prop := 5 * (300 * k + x) ≤ i ∧ i < 5 * (300 * k + x) + 5
theorem x_note60 (hN : Nv v u) (hT : iT v) (hx : x < v 9 0) (hk : k < 20) (h0 : ∀ j, j < 5 → w 45 (5 * (300 * k + x) + j) = 0) : ∃ u' w', fX11_note_60 100000 q (nI x) (nI (300 * k + x)) 0 (mB q z u w) = some ((), mB q z u' w') ∧ Sx u u' ∧ (∀ f i, f ≠ 45 → w' f i = w f i) ∧ (∀ i, ¬ slot k x i → w' 45 i = w 45 i) ∧ ∀ y, y < 300 → (hbt w' k x y = true ↔ Held v x y) := by
  have hb := hT.1
  haveI := fun y => Classical.propDecidable (Held v x y)
  have key := zlp (F := fun n j (s : Mu × Me) => fX11_note_60 n q (nI x) (nI (300 * k + x)) j (mB q z s.1 s.2)) (N := v 9 0)
    (fun j s => Sx u s.1 ∧ (∀ f i, f ≠ 45 → s.2 f i = w f i) ∧ (∀ i, ¬ slot k x i → s.2 45 i = w 45 i) ∧ ∀ y, y < 300 → (hbt s.2 k x y = true ↔ Held v x y ∧ y < j))
    (fun y => ∃ u' w', y = some ((), mB q z u' w') ∧ Sx u u' ∧ (∀ f i, f ≠ 45 → w' f i = w f i) ∧ (∀ i, ¬ slot k x i → w' 45 i = w 45 i) ∧ ∀ y, y < 300 → (hbt w' k x y = true ↔ Held v x y))
    (by
      rintro n j ⟨u1, w1⟩ hj ⟨p1, p2, p3, p4⟩
      left
      have hN1 : Nv v u1 := hN.sc p1.sc
      obtain ⟨k0, k1, k3, k7, -⟩ := hT.k hj
      have kx1 := (hT.k hx).2.1
      have stay : ¬ Held v x j → ∀ y, y < 300 → (hbt w1 k x y = true ↔ Held v x y ∧ y < j + 1) := fun hne y hy => by
        rw [p4 y hy]
        constructor
        · rintro ⟨a, b⟩; exact ⟨a, by omega⟩
        · rintro ⟨a, b⟩
          by_cases e : y = j
          · rw [e] at a; exact absurd a hne
          · exact ⟨a, by omega⟩
      show ∃ s' : Mu × Me, fX11_note_60 (n + 1) q (nI x) (nI (300 * k + x)) (nI j) (mB q z u1 w1) = fX11_note_60 n q (nI x) (nI (300 * k + x)) (nI (j + 1)) (mB q z s'.1 s'.2) ∧ _
      rw [fX11_note_60]
      simp (disch := omega) only [mG9, mA1, b1_s, mX1, mI_n, hN1.k9, hN1.k1, nI_1, nI_ifle, nI_ifeq]
      rw [if_neg (show ¬ v 9 0 ≤ j by omega)]
      by_cases ejx : j = x
      · rw [if_pos ejx]
        exact ⟨(u1, w1), rfl, p1, p2, p3, stay (fun h => h.2.1 ejx)⟩
      · rw [if_neg ejx]
        by_cases eh : v 1 j = v 1 x
        · rw [if_pos eh, mtg, b1_s, s_holdsOut hN1 hT hj, b2_s]
          by_cases ha : anch v j
          · have ha' : v 7 j = 0 ∧ v 0 j ≠ 3 ∧ 0 < v 4 j ∧ v 8 j = 0 := ha
            obtain ⟨u2, a1, a2, a3⟩ := x_noLeads2 (o := q) (z := z) (u := u1) (w := w1) (v := v) (B := fun b => b = j) hb
            have hN2 := hN1.sc a2.sc
            obtain ⟨u3, c1, c2, c3, c4, c5⟩ := x_lead2 (o := q) (z := z) (w := w1) hN2 hT hj a3 rfl
            haveI := Classical.propDecidable (Led v j x)
            have hm : u3 34 x = if Led v j x then 1 else 0 := c3.mark hT (fun b hB => by rw [hB]; exact ⟨hj, c5⟩) (by omega) Iff.rfl
            rw [if_pos ha', if_neg (show ¬ (1 : Int32) = 0 by decide), mtg, b1_s, a1, b2_s, mtg, b1_s, c1, b2_s, mA34, b1_s, mX34, mI_n (by omega) (by decide), b1_s, hm]
            by_cases hl : Led v j x
            · have hH : Held v x j := ⟨hj, ejx, eh, ha, hl⟩
              have hsh : nI j >>> ((6 : Int32) &&& 31) = nI (j / 64) := pk_shrN (n := j) (by omega) _ 6 (by decide)
              have hd5 : j / 64 < 5 := by omega
              have hix : 5 * (300 * k + x) + j / 64 < 30000 := by omega
              rw [if_pos hl, if_neg (show ¬ (1 : Int32) = 0 by decide), mA45, b1_s, hsh, n5, mX45, mL_n hix (by decide), b1_s, mY45 (mC_n hix (by decide)), b1_s, nI_c (by omega)]
              refine ⟨(u3, zu w1 45 (5 * (300 * k + x) + j / 64) _), rfl, (p1.trans a2).trans c2, fun f i hf => ?_, fun i hi => ?_, fun y hy => ?_⟩
              · dsimp only
                rw [zu_n (by omega)]
                exact p2 f i hf
              · dsimp only
                rw [zu_n (fun h => hi (by rw [h.2]; exact ⟨by omega, by omega⟩))]
                exact p3 i hi
              · have hm64 : y % 64 < 64 := Nat.mod_lt _ (by decide)
                by_cases ey : y / 64 = j / 64
                · have e1 : hbt (zu w1 45 (5 * (300 * k + x) + j / 64) (w1 45 (5 * (300 * k + x) + j / 64) ||| (((1 : Int64) <<< ((nI j).toInt64 &&& 63)) : Int64))) k x y = (hbt w1 k x y || decide (j % 64 = y % 64)) := by
                    simp only [hbt]
                    rw [ey, zu_s, bor (by omega) hm64]
                  rw [e1, Bool.or_eq_true, p4 y hy]
                  constructor
                  · rintro (⟨b1, b2⟩ | b)
                    · exact ⟨b1, by omega⟩
                    · have : y = j := by
                        have := of_decide_eq_true b
                        omega
                      rw [this]
                      exact ⟨hH, by omega⟩
                  · rintro ⟨b1, b2⟩
                    by_cases e : y = j
                    · right
                      rw [e]
                      simp
                    · exact Or.inl ⟨b1, by omega⟩
                · have e1 : hbt (zu w1 45 (5 * (300 * k + x) + j / 64) (w1 45 (5 * (300 * k + x) + j / 64) ||| (((1 : Int64) <<< ((nI j).toInt64 &&& 63)) : Int64))) k x y = hbt w1 k x y := by
                    simp only [hbt]
                    rw [zu_n (by omega)]
                  rw [e1, p4 y hy]
                  constructor
                  · rintro ⟨b1, b2⟩; exact ⟨b1, by omega⟩
                  · rintro ⟨b1, b2⟩
                    by_cases e : y = j
                    · rw [e] at ey; exact absurd rfl ey
                    · exact ⟨b1, by omega⟩
            · rw [if_neg hl, if_pos rfl]
              exact ⟨(u3, w1), rfl, (p1.trans a2).trans c2, p2, p3, stay (fun h => hl h.2.2.2.2)⟩
          · have ha' : ¬ (v 7 j = 0 ∧ v 0 j ≠ 3 ∧ 0 < v 4 j ∧ v 8 j = 0) := ha
            rw [if_neg ha', if_pos rfl]
            exact ⟨(u1, w1), rfl, p1, p2, p3, stay (fun h => ha h.2.2.2.1)⟩
        · rw [if_neg eh]
          exact ⟨(u1, w1), rfl, p1, p2, p3, stay (fun h => eh h.2.2.1)⟩)
    (by
      rintro n ⟨u1, w1⟩ ⟨p1, p2, p3, p4⟩
      have hN1 : Nv v u1 := hN.sc p1.sc
      refine ⟨u1, w1, ?_, p1, p2, p3, fun y hy => ?_⟩
      · show fX11_note_60 (n + 1) q (nI x) (nI (300 * k + x)) (nI (v 9 0)) (mB q z u1 w1) = _
        rw [fX11_note_60, mG9, b1_s, hN1.k9, if_pos (Int32.le_refl _)]
      · rw [p4 y hy]
        exact ⟨fun h => h.1, fun h => ⟨h, h.1⟩⟩)
  refine key (v 9 0) 100000 0 (u, w) (by omega) (by omega) ⟨Sx.rfl, fun _ _ _ => rfl, fun _ _ => rfl, fun y hy => ?_⟩
  have : hbt w k x y = false := by
    simp only [hbt]
    rw [h0 (y / 64) (by omega)]
    exact BitVec.getLsbD_zero
  rw [this]
  constructor
  · intro h; cases h
  · rintro ⟨-, h⟩; omega
def ntv (v : Nu) (k x rt : Nat) : Nu := zu (zu (zu v 42 (300 * k + x) 1) 44 (300 * k + x) (if v 0 x = 3 then v 6 x else v 4 x)) 43 (300 * k + x) rt
theorem x_note (hN : Nv v u) (hT : iT v) (hW : iW v) (hx : x < v 9 0) (hk : k < 20) (h0 : ∀ j, j < 5 → w 45 (5 * (300 * k + x) + j) = 0) : ∃ u' w' rt, fX11_note q (nI k) (nI x) (mB q z u w) = some ((), mB q z u' w') ∧ Nv (ntv v k x rt) u' ∧ (∀ f i, (f = 2 ∨ f = 48) → u' f i = u f i) ∧ rt ≤ 1 ∧ (rt = 1 ↔ Rtd v x) ∧ (∀ f i, f ≠ 45 → w' f i = w f i) ∧ (∀ i, ¬ slot k x i → w' 45 i = w 45 i) ∧ ∀ y, y < 300 → (hbt w' k x y = true ↔ Held v x y) := by
  have hb := hT.1
  obtain ⟨k0, k1, k3, k7, k8, k4, k6⟩ := hT.k hx
  haveI := Classical.propDecidable (Rtd v x)
  have C := mC_n (show 300 * k + x < 6000 by omega) (show (6000 : Nat) < 2147483648 by decide)
  obtain ⟨a, ha⟩ : ∃ a, (if v 0 x = 3 then v 6 x else v 4 x) = a := ⟨_, rfl⟩
  have hN1 : Nv (zu (zu v 42 (300 * k + x) 1) 44 (300 * k + x) a) (zu (zu u 42 (300 * k + x) 1) 44 (300 * k + x) (nI a)) := (hN.wr (by rw [dv_n rfl]; rfl)).wr (by rw [dv_n rfl])
  haveI d2 : Decidable (Rtd (zu (zu v 42 (300 * k + x) 1) 44 (300 * k + x) a) x) := (inferInstance : Decidable (Rtd v x))
  obtain ⟨u2, e2, s2⟩ := x_isRooted (v := zu (zu v 42 (300 * k + x) 1) 44 (300 * k + x) a) (t := x) (q := q) (z := z) (w := w) hN1 hT hW hx
  have hN2 := hN1.sc s2.sc
  have key : ∀ rt : Nat, rt ≤ 1 → (rt = 1 ↔ Rtd v x) → ∃ u' w', fX11_note_60 100000 q (nI x) (nI (300 * k + x)) 0 (mB q z (zu u2 43 (300 * k + x) (nI rt)) w) = some ((), mB q z u' w') ∧ Nv (ntv v k x rt) u' ∧ (∀ f i, (f = 2 ∨ f = 48) → u' f i = u f i) ∧ (∀ f i, f ≠ 45 → w' f i = w f i) ∧ (∀ i, ¬ slot k x i → w' 45 i = w 45 i) ∧ ∀ y, y < 300 → (hbt w' k x y = true ↔ Held v x y) := by
    intro rt h1 h2
    have hN3 : Nv (ntv v k x rt) (zu u2 43 (300 * k + x) (nI rt)) := by
      have := hN2.wr (k := 43) (i := 300 * k + x) (n := rt) (x := nI rt) (by rw [dv_n rfl])
      simp only [ntv]
      rw [ha]
      exact this
    obtain ⟨u4, w4, b1', b2', b3, b4, b5⟩ := x_note60 (v := ntv v k x rt) (q := q) (z := z) (w := w) hN3 hT hx hk h0
    refine ⟨u4, w4, b1', hN3.sc b2'.sc, fun f i hf => ?_, b3, b4, b5⟩
    rw [b2' f i (by omega), zu_n (by omega), s2 f i (by omega), zu_n (by omega), zu_n (by omega)]
  have e45 : fX11_note_45 q (nI x) (nI (300 * k + x)) (nI a) (nI (300 * k + x)) (q + 40) (mB q z (zu u 42 (300 * k + x) 1) w) = fX11_note_60 100000 q (nI x) (nI (300 * k + x)) 0 (mB q z (zu u2 43 (300 * k + x) (if Rtd v x then 1 else 0)) w) := by
    unfold fX11_note_45
    have e2' : fX11_isRooted q (nI x) (mB q z (zu (zu u 42 (300 * k + x) 1) 44 (300 * k + x) (nI a)) w) = some (if Rtd v x then 1 else 0, mB q z u2 w) := by
      have e3 := e2
      by_cases hr : Rtd v x
      · rw [if_pos hr]
        rw [if_pos (show Rtd (zu (zu v 42 (300 * k + x) 1) 44 (300 * k + x) a) x from hr)] at e3
        exact e3
      · rw [if_neg hr]
        rw [if_neg (show ¬ Rtd (zu (zu v 42 (300 * k + x) 1) 44 (300 * k + x) a) x from hr)] at e3
        exact e3
    rw [mY44 C, b1_s, nI_c (by omega), mA43, b1_s, mtg, b1_s, e2', b2_s, mY43 C, b1_s, nI_c (by omega)]
    by_cases hr : Rtd v x
    · rw [if_pos hr, nar1]
    · rw [if_neg hr, nar0]
  have e0 : fX11_note q (nI k) (nI x) (mB q z u w) = fX11_note_60 100000 q (nI x) (nI (300 * k + x)) 0 (mB q z (zu u2 43 (300 * k + x) (if Rtd v x then 1 else 0)) w) := by
    have q0 : zu u 42 (300 * k + x) 1 0 x = nI (v 0 x) := hN.k0 x
    have q6 : zu u 42 (300 * k + x) 1 6 x = nI (v 6 x) := hN.k6 x
    have q4 : zu u 42 (300 * k + x) 1 4 x = nI (v 4 x) := hN.k4 x
    unfold fX11_note
    rw [n300, mA42, b1_s, mY42 C, b1_s, nI_c (by omega), nar1, mA44, b1_s, mA0, b1_s, mX0, mI_n (by omega) (by decide), b1_s, q0, nI_if3 (by omega)]
    by_cases h3 : v 0 x = 3
    · rw [if_pos h3, mA6, b1_s, mX6, mI_n (by omega) (by decide), b1_s, q6]
      rw [if_pos h3] at ha
      rw [ha]
      exact e45
    · rw [if_neg h3, mA4, b1_s, mX4, mI_n (by omega) (by decide), b1_s, q4]
      rw [if_neg h3] at ha
      rw [ha]
      exact e45
  by_cases hr : Rtd v x
  · rw [if_pos hr] at e0
    obtain ⟨u', w', c1, c2, c3, c4⟩ := key 1 (by decide) ⟨fun _ => hr, fun _ => rfl⟩
    exact ⟨u', w', 1, e0.trans c1, c2, c3, by decide, ⟨fun _ => hr, fun _ => rfl⟩, c4⟩
  · rw [if_neg hr] at e0
    obtain ⟨u', w', c1, c2, c3, c4⟩ := key 0 (by decide) ⟨fun h => (by cases h), fun h => absurd h hr⟩
    exact ⟨u', w', 0, e0.trans c1, c2, c3, by decide, ⟨fun h => (by cases h), fun h => absurd h hr⟩, c4⟩
end NO
