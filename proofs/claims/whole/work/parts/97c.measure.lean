section QL
variable {v : Nu} {u u' : Mu} {w : Me} {q z t j n x d : Nat} {f dl : Nat → Nat}
def S3 (u u' : Mu) : Prop := ∀ k i, (k ≠ 36 ∧ k ≠ 49) → u' k i = u k i
theorem S3.sc (h : S3 u u') : Sc u u' := fun k i hk => h k i (by omega)
/-- what goes to the head is put into the queue -/
theorem x_m48 {K : Nat → Int32 → Int32 → Hz → Option (Unit × Hz)} (hN : Nv v u) (hT : iT v) (hL : iL v) (hW : iW v) (hB : ∀ i, i < n → dl (f i) ≤ i) (hQ : QS u n f dl) (hI : QI v t j n f dl) (hj : j < n) : ∃ u' n' f' dl', fX11_measure_48 K 100000 q (nI n) (nI j) 0 (mB q z u w) = K q (nI n') (nI (j + 1)) (mB q z u' w) ∧ QS u' n' f' dl' ∧ QI v t (j + 1) n' f' dl' ∧ S3 u u' ∧ n ≤ n' ∧ ∀ i, i < n' → dl' (f' i) ≤ i := by
  have hb := hT.1
  have key := zlp (F := fun k i (s : Mu × Nat × (Nat → Nat) × (Nat → Nat)) => fX11_measure_48 K k q (nI s.2.1) (nI j) i (mB q z s.1 w)) (N := v 9 0)
    (fun i s => QS s.1 s.2.1 s.2.2.1 s.2.2.2 ∧ QI v t j s.2.1 s.2.2.1 s.2.2.2 ∧ S3 u s.1 ∧ n ≤ s.2.1 ∧ s.2.2.1 j = f j ∧ (∀ a, a < s.2.1 → s.2.2.2 (s.2.2.1 a) ≤ a) ∧ ∀ x, x < i → v 7 x = 0 → GE v x (f j) → In s.2.1 s.2.2.1 x)
    (fun y => ∃ u' n' f' dl', y = K q (nI n') (nI (j + 1)) (mB q z u' w) ∧ QS u' n' f' dl' ∧ QI v t (j + 1) n' f' dl' ∧ S3 u u' ∧ n ≤ n' ∧ ∀ i, i < n' → dl' (f' i) ≤ i)
    (by
      rintro k i ⟨u1, n1, f1, d1⟩ hi ⟨p1, p2, p3, p4, p5, pB, p6⟩
      left
      dsimp only at p1 p2 p3 p4 p5 pB p6
      have hN1 := hN.sc p3.sc
      have k7 := (hT.k hi).2.2.2.1
      have hn1 := p2.1
      haveI := Classical.propDecidable (In n1 f1 i)
      haveI := Classical.propDecidable (GE v i (f1 j))
      have fj := (p2.2.2.1 j (by omega)).1
      have skip : (v 7 i = 0 → GE v i (f j) → In n1 f1 i) → ∃ s' : Mu × Nat × (Nat → Nat) × (Nat → Nat), fX11_measure_48 K k q (nI n1) (nI j) (nI (i + 1)) (mB q z u1 w) = fX11_measure_48 K k q (nI s'.2.1) (nI j) (nI (i + 1)) (mB q z s'.1 w) ∧ QS s'.1 s'.2.1 s'.2.2.1 s'.2.2.2 ∧ QI v t j s'.2.1 s'.2.2.1 s'.2.2.2 ∧ S3 u s'.1 ∧ n ≤ s'.2.1 ∧ s'.2.2.1 j = f j ∧ (∀ a, a < s'.2.1 → s'.2.2.2 (s'.2.2.1 a) ≤ a) ∧ ∀ x, x < i + 1 → v 7 x = 0 → GE v x (f j) → In s'.2.1 s'.2.2.1 x := fun hne => ⟨(u1, n1, f1, d1), rfl, p1, p2, p3, p4, p5, pB, fun x hx => by
        by_cases e : x = i
        · rw [e]; exact hne
        · exact p6 x (by omega)⟩
      show ∃ s' : Mu × Nat × (Nat → Nat) × (Nat → Nat), fX11_measure_48 K (k + 1) q (nI n1) (nI j) (nI i) (mB q z u1 w) = _ ∧ _
      rw [fX11_measure_48, mG9, b1_s, hN1.k9, nI_ifle (by omega) (by omega), if_neg (by omega), mA7, b1_s, mX7, mI_n (by omega) (by decide), b1_s, hN1.k7, nI_if0 (by omega), nI_1]
      by_cases e7 : v 7 i = 0
      · rw [if_pos e7, mA49, b1_s, mX49, mI_n (by omega) (by decide), b1_s]
        by_cases ein : In n1 f1 i
        · rw [(p1.2 i (by omega)).1 ein, if_neg (show ¬ nI (d1 i) = -1 from nI_m1 (by
            obtain ⟨a, a1, a2⟩ := ein
            have := pB a a1
            rw [a2] at this
            omega))]
          exact skip (fun _ _ => ein)
        · rw [(p1.2 i (by omega)).2 ein, if_pos rfl, mA36, b1_s, mX36, mI_n (by omega) (by decide), b1_s, p1.1 j (by omega), mtg, b1_s, s_goes hN1 hT hL hW hi fj, b2_s]
          by_cases eg : GE v i (f1 j)
          · have hroom := p2.room hb hi ein
            have hBj := pB j (by omega)
            have r49 : u1 49 (f1 j) = nI (d1 (f1 j)) := (p1.2 (f1 j) (by omega)).1 ⟨j, by omega, rfl⟩
            rw [if_pos eg, if_neg (show ¬ (1 : Int32) = 0 by decide), mA49, b1_s, b1_s, mA36, b1_s, mX36, mI_n (by omega) (by decide), b1_s, p1.1 j (by omega), mX49, mI_n (by omega) (by decide), b1_s, r49, nI_1, mY49 (mC_n (by omega) (by decide)), b1_s, nI_c (by omega), mA36, b1_s, mY36 (mC_n (by omega) (by decide)), b1_s, nI_c (by omega), nI_1]
            refine ⟨(zu (zu u1 49 i (nI (d1 (f1 j) + 1))) 36 n1 (nI i), n1 + 1, fup f1 n1 i, fup d1 i (d1 (f1 j) + 1)), rfl, p1.add ein hroom (fun a => ?_) (fun a => ?_), p2.add hb (by omega) hi e7 ein eg, fun a b hab => ?_, by dsimp only; omega, ?_, fun a ha => ?_, fun x hx h7 hg => ?_⟩
            · dsimp only
              by_cases e : a = n1
              · rw [if_pos e, e, zu_s]
              · rw [if_neg e, zu_n (by omega), zu_n (by omega)]
            · dsimp only
              by_cases e : a = i
              · rw [if_pos e, e, zu_n (by omega), zu_s]
              · rw [if_neg e, zu_n (by omega), zu_n (by omega)]
            · dsimp only
              rw [zu_n (by omega), zu_n (by omega)]
              exact p3 a b hab
            · dsimp only
              rw [fup_n (by omega)]
              exact p5
            · dsimp only at ha ⊢
              by_cases e : a = n1
              · rw [e, fup_s, fup_s]
                omega
              · rw [fup_n e, fup_n (fun g => ein ⟨a, by omega, g⟩)]
                exact pB a (by omega)
            · dsimp only
              by_cases e : x = i
              · exact ⟨n1, by omega, by rw [fup_s, e]⟩
              · obtain ⟨a, a1, a2⟩ := p6 x (by omega) h7 hg
                exact ⟨a, by omega, by rw [fup_n (by omega)]; exact a2⟩
          · rw [if_neg eg, if_pos rfl]
            exact skip (fun _ g => absurd (by rw [p5]; exact g) eg)
      · rw [if_neg e7]
        exact skip (fun g => absurd g e7))
    (by
      rintro k ⟨u1, n1, f1, d1⟩ ⟨p1, p2, p3, p4, p5, pB, p6⟩
      dsimp only at p1 p2 p3 p4 p5 pB p6
      have hN1 := hN.sc p3.sc
      refine ⟨u1, n1, f1, d1, ?_, p1, p2.next (by omega) (fun x hx h7 hg => p6 x hx h7 (by rw [← p5]; exact hg)), p3, p4, pB⟩
      show fX11_measure_48 K (k + 1) q (nI n1) (nI j) (nI (v 9 0)) (mB q z u1 w) = _
      rw [fX11_measure_48, mG9, b1_s, hN1.k9, if_pos (Int32.le_refl _), nI_1])
  exact key (v 9 0) 100000 0 (u, n, f, dl) (by omega) (by omega) ⟨hQ, hI, fun _ _ _ => rfl, Nat.le_refl _, rfl, hB, fun x hx => by omega⟩
end QL
