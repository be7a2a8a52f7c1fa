section QR
variable {v : Nu} {u : Mu} {w : Me} {q z t n : Nat} {f dl : Nat → Nat}
/-- the best root among those before i -/
def BR (v : Nu) (n : Nat) (f dl : Nat → Nat) (i : Nat) (o : Option Nat) : Prop := match o with
  | none => ∀ x, x < i → v 0 x = 2 → ¬ In n f x
  | some b => b < i ∧ v 0 b = 2 ∧ In n f b ∧ ∀ x, x < i → v 0 x = 2 → In n f x → dl b < dl x ∨ (dl b = dl x ∧ b ≤ x)
def oI (o : Option Nat) : Int32 := o.elim (-1) nI
theorem x_rootFor (hN : Nv v u) (hT : iT v) (hQ : QS u n f dl) (hn : n ≤ 300) (hB : ∀ i, i < n → dl (f i) ≤ i) : ∃ o, fX11_rootFor q (mB q z u w) = some (oI o, mB q z u w) ∧ BR v n f dl (v 9 0) o := by
  have hb := hT.1
  have hd : ∀ x, In n f x → dl x < 300 := fun x ⟨i, i1, i2⟩ => by
    have := hB i i1
    rw [i2] at this
    omega
  have key := zlp (F := fun k i (o : Option Nat) => fX11_rootFor_4 k q (oI o) i (mB q z u w)) (N := v 9 0)
    (fun i o => BR v n f dl i o)
    (fun y => ∃ o, y = some (oI o, mB q z u w) ∧ BR v n f dl (v 9 0) o)
    (by
      intro k i o hi h
      left
      obtain ⟨k0, k1, k3, k7, -⟩ := hT.k hi
      haveI := Classical.propDecidable (In n f i)
      have skip : (v 0 i = 2 → ¬ In n f i) → BR v n f dl (i + 1) o := fun hne => by
        cases o with
        | none =>
          intro x hx h2
          by_cases e : x = i
          · rw [e]; rw [e] at h2; exact hne h2
          · exact h x (by omega) h2
        | some b =>
          obtain ⟨b1, b2, b3, b4⟩ := h
          refine ⟨by omega, b2, b3, fun x hx h2 hin => ?_⟩
          by_cases e : x = i
          · rw [e] at h2 hin; exact absurd hin (hne h2)
          · exact b4 x (by omega) h2 hin
      show ∃ s', fX11_rootFor_4 (k + 1) q (oI o) (nI i) (mB q z u w) = _ ∧ _
      rw [fX11_rootFor_4, mG9, b1_s, hN.k9, nI_ifle (by omega) (by omega), if_neg (by omega), mA7, b1_s, mX7, mI_n (by omega) (by decide), b1_s, hN.k7, nI_if0 (by omega), nI_1]
      by_cases e7 : v 7 i = 0
      rotate_left
      · rw [if_neg e7]
        exact ⟨o, rfl, skip (fun h2 => absurd (hT.rt hi h2) e7)⟩
      rw [if_pos e7, mA0, b1_s, mX0, mI_n (by omega) (by decide), b1_s, hN.k0, nI_if2 (by omega)]
      by_cases e2 : v 0 i = 2
      rotate_left
      · rw [if_neg e2]
        exact ⟨o, rfl, skip (fun h2 => absurd h2 e2)⟩
      rw [if_pos e2, mA49, b1_s, mX49, mI_n (by omega) (by decide), b1_s]
      by_cases ein : In n f i
      rotate_left
      · rw [(hQ.2 i (by omega)).2 ein, if_pos rfl]
        exact ⟨o, rfl, skip (fun _ => ein)⟩
      have hdi := hd i ein
      rw [(hQ.2 i (by omega)).1 ein, if_neg (nI_m1 (by omega))]
      cases o with
      | none =>
        rw [if_pos (show oI none = -1 from rfl)]
        refine ⟨some i, rfl, by omega, e2, ein, fun x hx h2 hin => ?_⟩
        by_cases e : x = i
        · rw [e]; exact Or.inr ⟨rfl, Nat.le_refl _⟩
        · exact absurd hin (h x (by omega) h2)
      | some b =>
        obtain ⟨b1, b2, b3, b4⟩ := h
        have hdb := hd b b3
        rw [if_neg (show ¬ oI (some b) = -1 from nI_m1 (by omega)), b1_s, show oI (some b) = nI b from rfl, mX49, mI_n (by omega) (by decide), b1_s, (hQ.2 i (by omega)).1 ein, b1_s, mX49, mI_n (by omega) (by decide), b1_s, (hQ.2 b (by omega)).1 b3, nI_ifle (by omega) (by omega)]
        by_cases e : dl b ≤ dl i
        · rw [if_pos e]
          refine ⟨some b, rfl, by omega, b2, b3, fun x hx h2 hin => ?_⟩
          by_cases ex : x = i
          · rw [ex]; omega
          · exact b4 x (by omega) h2 hin
        · rw [if_neg e]
          refine ⟨some i, rfl, by omega, e2, ein, fun x hx h2 hin => ?_⟩
          by_cases ex : x = i
          · rw [ex]; exact Or.inr ⟨rfl, Nat.le_refl _⟩
          · have := b4 x (by omega) h2 hin
            omega)
    (by
      intro k o h
      refine ⟨o, ?_, h⟩
      show fX11_rootFor_4 (k + 1) q (oI o) (nI (v 9 0)) (mB q z u w) = _
      rw [fX11_rootFor_4, mG9, b1_s, hN.k9, if_pos (Int32.le_refl _)])
  exact key (v 9 0) 100000 0 none (by omega) (by omega) (fun x hx => by omega)
end QR
