section CG
variable {d : AD} {c : CH} {v : Nu} {u : Mu} {w : Me} {n p : Nat} {x : Int32}
theorem f100 (hF : FL d) : lvd d 100 0 := hF 0 (by decide)
theorem f101 (hF : FL d) : lvd d 101 0 := hF 1 (by decide)
theorem f102 (hF : FL d) : lvd d 102 0 := hF 2 (by decide)
theorem f103 (hF : FL d) : lvd d 103 0 := hF 3 (by decide)
theorem f104 (hF : FL d) : lvd d 104 0 := hF 4 (by decide)
theorem f105 (hF : FL d) : lvd d 105 0 := hF 5 (by decide)
theorem f106 (hF : FL d) : lvd d 106 0 := hF 6 (by decide)
theorem f107 (hF : FL d) : lvd d 107 0 := hF 7 (by decide)
theorem f108 (hF : FL d) : lvd d 108 0 := hF 8 (by decide)
theorem f109 (hF : FL d) : lvd d 109 0 := hF 9 (by decide)
theorem f110 (hF : FL d) : lvd d 110 0 := hF 10 (by decide)
theorem f111 (hF : FL d) : lvd d 111 0 := hF 11 (by decide)
theorem f112 (hF : FL d) : lvd d 112 0 := hF 12 (by decide)
theorem f113 (hF : FL d) : lvd d 113 0 := hF 13 (by decide)
theorem f114 (hF : FL d) : lvd d 114 0 := hF 14 (by decide)
theorem f115 (hF : FL d) : lvd d 115 0 := hF 15 (by decide)
theorem f116 (hF : FL d) : lvd d 116 0 := hF 16 (by decide)
theorem f117 (hF : FL d) : lvd d 117 0 := hF 17 (by decide)
theorem f118 (hF : FL d) : lvd d 118 0 := hF 18 (by decide)
theorem f119 (hF : FL d) : lvd d 119 0 := hF 19 (by decide)
theorem f120 (hF : FL d) : lvd d 120 0 := hF 20 (by decide)
theorem f121 (hF : FL d) : lvd d 121 0 := hF 21 (by decide)
theorem f122 (hF : FL d) : lvd d 122 0 := hF 22 (by decide)
theorem f123 (hF : FL d) : lvd d 123 0 := hF 23 (by decide)
theorem qa_100_0 (hF : FL d) (hX : FX c) : gA 10 0 (da d 100 0) (cB d c) = some (da d 101 0) := cgA (hF 0 (by decide)) rfl hX.1.1
theorem qa_100_1 (hF : FL d) (hX : FX c) : gA 10 1 (da d 100 0) (cB d c) = some (da d 103 0) := cgA (hF 0 (by decide)) rfl hX.1.2.1
theorem qa_100_2 (hF : FL d) (hX : FX c) : gA 10 2 (da d 100 0) (cB d c) = some (da d 105 0) := cgA (hF 0 (by decide)) rfl hX.1.2.2.1
theorem qa_100_3 (hF : FL d) (hX : FX c) : gA 10 3 (da d 100 0) (cB d c) = some (da d 107 0) := cgA (hF 0 (by decide)) rfl hX.1.2.2.2.1
theorem qa_100_4 (hF : FL d) (hX : FX c) : gA 10 4 (da d 100 0) (cB d c) = some (da d 108 0) := cgA (hF 0 (by decide)) rfl hX.1.2.2.2.2.1
theorem qa_100_5 (hF : FL d) (hX : FX c) : gA 10 5 (da d 100 0) (cB d c) = some (da d 109 0) := cgA (hF 0 (by decide)) rfl hX.1.2.2.2.2.2.1
theorem qa_100_6 (hF : FL d) (hX : FX c) : gA 10 6 (da d 100 0) (cB d c) = some (da d 110 0) := cgA (hF 0 (by decide)) rfl hX.1.2.2.2.2.2.2.1
theorem qa_100_7 (hF : FL d) (hX : FX c) : gA 10 7 (da d 100 0) (cB d c) = some (da d 111 0) := cgA (hF 0 (by decide)) rfl hX.1.2.2.2.2.2.2.2.1
theorem qa_100_8 (hF : FL d) (hX : FX c) : gA 10 8 (da d 100 0) (cB d c) = some (da d 114 0) := cgA (hF 0 (by decide)) rfl hX.1.2.2.2.2.2.2.2.2.1
theorem qa_100_9 (hF : FL d) (hX : FX c) : gA 10 9 (da d 100 0) (cB d c) = some (da d 117 0) := cgA (hF 0 (by decide)) rfl hX.1.2.2.2.2.2.2.2.2.2
theorem qa_101_0 (hF : FL d) (hX : FX c) : gA 6 0 (da d 101 0) (cB d c) = some (da d 102 0) := cgA (hF 1 (by decide)) rfl hX.2.1.1
theorem qa_103_0 (hF : FL d) (hX : FX c) : gA 2 0 (da d 103 0) (cB d c) = some (da d 104 0) := cgA (hF 3 (by decide)) rfl hX.2.1.2.1
theorem qa_105_0 (hF : FL d) (hX : FX c) : gA 7 0 (da d 105 0) (cB d c) = some (da d 106 0) := cgA (hF 5 (by decide)) rfl hX.2.1.2.2.1
theorem qa_111_0 (hF : FL d) (hX : FX c) : gA 3 0 (da d 111 0) (cB d c) = some (da d 112 0) := cgA (hF 11 (by decide)) rfl hX.2.1.2.2.2.1
theorem qa_111_1 (hF : FL d) (hX : FX c) : gA 3 1 (da d 111 0) (cB d c) = some (da d 113 0) := cgA (hF 11 (by decide)) rfl hX.2.1.2.2.2.2.1
theorem qa_114_0 (hF : FL d) (hX : FX c) : gA 3 0 (da d 114 0) (cB d c) = some (da d 115 0) := cgA (hF 14 (by decide)) rfl hX.2.1.2.2.2.2.2.1
theorem qa_114_1 (hF : FL d) (hX : FX c) : gA 3 1 (da d 114 0) (cB d c) = some (da d 116 0) := cgA (hF 14 (by decide)) rfl hX.2.1.2.2.2.2.2.2.1
theorem qa_117_0 (hF : FL d) (hX : FX c) : gA 1 0 (da d 117 0) (cB d c) = some (da d 118 0) := cgA (hF 17 (by decide)) rfl hX.2.1.2.2.2.2.2.2.2.1
theorem qa_117_1 (hF : FL d) (hX : FX c) : gA 1 1 (da d 117 0) (cB d c) = some (da d 121 0) := cgA (hF 17 (by decide)) rfl hX.2.1.2.2.2.2.2.2.2.2.1
theorem qa_117_2 (hF : FL d) (hX : FX c) : gA 1 2 (da d 117 0) (cB d c) = some (da d 122 0) := cgA (hF 17 (by decide)) rfl hX.2.1.2.2.2.2.2.2.2.2.2.1
theorem qa_117_3 (hF : FL d) (hX : FX c) : gA 1 3 (da d 117 0) (cB d c) = some (da d 123 0) := cgA (hF 17 (by decide)) rfl hX.2.1.2.2.2.2.2.2.2.2.2.2.1
theorem qa_118_0 (hF : FL d) (hX : FX c) : gA 3 0 (da d 118 0) (cB d c) = some (da d 119 0) := cgA (hF 18 (by decide)) rfl hX.2.1.2.2.2.2.2.2.2.2.2.2.2.1
theorem qa_118_1 (hF : FL d) (hX : FX c) : gA 3 1 (da d 118 0) (cB d c) = some (da d 120 0) := cgA (hF 18 (by decide)) rfl hX.2.1.2.2.2.2.2.2.2.2.2.2.2.2
theorem qn_102 (hF : FL d) (hX : FX c) : xN 17 (da d 102 0) (cB d c) = some (nI 300) := by
  rw [cxN (t := 17) (f102 hF) rfl]
  rw [show cN c 102 0 = 300 from hX.2.2.1]
theorem qn_104 (hF : FL d) (hX : FX c) : xN 15 (da d 104 0) (cB d c) = some (nI 600) := by
  rw [cxN (t := 15) (f104 hF) rfl]
  rw [show cN c 104 0 = 600 from hX.2.2.2.1]
theorem qn_106 (hF : FL d) (hX : FX c) : xN 18 (da d 106 0) (cB d c) = some (nI 16) := by
  rw [cxN (t := 18) (f106 hF) rfl]
  rw [show cN c 106 0 = 16 from hX.2.2.2.2.1]
theorem qn_107 (hF : FL d) (hX : FX c) : xN 19 (da d 107 0) (cB d c) = some (nI 20) := by
  rw [cxN (t := 19) (f107 hF) rfl]
  rw [show cN c 107 0 = 20 from hX.2.2.2.2.2.1]
theorem qn_108 (hF : FL d) (hX : FX c) : xN 12 (da d 108 0) (cB d c) = some (nI 8) := by
  rw [cxN (t := 12) (f108 hF) rfl]
  rw [show cN c 108 0 = 8 from hX.2.2.2.2.2.2.1]
theorem qn_109 (hF : FL d) (hX : FX c) : xN 12 (da d 109 0) (cB d c) = some (nI 7) := by
  rw [cxN (t := 12) (f109 hF) rfl]
  rw [show cN c 109 0 = 7 from hX.2.2.2.2.2.2.2.1]
theorem qn_110 (hF : FL d) (hX : FX c) : xN 12 (da d 110 0) (cB d c) = some (nI 300) := by
  rw [cxN (t := 12) (f110 hF) rfl]
  rw [show cN c 110 0 = 300 from hX.2.2.2.2.2.2.2.2.1]
theorem qn_112 (hF : FL d) (hX : FX c) : xN 14 (da d 112 0) (cB d c) = some (nI 300) := by
  rw [cxN (t := 14) (f112 hF) rfl]
  rw [show cN c 112 0 = 300 from hX.2.2.2.2.2.2.2.2.2.1]
theorem qn_113 (hF : FL d) (hX : FX c) : xN 17 (da d 113 0) (cB d c) = some (nI 300) := by
  rw [cxN (t := 17) (f113 hF) rfl]
  rw [show cN c 113 0 = 300 from hX.2.2.2.2.2.2.2.2.2.2.1]
theorem qn_115 (hF : FL d) (hX : FX c) : xN 14 (da d 115 0) (cB d c) = some (nI 300) := by
  rw [cxN (t := 14) (f115 hF) rfl]
  rw [show cN c 115 0 = 300 from hX.2.2.2.2.2.2.2.2.2.2.2.1]
theorem qn_116 (hF : FL d) (hX : FX c) : xN 17 (da d 116 0) (cB d c) = some (nI 300) := by
  rw [cxN (t := 17) (f116 hF) rfl]
  rw [show cN c 116 0 = 300 from hX.2.2.2.2.2.2.2.2.2.2.2.2.1]
theorem qn_119 (hF : FL d) (hX : FX c) : xN 14 (da d 119 0) (cB d c) = some (nI 300) := by
  rw [cxN (t := 14) (f119 hF) rfl]
  rw [show cN c 119 0 = 300 from hX.2.2.2.2.2.2.2.2.2.2.2.2.2.1]
theorem qn_120 (hF : FL d) (hX : FX c) : xN 17 (da d 120 0) (cB d c) = some (nI 300) := by
  rw [cxN (t := 17) (f120 hF) rfl]
  rw [show cN c 120 0 = 300 from hX.2.2.2.2.2.2.2.2.2.2.2.2.2.2.1]
theorem qn_121 (hF : FL d) (hX : FX c) : xN 14 (da d 121 0) (cB d c) = some (nI 300) := by
  rw [cxN (t := 14) (f121 hF) rfl]
  rw [show cN c 121 0 = 300 from hX.2.2.2.2.2.2.2.2.2.2.2.2.2.2.2.1]
theorem qn_122 (hF : FL d) (hX : FX c) : xN 17 (da d 122 0) (cB d c) = some (nI 300) := by
  rw [cxN (t := 17) (f122 hF) rfl]
  rw [show cN c 122 0 = 300 from hX.2.2.2.2.2.2.2.2.2.2.2.2.2.2.2.2.1]
theorem qn_123 (hF : FL d) (hX : FX c) : xN 12 (da d 123 0) (cB d c) = some (nI 300) := by
  rw [cxN (t := 12) (f123 hF) rfl]
  rw [show cN c 123 0 = 300 from hX.2.2.2.2.2.2.2.2.2.2.2.2.2.2.2.2.2]
theorem qt_100 (hF : FL d) : tg 10 (da d 100 0) (cB d c) = some (da d 100 0) := ctg (hF 0 (by decide)) rfl
theorem qt_101 (hF : FL d) : tg 6 (da d 101 0) (cB d c) = some (da d 101 0) := ctg (hF 1 (by decide)) rfl
theorem qt_103 (hF : FL d) : tg 2 (da d 103 0) (cB d c) = some (da d 103 0) := ctg (hF 3 (by decide)) rfl
theorem qt_105 (hF : FL d) : tg 7 (da d 105 0) (cB d c) = some (da d 105 0) := ctg (hF 5 (by decide)) rfl
theorem qt_111 (hF : FL d) : tg 3 (da d 111 0) (cB d c) = some (da d 111 0) := ctg (hF 11 (by decide)) rfl
theorem qt_114 (hF : FL d) : tg 3 (da d 114 0) (cB d c) = some (da d 114 0) := ctg (hF 14 (by decide)) rfl
theorem qt_117 (hF : FL d) : tg 1 (da d 117 0) (cB d c) = some (da d 117 0) := ctg (hF 17 (by decide)) rfl
theorem qt_118 (hF : FL d) : tg 3 (da d 118 0) (cB d c) = some (da d 118 0) := ctg (hF 18 (by decide)) rfl
theorem da_inj {a b k : Nat} (ha : lvd d k a) (hb : lvd d k b) : da d k a = da d k b ↔ a = b := by
  constructor
  · intro h
    have h1 : d.2.2.1 (d.2.2.2 k a) = a := ha.2.2
    have h2 : d.2.2.1 (d.2.2.2 k b) = b := hb.2.2
    have h3 : d.2.2.2 k a = d.2.2.2 k b := h
    rw [← h1, ← h2, h3]
  · intro h
    rw [h]
/-- what the tables say of the class's things -/
theorem RC.t (R : RC d c v u w) (hn : n < v 9 0) : lvd d 1 n ∧ lvd d 2 n ∧ lvd d 3 n ∧ cQ c 102 0 n = some (1, n) ∧ TF c v u n ∧ ∀ p, p < v 3 n → PL c v w n p := R.2.2.2.1.2.1 n hn
theorem e_size (R : RC d c v u w) : fX6_size (da d 101 0) (cB d c) = some (nI (v 9 0), cB d c) := by
  unfold fX6_size
  rw [cgI (t := 6) (f101 R.2.1) rfl, b1_s, show cI c 101 0 1 = nI (v 9 0) from R.2.2.2.1.1]
theorem e_find (R : RC d c v u w) (hb : v 9 0 ≤ 300) (hn : n < v 9 0) (hg : v 7 n ≤ 1) : fX6_find (da d 101 0) (nI n) (cB d c) = some (if v 7 n = 0 then some (da d 1 n) else none, cB d c) := by
  obtain ⟨l1, -, -, q1, ⟨t0, t1, t2, t3, t4, t5, t6, t7, t8, t9, t10, t11, t12⟩, -⟩ := R.t hn
  have hF := R.2.1
  have hX := R.2.2.1
  unfold fX6_find
  rw [if_neg (nI_pos (by omega)), cgI (t := 6) (f101 hF) rfl, b1_s, show cI c 101 0 1 = nI (v 9 0) from R.2.2.2.1.1, if_neg (by rw [nI_leI (by omega) (by omega)]; omega), qa_101_0 hF hX, b1_s, qn_102 hF hX, b1_s, if_pos (by rw [nI_ltI (by omega) (by omega)]; omega), b1_s, cxP (t := 17) (f102 hF) rfl (by rw [show cN c 102 0 = 300 from hX.2.2.1]; omega) (by omega), b1_s, q1]
  show oe (some (da d 1 n)) _ _ = _
  rw [oe_1, cgI (t := 5) l1 rfl, b1_s, t10]
  rcases (show v 7 n = 0 ∨ v 7 n = 1 by omega) with h | h
  · rw [h]
    rw [if_neg (show ¬ nI (1 - 0) = 0 by decide), if_pos rfl]
  · rw [h]
    rw [if_pos (show nI (1 - 1) = 0 from rfl), if_neg (by decide)]
theorem e_findO (R : RC d c v u w) (h : x < 0 ∨ nI (v 9 0) ≤ x) : fX6_find (da d 101 0) x (cB d c) = some (none, cB d c) := by
  unfold fX6_find
  by_cases h1 : x < 0
  · rw [if_pos h1]
  · rw [if_neg h1, cgI (t := 6) (f101 R.2.1) rfl, b1_s, show cI c 101 0 1 = nI (v 9 0) from R.2.2.2.1.1, if_pos (h.resolve_left h1)]
theorem e_ever (R : RC d c v u w) (hb : v 9 0 ≤ 300) (hn : n < v 9 0) : fX6_ever (da d 101 0) (nI n) (cB d c) = some (some (da d 1 n), cB d c) := by
  obtain ⟨l1, -, -, q1, -, -⟩ := R.t hn
  have hF := R.2.1
  have hX := R.2.2.1
  unfold fX6_ever
  rw [if_neg (nI_pos (by omega)), cgI (t := 6) (f101 hF) rfl, b1_s, show cI c 101 0 1 = nI (v 9 0) from R.2.2.2.1.1, if_neg (by rw [nI_leI (by omega) (by omega)]; omega), qa_101_0 hF hX, b1_s, qn_102 hF hX, b1_s, if_neg (by rw [nI_leI (by omega) (by omega)]; omega), b1_s, cxP (t := 17) (f102 hF) rfl (by rw [show cN c 102 0 = 300 from hX.2.2.1]; omega) (by omega), b1_s, q1]
  rfl
theorem e_everO (R : RC d c v u w) (h : x < 0 ∨ nI (v 9 0) ≤ x) : fX6_ever (da d 101 0) x (cB d c) = some (none, cB d c) := by
  unfold fX6_ever
  by_cases h1 : x < 0
  · rw [if_pos h1]
  · rw [if_neg h1, cgI (t := 6) (f101 R.2.1) rfl, b1_s, show cI c 101 0 1 = nI (v 9 0) from R.2.2.2.1.1, if_pos (h.resolve_left h1)]
theorem e_placesSize (R : RC d c v u w) (hn : n < v 9 0) : fX5_placesSize (da d 1 n) (cB d c) = some (nI (v 3 n), cB d c) := by
  obtain ⟨l1, l2, -, -, ⟨t0, t1, t2, t3, t4, t5, t6, t7, t8, t9, t10, t11, t12⟩, -⟩ := R.t hn
  unfold fX5_placesSize
  rw [cgA (t := 5) l1 rfl t3, b1_s]
  show b1 (xN 17 (da d 2 n) _) _ = _
  rw [cxN (t := 17) l2 rfl, b1_s, t11]
theorem e_hasPlaces (R : RC d c v u w) (hn : n < v 9 0) (hk : v 0 n ≤ 3) : fX5_hasPlaces (da d 1 n) (cB d c) = some (if v 0 n = 1 ∨ v 0 n = 2 then 1 else 0, cB d c) := by
  obtain ⟨l1, -, -, -, ⟨t0, t1, t2, t3, t4, t5, t6, t7, t8, t9, t10, t11, t12⟩, -⟩ := R.t hn
  unfold fX5_hasPlaces
  rw [cgI (t := 5) l1 rfl, b1_s, b1_s, t1]
  rcases (show v 0 n = 0 ∨ v 0 n = 1 ∨ v 0 n = 2 ∨ v 0 n = 3 by omega) with h | h | h | h <;> rw [h] <;> rfl
theorem e_hasPlaceO (R : RC d c v u w) (hn : n < v 9 0) (hp : x < 0 ∨ nI (v 3 n) ≤ x) : fX5_hasPlace (da d 1 n) x (cB d c) = some (0, cB d c) := by
  obtain ⟨l1, l2, -, -, ⟨t0, t1, t2, t3, t4, t5, t6, t7, t8, t9, t10, t11, t12⟩, -⟩ := R.t hn
  unfold fX5_hasPlace
  by_cases h1 : x < 0
  · rw [if_pos h1]; rfl
  · rw [if_neg h1, cgA (t := 5) l1 rfl t3, b1_s]
    show b1 (xN 17 (da d 2 n) _) _ = _
    rw [cxN (t := 17) l2 rfl, b1_s, t11, if_pos (hp.resolve_left h1)]
    rfl
theorem e_hasPlace (R : RC d c v u w) (hn : n < v 9 0) (hb : v 3 n ≤ 8) (hp : p < v 3 n) : fX5_hasPlace (da d 1 n) (nI p) (cB d c) = some (1, cB d c) := by
  obtain ⟨l1, l2, l3, -, ⟨t0, t1, t2, t3, t4, t5, t6, t7, t8, t9, t10, t11, t12⟩, -⟩ := R.t hn
  unfold fX5_hasPlace
  rw [if_neg (nI_pos (by omega)), cgA (t := 5) l1 rfl t3, b1_s]
  show b1 (xN 17 (da d 2 n) _) _ = _
  rw [cxN (t := 17) l2 rfl, b1_s, t11, if_neg (by rw [nI_leI (by omega) (by omega)]; omega), cgA (t := 5) l1 rfl t4, b1_s]
  show b1 (xN 16 (da d 3 n) _) _ = _
  rw [cxN (t := 16) l3 rfl, b1_s, t12, if_neg (by rw [nI_leI (by omega) (by omega)]; omega)]
  rfl
theorem e_thingAt (R : RC d c v u w) (hn : n < v 9 0) (hb : v 3 n ≤ 8) (hp : p < v 3 n) : fX5_thingAt (da d 1 n) (nI p) (cB d c) = some (if v 10 (8 * n + p) = 1 then some (da d 1 (v 11 (8 * n + p))) else none, cB d c) := by
  obtain ⟨l1, l2, l3, -, ⟨t0, t1, t2, t3, t4, t5, t6, t7, t8, t9, t10, t11, t12⟩, hpl⟩ := R.t hn
  unfold fX5_thingAt
  rw [ctg (t := 5) l1 rfl, b1_s, e_hasPlace R hn hb hp, b2_s, if_neg (by decide), cgA (t := 5) l1 rfl t3, b1_s]
  show b1 (xP 17 (da d 2 n) _ _) _ = _
  rw [cxP (t := 17) l2 rfl (by rw [t11]; exact hp) (by omega), b1_s]
  rcases hpl p hp with ⟨a1, a2, -⟩ | ⟨a1, a2, -⟩ | ⟨a1, a2, -⟩
  · rw [a2, a1]; rfl
  · rw [a2, a1]; rfl
  · rw [a2, a1]; rfl
theorem e_thingAtO (R : RC d c v u w) (hn : n < v 9 0) (hp : x < 0 ∨ nI (v 3 n) ≤ x) : fX5_thingAt (da d 1 n) x (cB d c) = some (none, cB d c) := by
  obtain ⟨l1, -, -, -, -, -⟩ := R.t hn
  unfold fX5_thingAt
  rw [ctg (t := 5) l1 rfl, b1_s, e_hasPlaceO R hn hp, b2_s, if_pos rfl]
theorem e_rowAt (R : RC d c v u w) (hn : n < v 9 0) (hb : v 3 n ≤ 8) (hp : p < v 3 n) : fX5_rowAt (da d 1 n) (nI p) (cB d c) = some ((cQ c 3 n p).map (fun q => da d q.1 q.2), cB d c) := by
  obtain ⟨l1, l2, l3, -, ⟨t0, t1, t2, t3, t4, t5, t6, t7, t8, t9, t10, t11, t12⟩, hpl⟩ := R.t hn
  unfold fX5_rowAt
  rw [ctg (t := 5) l1 rfl, b1_s, e_hasPlace R hn hb hp, b2_s, if_neg (by decide), cgA (t := 5) l1 rfl t4, b1_s]
  show b1 (xP 16 (da d 3 n) _ _) _ = _
  rw [cxP (t := 16) l3 rfl (by rw [t12]; exact hp) (by omega), b1_s]
theorem e_rowAtO (R : RC d c v u w) (hn : n < v 9 0) (hp : x < 0 ∨ nI (v 3 n) ≤ x) : fX5_rowAt (da d 1 n) x (cB d c) = some (none, cB d c) := by
  obtain ⟨l1, -, -, -, -, -⟩ := R.t hn
  unfold fX5_rowAt
  rw [ctg (t := 5) l1 rfl, b1_s, e_hasPlaceO R hn hp, b2_s, if_pos rfl]
theorem e_isAnchor (R : RC d c v u w) (hn : n < v 9 0) (he : v 4 n < 2147483648) (hb : v 8 n ≤ 1) : fX5_isAnchor (da d 1 n) (cB d c) = some (if 0 < v 4 n ∧ v 8 n = 0 then 1 else 0, cB d c) := by
  obtain ⟨l1, -, -, -, ⟨t0, t1, t2, t3, t4, t5, t6, t7, t8, t9, t10, t11, t12⟩, -⟩ := R.t hn
  unfold fX5_isAnchor
  rw [cgI (t := 5) l1 rfl, b1_s, t8]
  by_cases h0 : v 4 n = 0
  · rw [h0, if_pos (show nI 0 ≤ 0 from Int32.le_refl _), if_neg (by omega)]
    rfl
  · rw [if_neg (nI_nle (by omega) he), cgI (t := 5) l1 rfl, b1_s, t9]
    rcases (show v 8 n = 0 ∨ v 8 n = 1 by omega) with h | h
    · rw [h, if_pos (show nI 0 = 0 from rfl), if_pos ⟨by omega, rfl⟩]; rfl
    · rw [h, if_neg (show ¬ nI 1 = 0 by decide), if_neg (by omega)]; rfl
theorem e_isHost : fX10_isHost x (cB d c) = some (if x < 0 ∨ nI 8 ≤ x then 0 else 1, cB d c) := by
  unfold fX10_isHost
  by_cases h1 : x < 0
  · simp [h1, rz_0]
  · by_cases h2 : nI 8 ≤ x
    · rw [if_neg h1, if_pos (show (8 : Int32) ≤ x from h2), if_pos (Or.inr h2)]; rfl
    · rw [if_neg h1, if_neg (show ¬ (8 : Int32) ≤ x from h2), if_neg (fun h => h.elim h1 h2)]; rfl
theorem e_psize (R : RC d c v u w) : fX2_size (da d 103 0) (cB d c) = some (nI (v 24 0), cB d c) := by
  unfold fX2_size
  rw [cgI (t := 2) (f103 R.2.1) rfl, b1_s, show cI c 103 0 1 = nI (v 24 0) from R.2.2.2.2.1.1]
theorem e_pfind (R : RC d c v u w) (hb : v 24 0 ≤ 600) (hn : n < v 24 0) : fX2_find (da d 103 0) (nI n) (cB d c) = some (some (da d 4 n), cB d c) := by
  obtain ⟨l1, q1, -⟩ := R.2.2.2.2.1.2.1 n hn
  have hF := R.2.1
  have hX := R.2.2.1
  unfold fX2_find
  rw [if_neg (nI_pos (by omega)), cgI (t := 2) (f103 hF) rfl, b1_s, show cI c 103 0 1 = nI (v 24 0) from R.2.2.2.2.1.1, if_neg (by rw [nI_leI (by omega) (by omega)]; omega), qa_103_0 hF hX, b1_s, qn_104 hF hX, b1_s, if_neg (by rw [nI_leI (by omega) (by omega)]; omega), b1_s, cxP (t := 15) (f104 hF) rfl (by rw [show cN c 104 0 = 600 from hX.2.2.2.1]; omega) (by omega), b1_s, q1]
  rfl
theorem e_pfindO (R : RC d c v u w) (h : x < 0 ∨ nI (v 24 0) ≤ x) : fX2_find (da d 103 0) x (cB d c) = some (none, cB d c) := by
  unfold fX2_find
  by_cases h1 : x < 0
  · rw [if_pos h1]
  · rw [if_neg h1, cgI (t := 2) (f103 R.2.1) rfl, b1_s, show cI c 103 0 1 = nI (v 24 0) from R.2.2.2.2.1.1, if_pos (h.resolve_left h1)]
theorem e_hasRoom (R : RC d c v u w) (hb : v 24 0 ≤ 600) (hn : n ≤ 1000) : fX2_hasRoom (da d 103 0) (nI n) (cB d c) = some (if v 24 0 + n ≤ 600 then 1 else 0, cB d c) := by
  have hF := R.2.1
  have hX := R.2.2.1
  unfold fX2_hasRoom
  rw [cgI (t := 2) (f103 hF) rfl, b1_s, show cI c 103 0 1 = nI (v 24 0) from R.2.2.2.2.1.1, qa_103_0 hF hX, b1_s, qn_104 hF hX, b1_s, nI_add]
  by_cases h : v 24 0 + n ≤ 600
  · rw [if_neg (by rw [nI_ltI (by omega) (by omega)]; omega), if_pos h]; rfl
  · rw [if_pos (by rw [nI_ltI (by omega) (by omega)]; omega), if_neg h]; rfl
end CG
