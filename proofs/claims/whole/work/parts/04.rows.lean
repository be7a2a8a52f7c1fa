/-! rows of the machine over the typed heap -/
section ZR
variable {p : Program} {l : Launch} {e : Env} {R : Room} {s : State} {m : MethodId} {args : Array Value} {below : List Frame} {meth : Method} {c : Code} {H H0 : Heap} {locs : List Loc} {cells slots : Nat} {Q : State → Prop}
variable {cc : ByteArray} {pc nL : Nat} {ls : Array Slot} {rest : List Value} {A : Nat → Prop} {D : va_G} {cy : Nat → ClassId} {h h' : Hz} {own : String}
theorem zP_one {a : Nat} {x : va_E} (hat : va_at D vwCl (a, x) H) : va_P D vwCl [(a, x)] H := by
  intro k q hq
  match k, hq with
  | 0, hq => cases hq; exact hat
  | k + 1, hq => simp at hq
/-- what an object's cell is -/
theorem z_obj {ci a N : Nat} {C : String} {T : u_T} {ty : Nat → FieldType} (hW : zW A cy D h H) (hT : zT h a = ci) (hC : zC ci C T N ty) : A a ∧ a < zs h ∧ va_at D vwCl (a, .inr (ci, zF h a)) H := by
  obtain ⟨g1, g2, g3⟩ := hW.2 a (by rw [hT]; exact Nat.lt_trans hC.2.2.1 (by decide))
  rw [zE_obj hT hC.2.2.1] at g3
  exact ⟨g1, g2, g3⟩
theorem z_get {ci k a N index : Nat} {C : String} {T : u_T} {ty : Nat → FieldType} {v : Value} (X : zX A D cy p s m args c cc own nL) (hW : zW A cy D h H) (hC : zC ci C T N ty) (hk : k < N) (hT : zT h a = ci) (hv : fv h a ci k = v) (hl : Cond.fieldLink own index (T k).1 (T k).2.1 (T k).2.2.1 ∈ wT) (hdg : decode cc pc = .ok (.getfield index, 3))
    (kk : W p l e R s m args below meth c H locs cells slots Q (F0 m (pc + 3) ls (v :: rest))) : W p l e R s m args below meth c H locs cells slots Q (F0 m pc ls (.ref a :: rest)) := by
  obtain ⟨hx, hb, hts, hown, hK, -⟩ := X
  obtain ⟨-, -, g3⟩ := z_obj hW hT hC
  refine va_get (D := D) (ci := ci) (v := v) (C := C) (T := T) (N := N) hx hb hts hC.2.1 hown hK (zP_one g3) 0 rfl hC.1 k hk (hts _ hl) (fun _ h9 => h9) ?_ hdg kk
  rw [zF_get hT (by rw [hC.2.2.2.1]; exact hk), hv]
theorem z_getI {ci k a N index : Nat} {C : String} {T : u_T} {ty : Nat → FieldType} {x : Int32} (X : zX A D cy p s m args c cc own nL) (hW : zW A cy D h H) (hg : gI ci k a h = some x) (hC : zC ci C T N ty) (hk : k < N) (hr : isR ci k = false) (hl : Cond.fieldLink own index (T k).1 (T k).2.1 (T k).2.2.1 ∈ wT) (hdg : decode cc pc = .ok (.getfield index, 3))
    (kk : W p l e R s m args below meth c H locs cells slots Q (F0 m (pc + 3) ls (.int x :: rest))) : W p l e R s m args below meth c H locs cells slots Q (F0 m pc ls (.ref a :: rest)) := by
  obtain ⟨hT, hx⟩ := it_v hg
  exact z_get X hW hC hk hT (by simp [fv, hr, hx]) hl hdg kk
theorem z_getP {ci k a N index : Nat} {C : String} {T : u_T} {ty : Nat → FieldType} {x : Option Nat} (X : zX A D cy p s m args c cc own nL) (hW : zW A cy D h H) (hg : gP ci k a h = some x) (hC : zC ci C T N ty) (hk : k < N) (hr : isR ci k = true) (hl : Cond.fieldLink own index (T k).1 (T k).2.1 (T k).2.2.1 ∈ wT) (hdg : decode cc pc = .ok (.getfield index, 3))
    (kk : W p l e R s m args below meth c H locs cells slots Q (F0 m (pc + 3) ls (va_rf x :: rest))) : W p l e R s m args below meth c H locs cells slots Q (F0 m pc ls (.ref a :: rest)) := by
  obtain ⟨hT, hx⟩ := it_v hg
  exact z_get X hW hC hk hT (by simp [fv, hr, hx]) hl hdg kk
/-- putfield: the heap behind it -/
theorem z_put {ci k a N index : Nat} {C : String} {T : u_T} {ty : Nat → FieldType} {v : Value} (X : zX A D cy p s m args c cc own nL) (hW : zW A cy D h H) (hS : va_S A H0 H locs) (hC : zC ci C T N ty) (hk : k < N) (hT : zT h a = ci) (ho : zOff a h h') (hF : zF h' a = (zF h a).set k v) (hn : narrow (ty k) v = v) (hfit : fits (ty k) v = true) (hfin : (T k).2.2.2 = false ∨ ((T k).2.2.2 = true ∧ meth.name = "<init>" ∧ (T k).1 = own)) (hl : Cond.fieldLink own index (T k).1 (T k).2.1 (T k).2.2.1 ∈ wT) (hdg : decode cc pc = .ok (.putfield index, 3))
    (kk : ∀ (H1 : Heap) (locs1 : List Loc), zW A cy D h' H1 → va_S A H0 H1 locs1 → W p l e R s m args below meth c H1 locs1 cells slots Q (F0 m (pc + 3) ls rest)) : W p l e R s m args below meth c H locs cells slots Q (F0 m pc ls (v :: .ref a :: rest)) := by
  obtain ⟨hx, hb, hts, hown, hK, -⟩ := X
  obtain ⟨gA, glt, gat⟩ := z_obj hW hT hC
  obtain ⟨hc, hin, hci, hnF, hty, hnm⟩ := hC
  have hap := va_apart (own := own) (D := D) (cl := vwCl) (tys := zty cy) hts hin ty hty hnm hK hc
  obtain ⟨r, h1, cell, q1, q2, q3, q4⟩ := gat
  have hr : r = (C, T, N) := Option.some.inj (h1.symm.trans hc)
  subst hr
  obtain ⟨hSl, hfc, kC, hkC, hkind⟩ := hK.1 ci _ hc
  obtain ⟨cf, kf, fi, f, hi, hsl⟩ := hSl k hk
  have hlay := hts _ (hin _ (u_in_lay hk))
  have hst := (u_facts hfc hkC (u_lays hts hin hk) hi).1
  have hlen : k < (zF h a).length := by rw [zF_len hT, hnF]; exact hk
  have fin : ∀ (H' : Heap), H'[a]? = some (cell.setSlot f.slot v) → H'.size = H.size → (∀ q : Nat, q ≠ a → H'[q]? = H[q]?) → W p l e R s m args below meth c H' (locs ++ [⟨a, f.slot⟩]) cells slots Q (F0 m (pc + 3) ls rest) := by
    intro H' e1 e2 e3
    rw [hsl] at e1 ⊢
    refine kk H' _ (zW_upd hW ho e2 e3 ?_) (hS.put e2 e3 gA)
    have hT' : zT h' a = ci := by rw [← hT]; simp only [zT, ho.1]
    rw [zE_obj hT' hci, hF]
    exact ⟨_, hc, t_OB.to (V := updV (vp_V (zF h a)) k v) ⟨_, e1, q2, q3, t_set q4 hap hk v⟩ (fun j _ => vp_updV_set hlen v j)⟩
  rcases hfin with hfin | ⟨hfin, hin2, hdecl⟩
  · unfold u_lay at hlay
    rw [if_neg (by rw [hfin]; decide)] at hlay
    have h6 := u_store hfc hkC hkind hlay hi (hty k hk) hn hfit
    exact W.putK hx hb (f := f) ⟨hown, hts _ hl, ⟨_, _, _, hi⟩, hst⟩ (by rw [q2]; exact h6) q1 q3 (by rw [hsl]; exact k2_hasslot (q4 k hk)) rfl rfl hdg fin
  · unfold u_lay at hlay
    rw [if_pos hfin] at hlay
    have hcf : m.cls = cf := by
      obtain ⟨_, _, c', _, _, _, -, -, hf', -, -, -, hown2, -⟩ := Cond.laysFinal_spec hlay
      have e1 : c' = cf := by have := hi.symm.trans hf'; simp at this; exact this.1.symm
      rw [hdecl] at hown2
      rw [← e1]; exact Option.some.inj (hown.symm.trans hown2)
    have h6 := u_fits hfc hkC hkind (Or.inr hlay) hi (hty k hk) hn hfit
    exact W.putFinK hx hb hown (hts _ hl) hi hst hcf hin2 (by rw [q2]; exact h6) q1 q3 (by rw [hsl]; exact k2_hasslot (q4 k hk)) rfl rfl hdg fin
end ZR
