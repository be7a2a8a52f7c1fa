/-- a reference that is there -/
def gA (c k a : Nat) (h : Hz) : Option Nat := if zT h a = c then zP h a k else none
section ZR5
variable {p : Program} {l : Launch} {e : Env} {R : Room} {s : State} {m : MethodId} {args : Array Value} {below : List Frame} {meth : Method} {c : Code} {H : Heap} {locs : List Loc} {cells slots : Nat} {Q : State → Prop}
variable {cc : ByteArray} {pc nL : Nat} {ls : Array Slot} {rest : List Value} {A : Nat → Prop} {D : va_G} {cy : Nat → ClassId} {h : Hz} {own : String}
theorem z_getA {ci k a N index b : Nat} {C : String} {T : u_T} {ty : Nat → FieldType} (X : zX A D cy p s m args c cc own nL) (hW : zW A cy D h H) (hg : gA ci k a h = some b) (hC : zC ci C T N ty) (hk : k < N) (hr : isR ci k = true) (hl : Cond.fieldLink own index (T k).1 (T k).2.1 (T k).2.2.1 ∈ wT) (hdg : decode cc pc = .ok (.getfield index, 3))
    (kk : W p l e R s m args below meth c H locs cells slots Q (F0 m (pc + 3) ls (.ref b :: rest))) : W p l e R s m args below meth c H locs cells slots Q (F0 m pc ls (.ref a :: rest)) := by
  obtain ⟨hT, hx⟩ := it_s hg
  exact z_get X hW hC hk hT (by simp [fv, hr, hx, va_rf]) hl hdg kk
end ZR5
