theorem zgoal (b0 : Nat) : zGoal b0 := by
  refine ⟨SH b0 24 E24, RH (b0 + 24) 44, Jx b0 (b0 + 24), ?_, ?_, ?_, ?_, ⟨st_root, st_leaf, st_box, st_put, st_clear, st_row, st_set, st_copy, st_element, st_holds, st_thing, st_gate, st_send, st_deliver, st_letter, st_clean, st_freed, st_doubt, st_walk, st_meant, st_why, st_dead, st_audit, st_status⟩, ?_, ?_, ?_⟩
  · rw [sh_one]
    exact sh_init
  · show b0 < b0 + 24
    omega
  · show fX11_init (b0 + 24) (znew 11 0 (zE0 (b0 + 24))) = _
    rw [rh_one]
    exact rh_init
  · exact ⟨d0 b0 (b0 + 24 + 44 + 1), c0, v0, fun _ _ => 0, fun _ _ => 0, b0 + 24 + 45, cB0.symm, rh_mB, d0_at (by decide), rc0 (by omega), nv0, inv0⟩
  · rintro n x y k ⟨d, c, v, u, w, z, h1, h2, h3, h4, h5, h6⟩
    refine ⟨d, c, v, u, w, k, h1, ?_, h3, h4, h5, h6⟩
    rw [h2]
    rfl
  · rintro n x y ⟨d, c, v, u, w, z, rfl, rfl, rfl, h4, h5, h6⟩
    refine ⟨cTt (h4.2.1 0 (by decide)), ?_⟩
    show mBt (da d 100 0 + 24) (da d 100 0 + 24) = 11
    simp only [mBt]
    rw [if_pos trivial]
  · intro n x y h
    exact h.up
