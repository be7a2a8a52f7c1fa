theorem zgoal (b0 : Nat) : zGoal b0 := by
  sorry
