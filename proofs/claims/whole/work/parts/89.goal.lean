/-! ===== the walk of the calls, whole ===== -/
theorem goal_all (L : Nat) (hL : L ≤ 3072) (xs : Nat → Int32) : mGoal L xs := goal_whole hL
