/-! ===== WHAT IS STILL OWED ===== -/
theorem goal_all (L : Nat) (hL : L ≤ 3072) (xs : Nat → Int32) : mGoal L xs := by sorry
