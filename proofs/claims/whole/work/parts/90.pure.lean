/-! What is owed of the pure part. -/
theorem whole_pure {L : Nat} {xs : Nat → Int32} (hL : L ≤ 3584) : am_Law L xs := by
  sorry
