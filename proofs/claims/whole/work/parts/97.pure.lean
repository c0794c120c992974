/-! The pure part. -/
theorem whole_pure {L : Nat} {xs : Nat → Int32} (hL : L ≤ 3584) : am_Law L xs := by
  obtain ⟨n, r, hr, v, hv, h1, h2, h3⟩ := l_law (xs := xs) hL
  refine ⟨n, r.1, ?_, h2, h3⟩
  rw [hr, ← h1, ← hv]
