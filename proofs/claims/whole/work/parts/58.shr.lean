/-! For sharing out: marks as longs. -/
theorem nm_mkt {a : Nat} (ha : a < 2 ^ 62) : (lN a - lN 1).toInt = (a : Int) - 1 := by
  have h1 : (lN 1).toInt = 1 := rfl
  rw [Jvm.Kit.i64_sub (by rw [nm_t (show a < 2 ^ 63 by omega), h1]; omega) (by rw [nm_t (show a < 2 ^ 63 by omega), h1]; omega), nm_t (show a < 2 ^ 63 by omega), h1]
theorem nm_mk {a b : Nat} (ha : a < 2 ^ 62) (hb : b < 2 ^ 62) : lN a - lN 1 ≤ lN b - lN 1 ↔ a ≤ b := by
  rw [Int64.le_iff_toInt_le, nm_mkt ha, nm_mkt hb]
  omega
theorem sp_sm_mono {f : Nat → Nat} {n m : Nat} (h : n ≤ m) : sp_sm f n ≤ sp_sm f m := by
  induction m with
  | zero =>
    have : n = 0 := by omega
    subst this
    exact Nat.le_refl _
  | succ m ih =>
    by_cases e : n = m + 1
    · subst e; exact Nat.le_refl _
    · simp only [sp_sm]
      have := ih (by omega)
      omega
theorem sp_fl_A {n A : Nat} {u : Nat → Nat} {i : Nat} (hi : i < n) : sp_fl n A u i ≤ A := by
  unfold sp_fl
  by_cases h : sp_sm u n = 0
  · rw [h, Nat.div_zero]; exact Nat.zero_le _
  · refine Nat.div_le_of_le_mul ?_
    rw [Nat.mul_comm]
    exact Nat.mul_le_mul_right A (sp_sm_ge hi)
theorem sp_lf_n {n A : Nat} {u : Nat → Nat} (h : 0 < sp_sm u n) : sp_lf n A u ≤ n := by
  refine Nat.le_trans (sp_lf_ct h) ?_
  have : ∀ m, sp_sm (fun i => if A * u i % sp_sm u n = 0 then 0 else 1) m ≤ m := by
    intro m
    induction m with
    | zero => exact Nat.le_refl _
    | succ m ih =>
      simp only [sp_sm]
      split <;> omega
  exact this n
