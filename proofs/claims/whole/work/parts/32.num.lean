/-! Numbers: ints and longs that are natural numbers; the conditions of jumps. -/
theorem nm_t {n : Nat} (h : n < 2 ^ 63) : (lN n).toInt = (n : Int) := lg_ofNat_toInt h
theorem nm_leq {a b : Nat} (ha : a < 2 ^ 63) (hb : b < 2 ^ 63) : lN a = lN b ↔ a = b := by
  rw [← Int64.toInt_inj, nm_t ha, nm_t hb]; omega
theorem nm_lle {a b : Nat} (ha : a < 2 ^ 63) (hb : b < 2 ^ 63) : lN a ≤ lN b ↔ a ≤ b := by
  rw [Int64.le_iff_toInt_le, nm_t ha, nm_t hb]; omega
theorem nm_llt {a b : Nat} (ha : a < 2 ^ 63) (hb : b < 2 ^ 63) : lN a < lN b ↔ a < b := by
  rw [Int64.lt_iff_toInt_lt, nm_t ha, nm_t hb]; omega
theorem nm_ldiv {a b : Nat} (ha : a < 2 ^ 63) (hb : b < 2 ^ 63) : lN a / lN b = lN (a / b) := by
  have hab : a / b < 2 ^ 63 := Nat.lt_of_le_of_lt (Nat.div_le_self a b) ha
  rw [← Int64.toInt_inj, Jvm.Kit.i64_div (by rw [nm_t ha]; omega), nm_t ha, nm_t hb, nm_t hab, Int.tdiv_eq_ediv_of_nonneg (by omega)]
  exact (Int.natCast_ediv a b).symm
theorem nm_lmod {a b : Nat} (ha : a < 2 ^ 63) (hb : b < 2 ^ 63) : lN a - lN a / lN b * lN b = lN (a % b) := by
  rw [nm_ldiv ha hb, lN_mul, lN_sub (Nat.div_mul_le_self a b)]
  congr 1
  have := Nat.div_add_mod a b
  rw [Nat.mul_comm] at this
  omega
theorem nm_l0 {b : Nat} (h0 : 0 < b) (hb : b < 2 ^ 63) : ¬ lN b = 0 := fun q => by
  have : lN b = lN 0 := q
  rw [nm_leq hb (by decide)] at this
  omega
theorem nm_i0 {b : Nat} (h0 : 0 < b) (hb : b < 2 ^ 31) : ¬ nI b = 0 := nI_ne0 h0 hb
theorem nm_imul (a b : Nat) : nI a * nI b = nI (a * b) := (Int32.ofNat_mul a b).symm
theorem nm_isub {a b : Nat} (h : b ≤ a) : nI a - nI b = nI (a - b) := by
  obtain ⟨c, rfl⟩ : ∃ c, a = c + b := ⟨a - b, by omega⟩
  rw [← nI_add, Nat.add_sub_cancel, Int32.add_sub_cancel]
theorem nm_idiv {a b : Nat} (ha : a < 2 ^ 31) (hb : b < 2 ^ 31) : nI a / nI b = nI (a / b) := by
  have hab : a / b < 2 ^ 31 := Nat.lt_of_le_of_lt (Nat.div_le_self a b) ha
  rw [← Int32.toInt_inj, Jvm.Kit.i32_div (by rw [nI_toInt ha]; omega), nI_toInt ha, nI_toInt hb, nI_toInt hab, Int.tdiv_eq_ediv_of_nonneg (by omega)]
  exact (Int.natCast_ediv a b).symm
theorem nm_imod {a b : Nat} (ha : a < 2 ^ 31) (hb : b < 2 ^ 31) : nI a - nI a / nI b * nI b = nI (a % b) := by
  rw [nm_idiv ha hb, nm_imul, nm_isub (Nat.div_mul_le_self a b)]
  congr 1
  have := Nat.div_add_mod a b
  rw [Nat.mul_comm] at this
  omega
theorem nm_l {n : Nat} (h : n < 2 ^ 31) : (nI n).toInt64 = lN n := nI_l h
theorem nm_i (n : Nat) : (lN n).toInt32 = nI n := lN_i n
/-- jumps -/
theorem nm_lt {a b : Nat} (ha : a < 2 ^ 31) (hb : b < 2 ^ 31) : am_c2 .lt (nI a) (nI b) = decide (a < b) := by simp only [am_c2, nI_ltI ha hb]
theorem nm_ge {a b : Nat} (ha : a < 2 ^ 31) (hb : b < 2 ^ 31) : am_c2 .ge (nI a) (nI b) = decide (b ≤ a) := by simp only [am_c2, nI_leI hb ha]
theorem nm_gt {a b : Nat} (ha : a < 2 ^ 31) (hb : b < 2 ^ 31) : am_c2 .gt (nI a) (nI b) = decide (b < a) := by simp only [am_c2, nI_ltI hb ha]
theorem nm_le {a b : Nat} (ha : a < 2 ^ 31) (hb : b < 2 ^ 31) : am_c2 .le (nI a) (nI b) = decide (a ≤ b) := by simp only [am_c2, nI_leI ha hb]
theorem nm_eq {a b : Nat} (ha : a < 2 ^ 31) (hb : b < 2 ^ 31) : am_c2 .eq (nI a) (nI b) = decide (a = b) := by simp only [am_c2, nI_eq ha hb]
theorem nm_ne {a b : Nat} (ha : a < 2 ^ 31) (hb : b < 2 ^ 31) : am_c2 .ne (nI a) (nI b) = decide (a ≠ b) := by simp only [am_c2, Ne, nI_eq ha hb]
theorem nm_eq0 {a : Nat} (ha : a < 2 ^ 31) : am_c1 .eq (nI a) = decide (a = 0) := nm_eq ha (by decide : 0 < 2 ^ 31)
theorem nm_ne0 {a : Nat} (ha : a < 2 ^ 31) : am_c1 .ne (nI a) = decide (a ≠ 0) := nm_ne ha (by decide : 0 < 2 ^ 31)
theorem nm_le0 {a : Nat} (ha : a < 2 ^ 31) : am_c1 .le (nI a) = decide (a = 0) := by
  have := nm_le ha (by decide : 0 < 2 ^ 31)
  rw [show am_c1 .le (nI a) = am_c2 .le (nI a) (nI 0) from rfl, this]
  congr 1
  simp
theorem nm_gt0 {a : Nat} (ha : a < 2 ^ 31) : am_c1 .gt (nI a) = decide (0 < a) := nm_gt ha (by decide : 0 < 2 ^ 31)
theorem nm_cge (x y : Int64) : am_c1 .ge (lg_cmp x y) = decide (y ≤ x) := by simp only [am_c1, lg_cmp_ge]
theorem nm_cgt (x y : Int64) : am_c1 .gt (lg_cmp x y) = decide (y < x) := by simp only [am_c1, lg_cmp_gt]
theorem nm_cle (x y : Int64) : am_c1 .le (lg_cmp x y) = decide (x ≤ y) := by simp only [am_c1, lg_cmp_le]
theorem nm_clt (x y : Int64) : am_c1 .lt (lg_cmp x y) = decide (x < y) := by simp only [am_c1, lg_cmp_lt]
theorem nm_ceq (x y : Int64) : am_c1 .eq (lg_cmp x y) = decide (x = y) := by simp only [am_c1, lg_cmp_eq]
theorem nm_cne (x y : Int64) : am_c1 .ne (lg_cmp x y) = decide (x ≠ y) := by simp only [am_c1, Ne, lg_cmp_eq]
/-- numbers between two bounds -/
theorem nm_in {x : Int32} {a b : Nat} (h : (decide (nI a ≤ x) && decide (x ≤ nI b)) = true) (ha : a < 2 ^ 31) (hb : b < 2 ^ 31) : ∃ n : Nat, a ≤ n ∧ n ≤ b ∧ x = nI n := by
  simp only [Bool.and_eq_true, decide_eq_true_eq] at h
  obtain ⟨h1, h2⟩ := h
  have e1 := Int32.le_iff_toInt_le.mp h1
  have e2 := Int32.le_iff_toInt_le.mp h2
  rw [nI_toInt ha] at e1
  rw [nI_toInt hb] at e2
  refine ⟨x.toInt.toNat, by omega, by omega, ?_⟩
  rw [← Int32.toInt_inj, nI_toInt (by omega)]
  omega
theorem nm_in' {n a b : Nat} (h1 : a ≤ n) (h2 : n ≤ b) (hb : b < 2 ^ 31) : (decide (nI a ≤ nI n) && decide (nI n ≤ nI b)) = true := by
  simp only [Bool.and_eq_true, decide_eq_true_eq]
  exact ⟨nI_le h1 (by omega), nI_le h2 hb⟩
