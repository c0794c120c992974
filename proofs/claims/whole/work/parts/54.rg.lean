/-! Ranges; what a call of the class leaves. -/
theorem rg_lt {n a : Nat} (h : a < n) (hn : n < 2 ^ 31) : rg_r (nI 0) (nI n - nI 1) (nI a) = true := by
  rw [nm_isub (by omega)]
  exact nm_in' (by omega) (by omega) (by omega)
theorem rg_lt1 {n a : Nat} (h1 : 1 ≤ a) (h : a < n) (hn : n < 2 ^ 31) : rg_r (nI 1) (nI n - nI 1) (nI a) = true := by
  rw [nm_isub (by omega)]
  exact nm_in' h1 (by omega) (by omega)
theorem rg_le {a n b : Nat} (h1 : a ≤ n) (h2 : n ≤ b) (hb : b < 2 ^ 31) : rg_r (nI a) (nI b) (nI n) = true := nm_in' h1 h2 hb
theorem rg_ltI {n : Nat} {x : Int32} (h : rg_r (nI 0) (nI n - nI 1) x = true) (hn : n < 2 ^ 31) : ∃ a, a < n ∧ x = nI a := by
  by_cases h0 : n = 0
  · subst h0
    unfold rg_r at h
    simp only [Bool.and_eq_true, decide_eq_true_eq] at h
    have e1 := Int32.le_iff_toInt_le.mp h.1
    have e2 := Int32.le_iff_toInt_le.mp h.2
    have z1 : (nI 0).toInt = 0 := rfl
    have z2 : (nI 0 - nI 1).toInt = -1 := rfl
    omega
  · rw [nm_isub (by omega)] at h
    obtain ⟨a, -, h2, rfl⟩ := nm_in h (by decide) (by omega)
    exact ⟨a, by omega, rfl⟩
theorem rg_ltI1 {n : Nat} {x : Int32} (h : rg_r (nI 1) (nI n - nI 1) x = true) (h1 : 1 ≤ n) (hn : n < 2 ^ 31) : ∃ a, 1 ≤ a ∧ a < n ∧ x = nI a := by
  rw [nm_isub (by omega)] at h
  obtain ⟨a, h0, h2, rfl⟩ := nm_in h (by decide) (by omega)
  exact ⟨a, h0, by omega, rfl⟩
def c_all (a : Nat) : Prop := 3 ≤ a ∧ a < 212
theorem c_ok.e {K : Nat} {t : Nat → Nat} (h : c_ok K t) : ∀ g, g < 10 → t (83 + 7 * g + 5) ≤ 1 := fun g hg => (h.2.1 g hg).2.2.2.2.2.1
theorem nm_subLt {a b n : Nat} (ha : a < 2 ^ 31) (hb : b < 2 ^ 31) (hn : n < 2 ^ 31) : nI a - nI b < nI n ↔ a < b + n := by
  rw [Int32.lt_iff_toInt_lt, Jvm.Kit.i32_sub (by rw [nI_toInt ha, nI_toInt hb]; omega) (by rw [nI_toInt ha, nI_toInt hb]; omega), nI_toInt ha, nI_toInt hb, nI_toInt hn]
  omega
theorem rg_no {a b : Nat} {x : Int32} (h : rg_r (nI a) (nI b) x = false) (n : Nat) (h1 : a ≤ n) (h2 : n ≤ b) (hb : b < 2 ^ 31) : x ≠ nI n := fun q => by
  rw [q, rg_le h1 h2 hb] at h
  cases h
theorem rg_lt1' {x : Int32} (h : ¬ x < nI 1) : ∃ n : Nat, 1 ≤ n ∧ n < 2 ^ 31 ∧ x = nI n := by
  have h1 : ¬ x < 0 := fun q => h (Int32.lt_trans q (by decide))
  obtain ⟨n, hn, rfl⟩ := nI_of h1
  refine ⟨n, ?_, hn, rfl⟩
  rw [nI_ltI hn (by decide)] at h
  omega
