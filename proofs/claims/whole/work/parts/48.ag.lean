/-! What rounds and leaving do to a ledger's numbers. -/
theorem g_p_le {iss gd cv n p all : Nat} (hn : 0 < n) : g_p iss gd cv n p all ≤ cv := by
  unfold g_p
  split
  · exact Nat.le_refl _
  · split
    · omega
    · have h : 1000 * p ≤ cv := by omega
      refine Nat.div_le_of_le_mul ?_
      rw [Nat.add_mul, Nat.mul_comm all cv, Nat.mul_comm n cv]
      exact Nat.add_le_add_left (Nat.mul_le_mul_right n h) _
theorem g_p_ge {iss gd cv n p all : Nat} (hn : 0 < n) (hp : 1 ≤ p) (hc : 1000 ≤ cv) : 1000 ≤ g_p iss gd cv n p all := by
  unfold g_p
  split
  · exact hc
  · split
    · omega
    · rw [Nat.le_div_iff_mul_le (by omega), Nat.mul_add]
      refine Nat.add_le_add ?_ ?_
      · exact Nat.mul_le_mul_right all hc
      · exact Nat.mul_le_mul_right n (by omega)
/-- the guards of the classes below k -/
def c_ag (t : Nat → Nat) (ic n p k q : Nat) : Nat := if q < 40 ∧ q % 8 = 6 ∧ 1 ≤ q / 8 ∧ q / 8 < k ∧ q / 8 ≠ ic then g_p (t (q + 1)) (t (q - 1)) (t q) n p (sp_sm (c_ic t) 5) else t q
theorem c_ag_row {t : Nat → Nat} {ic n p k c m : Nat} (h : k ≤ c) (hm : m < 8) : c_ag t ic n p k (8 * c + m) = t (8 * c + m) := by
  unfold c_ag
  rw [if_neg (by omega)]
theorem c_ag_skip {t : Nat → Nat} {ic n p : Nat} (q : Nat) : c_ag t ic n p (ic + 1) q = c_ag t ic n p ic q := by
  unfold c_ag
  by_cases h : q < 40 ∧ q % 8 = 6 ∧ 1 ≤ q / 8 ∧ q / 8 < ic ∧ q / 8 ≠ ic
  · rw [if_pos h, if_pos (by omega)]
  · rw [if_neg h, if_neg (by omega)]
theorem c_ag_step {t : Nat → Nat} {ic n p k : Nat} (h1 : 1 ≤ k) (h5 : k < 5) (hk : k ≠ ic) (q : Nat) : c_ag t ic n p (k + 1) q = va_up (c_ag t ic n p k) (8 * k + 6) (g_p (t (8 * k + 7)) (t (8 * k + 5)) (t (8 * k + 6)) n p (sp_sm (c_ic t) 5)) q := by
  by_cases e : q = 8 * k + 6
  · subst e
    rw [va_up_self]
    unfold c_ag
    rw [if_pos (by omega), show 8 * k + 6 - 1 = 8 * k + 5 by omega]
  · rw [va_up_ne _ _ e]
    unfold c_ag
    by_cases h : q < 40 ∧ q % 8 = 6 ∧ 1 ≤ q / 8 ∧ q / 8 < k ∧ q / 8 ≠ ic
    · rw [if_pos h, if_pos (by omega)]
    · rw [if_neg h, if_neg (by omega)]
/-- what has vested of a grant -/
def c_vg (t : Nat → Nat) (g : Nat) : Nat := g_v (t (83 + 7 * g + 1)) (t (83 + 7 * g + 2)) (t (83 + 7 * g + 3)) (t (83 + 7 * g + 5)) (t 81 - t (83 + 7 * g + 4))
theorem g_v_le (sh cl ln en m : Nat) : g_v sh cl ln en m ≤ sh := by
  unfold g_v
  split
  · exact Nat.le_refl _
  · split
    · exact Nat.zero_le _
    · split
      · exact Nat.le_refl _
      · refine Nat.div_le_of_le_mul ?_
        rw [Nat.mul_comm ln sh]
        exact Nat.mul_le_mul_left sh (by omega)
/-- the grants of a holder below k are ended -/
def c_eg (t : Nat → Nat) (hr k q : Nat) : Nat := if 83 ≤ q ∧ q < 83 + 7 * k ∧ t (83 + 7 * ((q - 83) / 7)) = hr then (if (q - 83) % 7 = 1 then c_vg t ((q - 83) / 7) else if (q - 83) % 7 = 5 then 1 else t q) else t q
theorem c_eg_row {t : Nat → Nat} {hr k g m : Nat} (h : k ≤ g) (hm : m < 7) : c_eg t hr k (83 + 7 * g + m) = t (83 + 7 * g + m) := by
  unfold c_eg
  rw [if_neg (by omega)]
theorem c_eg_no {t : Nat → Nat} {hr k : Nat} (h : t (83 + 7 * k) ≠ hr) (q : Nat) : c_eg t hr (k + 1) q = c_eg t hr k q := by
  unfold c_eg
  by_cases e : 83 ≤ q ∧ q < 83 + 7 * k ∧ t (83 + 7 * ((q - 83) / 7)) = hr
  · rw [if_pos e, if_pos ⟨e.1, by omega, e.2.2⟩]
  · rw [if_neg e]
    by_cases e2 : 83 ≤ q ∧ q < 83 + 7 * (k + 1) ∧ t (83 + 7 * ((q - 83) / 7)) = hr
    · obtain ⟨a, b, c⟩ := e2
      by_cases e3 : q < 83 + 7 * k
      · exact absurd ⟨a, e3, c⟩ e
      · rw [show (q - 83) / 7 = k by omega] at c
        exact absurd c h
    · rw [if_neg e2]
theorem c_eg_yes {t : Nat → Nat} {hr k : Nat} (h : t (83 + 7 * k) = hr) (q : Nat) : c_eg t hr (k + 1) q = va_up (va_up (c_eg t hr k) (83 + 7 * k + 1) (c_vg t k)) (83 + 7 * k + 5) 1 q := by
  by_cases e5 : q = 83 + 7 * k + 5
  · subst e5
    rw [va_up_self]
    unfold c_eg
    rw [show (83 + 7 * k + 5 - 83) / 7 = k by omega, show (83 + 7 * k + 5 - 83) % 7 = 5 by omega, if_pos ⟨by omega, by omega, h⟩]
    rfl
  · rw [va_up_ne _ _ e5]
    by_cases e1 : q = 83 + 7 * k + 1
    · subst e1
      rw [va_up_self]
      unfold c_eg
      rw [show (83 + 7 * k + 1 - 83) / 7 = k by omega, show (83 + 7 * k + 1 - 83) % 7 = 1 by omega, if_pos ⟨by omega, by omega, h⟩, if_pos rfl]
    · rw [va_up_ne _ _ e1]
      unfold c_eg
      by_cases e : 83 ≤ q ∧ q < 83 + 7 * k ∧ t (83 + 7 * ((q - 83) / 7)) = hr
      · rw [if_pos e, if_pos ⟨e.1, by omega, e.2.2⟩]
      · rw [if_neg e]
        by_cases e2 : 83 ≤ q ∧ q < 83 + 7 * (k + 1) ∧ t (83 + 7 * ((q - 83) / 7)) = hr
        · rw [if_pos e2]
          obtain ⟨a, b, c⟩ := e2
          by_cases e3 : q < 83 + 7 * k
          · exact absurd ⟨a, e3, c⟩ e
          · rw [if_neg (by omega), if_neg (by omega)]
        · rw [if_neg e2]
/-- a set whose classes are all in issue -/
def c_cv (t : Nat → Nat) (s k : Nat) : Bool := (List.range k).all fun c => !(Nat.testBit s (c - 1) && (decide (1 ≤ c) && decide (t (8 * c + 7) = 0)))
theorem c_cv_succ {t : Nat → Nat} {s k : Nat} : c_cv t s (k + 1) = (c_cv t s k && !(Nat.testBit s (k - 1) && (decide (1 ≤ k) && decide (t (8 * k + 7) = 0)))) := by
  unfold c_cv
  rw [List.range_succ, List.all_append]
  simp only [List.all_cons, List.all_nil, Bool.and_true]
theorem c_cv_false {t : Nat → Nat} {s k c : Nat} (hc : c < k) (h : (Nat.testBit s (c - 1) && (decide (1 ≤ c) && decide (t (8 * c + 7) = 0))) = true) : c_cv t s k = false := by
  unfold c_cv
  rw [Bool.eq_false_iff]
  intro q
  have := List.all_eq_true.mp q c (List.mem_range.mpr hc)
  rw [h] at this
  cases this
