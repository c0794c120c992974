/-! What holds of a ledger's numbers at all times. -/
def c_okc (t : Nat → Nat) (c : Nat) : Prop := 1 ≤ t (8 * c) ∧ t (8 * c) ≤ 1000 ∧ t (8 * c + 1) ≤ 300 ∧ t (8 * c + 2) ≤ 3 ∧ t (8 * c + 3) ≤ 2 ∧ t (8 * c + 4) ≤ 900 ∧ t (8 * c + 5) ≤ 2 ∧ 1000 ≤ t (8 * c + 6) ∧ t (8 * c + 6) ≤ 1000 * t (8 * c) ∧ t (8 * c + 7) ≤ 20000 ∧ (1 ≤ c → t (8 * c + 7) ≤ 5000) ∧ t (8 * c + 7) = sp_sm (fun h => t (40 + 8 * c + h)) 8
def c_okg (t : Nat → Nat) (g : Nat) : Prop := t (83 + 7 * g) ≤ 7 ∧ t (83 + 7 * g + 1) ≤ 2000 ∧ t (83 + 7 * g + 2) ≤ 60 ∧ t (83 + 7 * g + 3) ≤ 60 ∧ t (83 + 7 * g + 4) ≤ t 81 ∧ t (83 + 7 * g + 5) ≤ 1 ∧ t (83 + 7 * g + 6) ≤ 2000
/-- a class that is not there, and the common one -/
def c_okd (t : Nat → Nat) (c : Nat) : Prop := t (8 * c) = 1 ∧ t (8 * c + 1) = 0 ∧ t (8 * c + 2) = 0 ∧ t (8 * c + 3) = 0 ∧ t (8 * c + 4) = 0 ∧ t (8 * c + 5) = 0 ∧ t (8 * c + 6) = 1000
def c_ok (K : Nat) (t : Nat → Nat) : Prop := (∀ c, c < 5 → c_okc t c) ∧ (∀ g, g < 10 → c_okg t g) ∧ t 80 ≤ 5000 ∧ t 81 ≤ 60 * K ∧ t 82 ≤ 10 ∧ 1 ≤ t 153 ∧ t 153 ≤ 5 ∧ c_okd t 0 ∧ ∀ c, t 153 ≤ c → c < 5 → c_okd t c ∧ t (8 * c + 7) = 0
theorem c_ok.b {K : Nat} {t : Nat → Nat} (h : c_ok K t) (hK : K ≤ 1000) : ∀ i, i < 154 → t i < 2 ^ 31 := by
  obtain ⟨hc, hg, h80, h81, h82, h1, h5, -⟩ := h
  intro i hi
  by_cases e1 : i < 40
  · obtain ⟨a0, a1, a2, a3, a4, a5, a6, a7, a8, a9, -⟩ := hc (i / 8) (by omega)
    have : i = 8 * (i / 8) ∨ i = 8 * (i / 8) + 1 ∨ i = 8 * (i / 8) + 2 ∨ i = 8 * (i / 8) + 3 ∨ i = 8 * (i / 8) + 4 ∨ i = 8 * (i / 8) + 5 ∨ i = 8 * (i / 8) + 6 ∨ i = 8 * (i / 8) + 7 := by omega
    rcases this with z | z | z | z | z | z | z | z <;> rw [z] <;> omega
  · by_cases e2 : i < 80
    · obtain ⟨a0, a1, a2, a3, a4, a5, a6, a7, a8, a9, -, a11⟩ := hc ((i - 40) / 8) (by omega)
      have := sp_sm_ge (f := fun h => t (40 + 8 * ((i - 40) / 8) + h)) (n := 8) (i := (i - 40) % 8) (by omega)
      rw [show 40 + 8 * ((i - 40) / 8) + (i - 40) % 8 = i by omega] at this
      omega
    · by_cases e3 : i < 83
      · have : i = 80 ∨ i = 81 ∨ i = 82 := by omega
        rcases this with rfl | rfl | rfl <;> omega
      · by_cases e4 : i < 153
        · obtain ⟨a0, a1, a2, a3, a4, a5, a6⟩ := hg ((i - 83) / 7) (by omega)
          have : i = 83 + 7 * ((i - 83) / 7) ∨ i = 83 + 7 * ((i - 83) / 7) + 1 ∨ i = 83 + 7 * ((i - 83) / 7) + 2 ∨ i = 83 + 7 * ((i - 83) / 7) + 3 ∨ i = 83 + 7 * ((i - 83) / 7) + 4 ∨ i = 83 + 7 * ((i - 83) / 7) + 5 ∨ i = 83 + 7 * ((i - 83) / 7) + 6 := by omega
          rcases this with z | z | z | z | z | z | z <;> rw [z] <;> omega
        · have : i = 153 := by omega
          subst this
          omega
/-- the shares of a class in common ones -/
def c_ic (t : Nat → Nat) (c : Nat) : Nat := t (8 * c + 7) * 1000 * t (8 * c) / t (8 * c + 6)
theorem c_ok.pr {K : Nat} {t : Nat → Nat} (h : c_ok K t) {c n : Nat} (hc : c < 5) (hn : n ≤ 20000) : n * 1000 * t (8 * c) ≤ 20000000000 := by
  obtain ⟨a0, a1, -⟩ := h.1 c hc
  exact Nat.mul_le_mul (Nat.mul_le_mul_right 1000 hn) a1
theorem c_ic_le {K : Nat} {t : Nat → Nat} (h : c_ok K t) {c : Nat} (hc : c < 5) : c_ic t c ≤ 20000000 := by
  obtain ⟨a0, a1, a2, a3, a4, a5, a6, a7, a8, a9, -⟩ := h.1 c hc
  have h1 := h.pr hc a9
  unfold c_ic
  refine Nat.le_trans (Nat.div_le_div_left a7 (by decide)) ?_
  omega
