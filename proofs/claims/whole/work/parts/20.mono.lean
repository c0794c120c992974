/-! The heap of a run never shrinks; what was thrown lies in it. -/
def am_Mn (f : am_Fn) : Prop := ∀ (d j pc : Nat) (lo : am_L) (st : List Value) (hp hp' : am_H) (o : am_R), f d j pc lo st hp = some (hp', o) → hp.length ≤ hp'.length ∧ am_tot hp ≤ am_tot hp' ∧ ∀ x, o = .inr x → ∃ fs, hp'[x.2]? = some (200 + x.1, fs)
theorem am_tot_app2 (hp l : am_H) : am_tot hp ≤ am_tot (hp ++ l) := by simp [am_tot]
theorem am_hs_mono {j w pc : Nat} {i : Instr} {lo : am_L} {st : List Value} {hp : am_H} {q : Nat × am_L × List Value × am_H} (h : am_hs j w i pc lo st hp = some q) : hp.length ≤ q.2.2.2.length ∧ am_tot hp ≤ am_tot q.2.2.2 := by
  have key : ∀ {a : Nat} {c c' : am_C}, hp[a]? = some c → c'.2.length = c.2.length → hp.length ≤ (hp.set a c').length ∧ am_tot hp ≤ am_tot (hp.set a c') := fun h1 h2 => ⟨by rw [List.length_set]; exact Nat.le_refl _, by rw [am_tot_set h1 h2]; exact Nat.le_refl _⟩
  have keyA : ∀ l : am_H, hp.length ≤ (hp ++ l).length ∧ am_tot hp ≤ am_tot (hp ++ l) := fun l => ⟨by simp, am_tot_app2 hp l⟩
  cases i
  case getfield ix =>
    simp only [am_hs] at h
    split at h <;> try (cases h; done)
    split at h <;> try (cases h; done)
    split at h <;> try (cases h; done)
    split at h <;> try (cases h; done)
    obtain ⟨v, -, rfl⟩ := Option.map_eq_some_iff.mp h
    exact ⟨Nat.le_refl _, Nat.le_refl _⟩
  case putfield ix =>
    simp only [am_hs] at h
    split at h <;> try (cases h; done)
    split at h <;> try (cases h; done)
    split at h <;> try (cases h; done)
    rename_i c2 hc
    split at h <;> try (cases h; done)
    cases h
    exact key hc (by simp)
  case iaload => obtain ⟨_, _, _, _, _, _, -, -, -, -, -, rfl⟩ := am_ald_inv (by simpa only [am_hs] using h); exact ⟨Nat.le_refl _, Nat.le_refl _⟩
  case laload => obtain ⟨_, _, _, _, _, _, -, -, -, -, -, rfl⟩ := am_ald_inv (by simpa only [am_hs] using h); exact ⟨Nat.le_refl _, Nat.le_refl _⟩
  case baload => obtain ⟨_, _, _, _, _, _, -, -, -, -, -, rfl⟩ := am_ald_inv (by simpa only [am_hs] using h); exact ⟨Nat.le_refl _, Nat.le_refl _⟩
  case aaload => obtain ⟨_, _, _, _, _, _, -, -, -, -, -, rfl⟩ := am_ald_inv (by simpa only [am_hs] using h); exact ⟨Nat.le_refl _, Nat.le_refl _⟩
  case iastore => obtain ⟨_, _, _, _, _, _, -, hc, -, -, -, -, rfl⟩ := am_ast_inv (by simpa only [am_hs] using h); exact key hc (by simp)
  case lastore => obtain ⟨_, _, _, _, _, _, -, hc, -, -, -, -, rfl⟩ := am_ast_inv (by simpa only [am_hs] using h); exact key hc (by simp)
  case bastore => obtain ⟨_, _, _, _, _, _, -, hc, -, -, -, -, rfl⟩ := am_ast_inv (by simpa only [am_hs] using h); exact key hc (by simp)
  case aastore => obtain ⟨_, _, _, _, _, _, -, hc, -, -, -, -, rfl⟩ := am_ast_inv (by simpa only [am_hs] using h); exact key hc (by simp)
  case arraylength =>
    simp only [am_hs] at h
    split at h <;> try (cases h; done)
    split at h <;> try (cases h; done)
    split at h <;> try (cases h; done)
    cases h; exact ⟨Nat.le_refl _, Nat.le_refl _⟩
  case newarray t =>
    simp only [am_hs] at h
    split at h <;> try (cases h; done)
    split at h <;> try (cases h; done)
    split at h <;> try (cases h; done)
    cases h; exact keyA _
  case anewarray ix =>
    simp only [am_hs] at h
    split at h <;> try (cases h; done)
    split at h <;> try (cases h; done)
    split at h <;> try (cases h; done)
    cases h; exact keyA _
  case multianewarray ix dim =>
    simp only [am_hs] at h
    split at h <;> try (cases h; done)
    split at h <;> try (cases h; done)
    split at h <;> try (cases h; done)
    cases h; exact keyA _
  case new ix =>
    simp only [am_hs] at h
    split at h <;> try (cases h; done)
    cases h; exact keyA _
  case getstatic ix =>
    simp only [am_hs] at h
    split at h <;> try (cases h; done)
    cases h; exact ⟨Nat.le_refl _, Nat.le_refl _⟩
  case invokespecial ix =>
    simp only [am_hs] at h
    split at h <;> try (cases h; done)
    split at h <;> try (cases h; done)
    split at h <;> try (cases h; done)
    cases h; exact ⟨Nat.le_refl _, Nat.le_refl _⟩
  case invokestatic ix =>
    simp only [am_hs] at h
    split at h <;> try (cases h; done)
    split at h <;> try (cases h; done)
    split at h <;> try (cases h; done)
    rename_i f g hf hg
    split at h <;> try (cases h; done)
    rename_i hk
    cases h
    exact key hg hk.2.2.2.2.2.2.2.1.symm
  all_goals (simp [am_hs] at h)
theorem am_nx_mono {j w pc len : Nat} {i : Instr} {lo : am_L} {st : List Value} {hp : am_H} {q : Nat × am_L × List Value × am_H} (h : am_nx j w i pc len lo st hp = some q) : hp.length ≤ q.2.2.2.length ∧ am_tot hp ≤ am_tot q.2.2.2 := by
  unfold am_nx at h
  split at h
  · cases h; exact ⟨Nat.le_refl _, Nat.le_refl _⟩
  · split at h
    · cases h; exact ⟨Nat.le_refl _, Nat.le_refl _⟩
    · exact am_hs_mono h
theorem am_Mn_F {f : am_Fn} (hf : am_Mn f) : am_Mn (am_F f) := by
  intro d j pc lo st hp hp' o h
  unfold am_F at h
  split at h
  · cases h
  · rename_i q hd
    split at h
    · unfold am_G at h
      split at h
      · cases h
        exact ⟨Nat.le_refl _, Nat.le_refl _, fun x hx => by cases hx⟩
      · split at h
        · rename_i j2 _
          cases d with
          | zero => cases h
          | succ d2 =>
            simp only [am_cal] at h
            split at h
            · split at h
              · rename_i hp1 v h1
                obtain ⟨a1, a2, -⟩ := hf _ _ _ _ _ _ _ _ h1
                obtain ⟨b1, b2, b3⟩ := hf _ _ _ _ _ _ _ _ h
                exact ⟨Nat.le_trans a1 b1, Nat.le_trans a2 b2, b3⟩
              · rename_i hp1 x h1
                obtain ⟨a1, a2, a3⟩ := hf _ _ _ _ _ _ _ _ h1
                split at h
                · obtain ⟨b1, b2, b3⟩ := hf _ _ _ _ _ _ _ _ h
                  exact ⟨Nat.le_trans a1 b1, Nat.le_trans a2 b2, b3⟩
                · split at h
                  · cases h
                    exact ⟨a1, a2, a3⟩
                  · cases h
              · cases h
            · cases h
        · split at h
          · cases h
            refine ⟨by simp, am_tot_app2 _ _, fun x hx => ?_⟩
            cases hx
            exact ⟨_, by rw [List.getElem?_append_right (Nat.le_refl _), Nat.sub_self]; rfl⟩
          · split at h
            · rename_i q2 h4
              obtain ⟨a1, a2⟩ := am_nx_mono h4
              obtain ⟨b1, b2, b3⟩ := hf _ _ _ _ _ _ _ _ h
              exact ⟨Nat.le_trans a1 b1, Nat.le_trans a2 b2, b3⟩
            · cases h
    · cases h
theorem am_Mn_run : ∀ n, am_Mn (am_run n)
  | 0 => fun _ _ _ _ _ _ _ _ h => by cases h
  | n + 1 => am_Mn_F (am_Mn_run n)
