/-! Copies of parts of a ledger. -/
def c_mix (p : Nat → Bool) (t t' : Nat → Nat) : Nat → Nat := fun i => if p i = true then t' i else t i
def c_row (c i : Nat) : Bool := (decide (8 * c ≤ i) && decide (i < 8 * c + 8)) || (decide (40 + 8 * c ≤ i) && decide (i < 48 + 8 * c))
def c_grow (g i : Nat) : Bool := decide (83 + 7 * g ≤ i) && decide (i < 90 + 7 * g)
theorem Led.updO {hp : am_H} {b : Nat} {t t' : Nat → Nat} (h : Led hp b t) {o : Nat} (ho : o < 23) (ht : ∀ i, i < 154 → c_own i ≠ o → t' i = t i) : Led (hp.set (b + o) (c_pic t' b o)) b t' := by
  refine ⟨h.1, fun o' ho' => ?_⟩
  by_cases e : o' = o
  · subst e
    exact am_ss (h.2 _ ho')
  · rw [am_sn (by omega), h.2 o' ho']
    congr 1
    exact c_pic_congr ho' (fun q hq hqo => (ht q hq (fun z => e (hqo.symm.trans z))).symm)
theorem Led.cpHd {d j pc : Nat} {lo : am_L} {st : List Value} {hp : am_H} {Q : am_H → am_R → Prop} {b b' : Nat} {t t' : Nat → Nat} (h : Led hp b t) (h' : Led hp b' t') {c ix : Nat} (hc : c < 5) (hd : decode (am_by j) pc = .ok (.invokestatic ix, 3)) (hac : am_ac (am_w j) ix = true) (hmt : am_mt (am_w j) ix = none) (hw : (st.map fun v => v.category).sum ≤ 8)
    (kk : ∀ hp1, Led hp1 b (c_mix (fun i => decide (40 + 8 * c ≤ i) && decide (i < 48 + 8 * c)) t t') → am_fr (c_in b) hp hp1 → am_Rq d j (pc + 3) lo st hp1 Q) : am_Rq d j pc lo (.int (nI 8) :: .int (nI 0) :: .ref (b + 3 + 2 * c) :: .int (nI 0) :: .ref (b' + 3 + 2 * c) :: st) hp Q := by
  have hall : (c_hd t' c).all am_isI = true := by
    rw [List.all_eq_true]
    intro v hv
    obtain ⟨k, -, rfl⟩ := List.mem_map.mp hv
    rfl
  refine am_Rq.nx hd rfl rfl hmt rfl (q := (pc + 3, lo, st, hp.set (b + 3 + 2 * c) (100, c_hd t' c))) ?_ ?_
  · have e1 : (c_hd t' c).length = 8 := am_ia_len _ _
    have e2 : (c_hd t c).length = 8 := am_ia_len _ _
    simp only [am_nx, am_pl, am_jp, am_hs, hac, if_true, h'.hd hc, h.hd hc]
    have hb2 : 2 ≤ b + 3 + 2 * c := by have := h.1; omega
    exact if_pos ⟨trivial, trivial, hb2, by decide, rfl, rfl, by rw [e1]; rfl, by rw [e1, e2], hall, hw⟩
  · have hmx : ∀ k, k < 8 → t' (40 + 8 * c + k) = c_mix (fun i => decide (40 + 8 * c ≤ i) && decide (i < 48 + 8 * c)) t t' (40 + 8 * c + k) := fun k hk => by
      unfold c_mix
      rw [if_pos (by simp only [Bool.and_eq_true, decide_eq_true_eq]; omega)]
    have e : (hp.set (b + 3 + 2 * c) (100, c_hd t' c)) = hp.set (b + (3 + 2 * c)) (c_pic (c_mix (fun i => decide (40 + 8 * c ≤ i) && decide (i < 48 + 8 * c)) t t') b (3 + 2 * c)) := by
      rw [c_pic_hd _ _ hc, ← Nat.add_assoc, c_hd_congr hmx]
    show am_Rq d j (pc + 3) lo st (hp.set (b + 3 + 2 * c) (100, c_hd t' c)) Q
    rw [e]
    refine kk _ (h.updO (by omega) (fun i hi hio => ?_)) (am_fr.rf.set ⟨by omega, by omega⟩ (c := (100, c_hd t c)) (by rw [← Nat.add_assoc]; exact h.hd hc) (by rw [c_pic_hd _ _ hc]; simp [c_hd, am_ia_len]))
    unfold c_mix
    rw [if_neg]
    simp only [Bool.and_eq_true, decide_eq_true_eq]
    intro hr
    refine hio ?_
    unfold c_own
    rw [if_neg (by omega), if_pos (by omega)]
    omega
theorem c_mix_t {p : Nat → Bool} {t t' : Nat → Nat} {i : Nat} (h : p i = true) : c_mix p t t' i = t' i := if_pos h
theorem c_mix_f {p : Nat → Bool} {t t' : Nat → Nat} {i : Nat} (h : ¬ p i = true) : c_mix p t t' i = t i := if_neg h
theorem c_row_iff {c i : Nat} : c_row c i = true ↔ (8 * c ≤ i ∧ i < 8 * c + 8) ∨ (40 + 8 * c ≤ i ∧ i < 48 + 8 * c) := by simp only [c_row, Bool.or_eq_true, Bool.and_eq_true, decide_eq_true_eq]
theorem c_grow_iff {g i : Nat} : c_grow g i = true ↔ (83 + 7 * g ≤ i ∧ i < 90 + 7 * g) := by simp only [c_grow, Bool.and_eq_true, decide_eq_true_eq]
theorem c_hrow_iff {c i : Nat} : (fun i => decide (40 + 8 * c ≤ i) && decide (i < 48 + 8 * c)) i = true ↔ (40 + 8 * c ≤ i ∧ i < 48 + 8 * c) := by simp only [Bool.and_eq_true, decide_eq_true_eq]
