/-! The sale's cells, with what is divided already; rules for the static row. -/
def Sal (hp : am_H) (t : Nat → Nat) (A : Nat) : Prop := hp[212]? = some (6, [.ref 213, .ref 216, .ref 233, .ref 234, .ref 235, .ref 236, .ref 237, .int (nI A)]) ∧ hp[213]? = some (5, [.ref 214, .ref 215]) ∧ (∃ f : Nat → Int32, hp[214]? = some (100, am_ia f 8)) ∧ (∃ g : Nat → Int64, hp[215]? = some (101, am_la g 8)) ∧ hp[216]? = some (103, am_ra 217 1 16) ∧ (∃ f : Nat → Int32, hp[234]? = some (100, am_ia f 5)) ∧ (∃ f : Nat → Int32, hp[235]? = some (100, am_ia f 5)) ∧ (∃ g : Nat → Int64, hp[236]? = some (101, am_la g 5)) ∧ (∃ f : Nat → Int32, hp[237]? = some (100, am_ia f 5)) ∧ ∃ dd : Nat → Nat, hp[233]? = some (102, am_ia (fun e => nI (dd e)) 16) ∧ ∀ e, e < 16 → dd e ≤ 1 ∧ ∃ f : Nat → Int32, hp[217 + 1 * e]? = some (100, am_ia f 6) ∧ (dd e = 0 ∨ f = fun c => nI (sl_dv t A e c))
theorem c_upN {s : Nat → Nat} {k v : Nat} : va_up (fun i => nI (s i)) k (nI v) = fun i => nI (va_up s k v i) := by
  funext i
  by_cases e : i = k
  · subst e; rw [va_up_self, va_up_self]
  · rw [va_up_ne _ _ e, va_up_ne _ _ e]
theorem dv_cp_congr {M : Nat → Nat} : ∀ (n L : Nat) (W D D' : Nat → Nat), (dv_cp M n L W D).1 = (dv_cp M n L W D').1 ∧ (dv_cp M n L W D).2.1 = (dv_cp M n L W D').2.1 ∧ ∀ c, D c = D' c → (dv_cp M n L W D).2.2 c = (dv_cp M n L W D').2.2 c
  | 0, _, _, _, _ => ⟨rfl, rfl, fun _ h => h⟩
  | n + 1, L, W, D, D' => by
    simp only [dv_cp]
    by_cases h : dv_f (dv_up M W L) 5 < 5
    · rw [if_pos h, if_pos h]
      obtain ⟨h1, h2, h3⟩ := dv_cp_congr (M := M) n (L - M (dv_f (dv_up M W L) 5)) (va_up W (dv_f (dv_up M W L) 5) 0) (va_up D (dv_f (dv_up M W L) 5) (D (dv_f (dv_up M W L) 5) + M (dv_f (dv_up M W L) 5))) (va_up D' (dv_f (dv_up M W L) 5) (D' (dv_f (dv_up M W L) 5) + M (dv_f (dv_up M W L) 5)))
      refine ⟨h1, h2, fun c hc => h3 c ?_⟩
      by_cases e : c = dv_f (dv_up M W L) 5
      · rw [← e, va_up_self, va_up_self, hc]
      · rw [va_up_ne _ _ e, va_up_ne _ _ e, hc]
    · rw [if_neg h, if_neg h]
      exact ⟨rfl, rfl, fun _ h => h⟩
theorem dv_cp_out {M : Nat → Nat} {c : Nat} (hc : 5 ≤ c) : ∀ (n L : Nat) (W D : Nat → Nat), (dv_cp M n L W D).2.2 c = D c
  | 0, _, _, _ => rfl
  | n + 1, L, W, D => by
    simp only [dv_cp]
    by_cases h : dv_f (dv_up M W L) 5 < 5
    · rw [if_pos h, dv_cp_out hc n, va_up_ne _ _ (by omega)]
    · rw [if_neg h]
theorem c_xor : ∀ e, e < 16 → ∀ c, c < 5 → 1 ≤ c → nI e ^^^ (nI 1 <<< (nI (c - 1) &&& 31)) = nI (e ^^^ 1 <<< (c - 1)) ∧ e ^^^ 1 <<< (c - 1) < 16 ∧ e ^^^ 1 <<< (c - 1) ≠ e := by decide +kernel
theorem c_cvN {t : Nat → Nat} {e : Nat} (he : e < 16) : (decide (0 ≤ nI e) && (decide (nI e ≤ nI 15) && c_cv t (nI e).toNatClampNeg 5)) = c_cv t e 5 := by
  rw [nI_clamp (by omega), decide_eq_true (show (0 : Int32) ≤ nI e from nI_le (a := 0) (by omega) (by omega)), decide_eq_true (nI_le (by omega) (by omega))]
  rfl
def sl_ord (k : Nat) : Nat := am_sets.getD k 0
theorem sl_ord_lt : ∀ k, k < 16 → sl_ord k < 16 := by decide
theorem sl_take : ∀ i, i < 16 → am_sets = am_sets.take i ++ sl_ord i :: am_sets.drop (i + 1) ∧ ∀ x ∈ am_sets.take i, ∃ q, q < i ∧ x = sl_ord q := by
  intro i hi
  have h1 : ∀ i, i < 16 → am_sets = am_sets.take i ++ sl_ord i :: am_sets.drop (i + 1) := by decide
  refine ⟨h1 i hi, fun x hx => ?_⟩
  obtain ⟨q, hq, rfl⟩ := List.mem_iff_getElem.mp hx
  have hq2 : q < i := by rw [List.length_take] at hq; omega
  refine ⟨q, hq2, ?_⟩
  rw [List.getElem_take]
  unfold sl_ord
  rw [List.getD_eq_getElem?_getD, List.getElem?_eq_getElem]
  rfl
theorem sl_at {p : Nat → Bool} {i : Nat} (hi : i < 16) (h : p (sl_ord i) = true) (hb : ∀ q, q < i → p (sl_ord q) = false) : am_sets.find? p = some (sl_ord i) := by
  obtain ⟨h1, h2⟩ := sl_take i hi
  rw [List.find?_eq_some_iff_append]
  refine ⟨h, _, _, h1, fun a ha => ?_⟩
  obtain ⟨q, hq, rfl⟩ := h2 a ha
  rw [hb q hq]
  rfl
theorem sl_all : ∀ x, x < 16 → ∃ q, q < 16 ∧ x = sl_ord q := by
  intro x hx
  have h : ∀ x, x < 16 → am_sets.idxOf x < 16 ∧ x = sl_ord (am_sets.idxOf x) := by decide
  exact ⟨_, h x hx⟩
section GST
variable {d j pc : Nat} {lo : am_L} {st : List Value} {hp : am_H} {Q : am_H → am_R → Prop}
theorem am_Rq.gst {ix a : Nat} (hd : decode (am_by j) pc = .ok (.getstatic ix, 3)) (ha : am_gs (am_w j) ix = some a) (kk : am_Rq d j (pc + 3) lo (.ref a :: st) hp Q) : am_Rq d j pc lo st hp Q :=
  am_Rq.nx hd rfl rfl rfl rfl (q := (pc + 3, lo, .ref a :: st, hp)) (by simp only [am_nx, am_pl, am_jp, am_hs, ha]) kk
end GST
