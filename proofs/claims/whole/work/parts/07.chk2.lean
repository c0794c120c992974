/-! The tables are right: methods, links, classes made, exceptions, constants. -/
theorem am_m_ok {j : Nat} (h0 : 0 < j) (h : j < 137) : am_cw j ∈ lw_tbl ∧ (am_st j = true → Cond.static (am_y j) ∈ lw_tbl) ∧ (am_st j = false → Cond.instanceMethod (am_y j) ∈ lw_tbl) ∧ (am_st j = false → am_ini j = false → Cond.selects (am_y j).cls (am_y j) (am_y j) ∈ lw_tbl) ∧ Cond.initialized (am_y j).cls ∈ lw_tbl ∧ plainFor (am_y j) = true ∧
    ((am_y j).cls ≠ "java/lang/invoke/MethodHandle" ∧ (am_y j).cls ≠ "java/lang/invoke/VarHandle") ∧ ((parseMethodDescriptor (am_y j).desc).map (fun d => d.parameters.length + (if am_st j = true then 0 else 1)) = some (am_na j)) ∧ am_mx j ≤ 14 ∧ am_on (am_w j) = (am_y j).cls ∧ (am_ini j = true → (am_y j).name = "<init>" ∧ am_rt j = none ∧ am_hx j = []) ∧ ((am_hx j = []) = (am_hd j = [])) := by
  obtain ⟨i, rfl⟩ : ∃ i, j = i + 1 := ⟨j - 1, by omega⟩
  have h1 := List.all_eq_true.mp am_okM_all i (List.mem_range.mpr (by omega))
  have hc := am_cwk i (by omega)
  simp only [am_okM, Bool.and_eq_true, decide_eq_true_eq, Bool.or_eq_true, Bool.not_eq_true'] at h1
  obtain ⟨a1, a2, a3, a4, a5, a6, a7, a8, a9, a10, a11⟩ := h1
  refine ⟨List.mem_of_getElem? hc, fun z => ?_, fun z => ?_, fun z1 z2 => ?_, List.mem_of_getElem? a3, a4, ⟨a5, a6⟩, a7, a8, a9, fun z => ?_, a11⟩
  · rw [if_pos z] at a1; exact List.mem_of_getElem? a1
  · rw [if_neg (by rw [z]; decide)] at a1; exact List.mem_of_getElem? a1
  · rcases a2 with q | q | q
    · rw [z1] at q; cases q
    · rw [z2] at q; cases q
    · exact List.mem_of_getElem? q
  · rcases a10 with q | q
    · rw [z] at q; cases q
    · exact q
def am_okT (w : Nat) (q : Nat × Nat × Nat × Nat) : Bool := (decide (0 < q.2.1) && decide (q.2.1 < 137)) && decide (lw_tbl[q.2.2.1]? = some (if q.2.2.2 = 1 then Cond.methodLinkNest (am_on w) q.1 (am_y q.2.1) "StableSale" else Cond.methodLink (am_on w) q.1 (am_y q.2.1)))
set_option maxRecDepth 100000 in
theorem am_okT_all : am_mtL.zipIdx.all (fun x => x.1.all (am_okT x.2)) = true := by decide +kernel
theorem am_mt_ok {w ix j2 : Nat} (h : am_mt w ix = some j2) : (0 < j2 ∧ j2 < 137) ∧ (Cond.methodLink (am_on w) ix (am_y j2) ∈ lw_tbl ∨ Cond.methodLinkNest (am_on w) ix (am_y j2) "StableSale" ∈ lw_tbl) := by
  unfold am_mt at h
  cases hf : am_fw am_mtL w ix with
  | none => rw [hf] at h; cases h
  | some q =>
    rw [hf] at h
    cases h
    obtain ⟨r, hr, hm⟩ := am_fw_in hf
    have h1 := List.all_eq_true.mp (am_zall am_okT_all hr) _ hm
    simp only [am_okT, Bool.and_eq_true, decide_eq_true_eq] at h1
    refine ⟨h1.1, ?_⟩
    have h2 := h1.2
    split at h2
    · exact Or.inr (List.mem_of_getElem? h2)
    · exact Or.inl (List.mem_of_getElem? h2)
def am_okN (w : Nat) (q : Nat × Nat × Nat) : Bool := decide (q.2.1 < 8) && decide (lw_tbl[q.2.2]? = some (Cond.classLink (am_on w) q.1 (am_on q.2.1)))
set_option maxRecDepth 100000 in
theorem am_okN_all : am_nwL.zipIdx.all (fun x => x.1.all (am_okN x.2)) = true := by decide +kernel
theorem am_nw_ok {w ix ci : Nat} (h : am_nw w ix = some ci) : ci < 8 ∧ Cond.classLink (am_on w) ix (am_on ci) ∈ lw_tbl := by
  unfold am_nw at h
  cases hf : am_fw am_nwL w ix with
  | none => rw [hf] at h; cases h
  | some q =>
    rw [hf] at h
    cases h
    obtain ⟨r, hr, hm⟩ := am_fw_in hf
    have h1 := List.all_eq_true.mp (am_zall am_okN_all hr) _ hm
    simp only [am_okN, Bool.and_eq_true, decide_eq_true_eq] at h1
    exact ⟨h1.1, List.mem_of_getElem? h1.2⟩
theorem am_an_eq (w ix : Nat) : am_an w ix = am_nw w ix := rfl
def am_okI (w : Nat) (q : Nat × Nat) : Bool := decide (Cond.constant (am_on w) q.1 (nI q.2) ∈ lw_tbl)
def am_okL (w : Nat) (q : Nat × Int64) : Bool := decide (Cond.constantLong (am_on w) q.1 q.2 ∈ lw_tbl)
set_option maxRecDepth 100000 in
theorem am_okI_all : am_ldIL.zipIdx.all (fun x => x.1.all (am_okI x.2)) = true := by decide +kernel
set_option maxRecDepth 100000 in
theorem am_okL_all : am_ldLL.zipIdx.all (fun x => x.1.all (am_okL x.2)) = true := by decide +kernel
theorem am_ldI_ok {w ix n : Nat} (h : am_ldI w ix = some n) : Cond.constant (am_on w) ix (nI n) ∈ lw_tbl := by
  obtain ⟨r, hr, hm⟩ := am_fw_in h
  have h1 := List.all_eq_true.mp (am_zall am_okI_all hr) _ hm
  exact of_decide_eq_true h1
theorem am_ldL_ok {w ix : Nat} {v : Int64} (h : am_ldL w ix = some v) : Cond.constantLong (am_on w) ix v ∈ lw_tbl := by
  obtain ⟨r, hr, hm⟩ := am_fw_in h
  have h1 := List.all_eq_true.mp (am_zall am_okL_all hr) _ hm
  exact of_decide_eq_true h1
def am_okO (w : Nat) (ix : Nat) : Bool := decide (Cond.methodLink (am_on w) ix objectInit ∈ lw_tbl)
set_option maxRecDepth 100000 in
theorem am_okO_all : am_oiL.zipIdx.all (fun x => x.1.all (am_okO x.2)) = true := by decide +kernel
theorem am_oi_ok {w ix : Nat} (h : am_oi w ix = true) : Cond.methodLink (am_on w) ix objectInit ∈ lw_tbl := by
  unfold am_oi at h
  rw [List.getD_eq_getElem?_getD] at h
  cases hr : am_oiL[w]? with
  | none => rw [hr] at h; cases h
  | some r =>
    rw [hr] at h
    have h1 := List.all_eq_true.mp (am_zall am_okO_all hr) ix (List.elem_iff.mp h)
    exact of_decide_eq_true h1
def am_okA (w : Nat) (ix : Nat) : Bool := decide (Cond.methodLink (am_on w) ix arraycopyName ∈ lw_tbl)
set_option maxRecDepth 100000 in
theorem am_okA_all : am_acL.zipIdx.all (fun x => x.1.all (am_okA x.2)) = true := by decide +kernel
theorem am_ac_ok {w ix : Nat} (h : am_ac w ix = true) : Cond.methodLink (am_on w) ix arraycopyName ∈ lw_tbl := by
  unfold am_ac at h
  rw [List.getD_eq_getElem?_getD] at h
  cases hr : am_acL[w]? with
  | none => rw [hr] at h; cases h
  | some r =>
    rw [hr] at h
    have h1 := List.all_eq_true.mp (am_zall am_okA_all hr) ix (List.elem_iff.mp h)
    exact of_decide_eq_true h1
def am_isD (w : Cond) : Bool := match w with
  | .declares _ => true
  | .castable _ _ => true
  | _ => false
/-- exceptions: all that the library's law of 'new X(), thrown' asks of the tables -/
def am_sup : List String := ["java/lang/RuntimeException", "java/lang/Exception"]
def am_isS (w : Cond) : Bool := (decide (w = .isRef (.static Bundle.tN "UNASSIGNED_STACK" Bundle.steD)) || decide (w = .isRef (.static Bundle.tN "SUPPRESSED_SENTINEL" Bundle.listD))) || (decide (w = .laysStatic Bundle.tN "UNASSIGNED_STACK" Bundle.steD) || decide (w = .laysStatic Bundle.tN "SUPPRESSED_SENTINEL" Bundle.listD))
def am_okE (w : Nat) (q : Nat × Nat × Nat × Nat) : Bool := match am_exN[q.2.1]? with
  | some n => decide (lw_tbl[q.2.2.2]? = some (Cond.classLink (am_on w) q.1 n)) && (decide (Cond.initialized n ∈ lw_tbl) && (Bundle.fit n && ((Bundle.ownAtoms0 (am_on w) q.2.2.1 n am_sup).all fun a => am_isS a || ((goodWord a || am_isD a) && decide (a ∈ lw_tbl)))))
  | none => false
set_option maxRecDepth 100000 in
theorem am_okE_all : am_exL.zipIdx.all (fun x => x.1.all (am_okE x.2)) = true := by decide +kernel
theorem am_ex_ok {w ix k ic : Nat} (h : am_ex w ix = some (k, ic)) : ∃ n : String, am_exN[k]? = some n ∧ Cond.classLink (am_on w) ix n ∈ lw_tbl ∧ Cond.initialized n ∈ lw_tbl ∧ Bundle.fit n = true ∧ ∀ a ∈ Bundle.ownAtoms0 (am_on w) ic n am_sup, am_isS a = true ∨ ((goodWord a = true ∨ am_isD a = true) ∧ a ∈ lw_tbl) := by
  unfold am_ex at h
  cases hf : am_fw am_exL w ix with
  | none => rw [hf] at h; cases h
  | some q =>
    rw [hf] at h
    obtain ⟨k2, ic2, pl⟩ := q
    cases h
    obtain ⟨r, hr, hm⟩ := am_fw_in hf
    have h1 := List.all_eq_true.mp (am_zall am_okE_all hr) _ hm
    unfold am_okE at h1
    dsimp only at h1
    split at h1
    · rename_i n hn
      simp only [Bool.and_eq_true, decide_eq_true_eq, List.all_eq_true, Bool.or_eq_true] at h1
      exact ⟨n, hn, List.mem_of_getElem? h1.1, h1.2.1, h1.2.2.1, h1.2.2.2⟩
    · cases h1
