/-! The tables are right: each word stands at its place in lw_tbl. -/
theorem am_lu {α : Type} : ∀ (l : List (Nat × α)) {ix : Nat} {x : α}, l.lookup ix = some x → (ix, x) ∈ l
  | [], _, _, h => by cases h
  | (k, y) :: t, ix, x, h => by
    rw [List.lookup_cons] at h
    cases e : ix == k with
    | true =>
      rw [e] at h
      cases h
      rw [beq_iff_eq.mp e]
      exact List.mem_cons_self
    | false =>
      rw [e] at h
      exact List.mem_cons_of_mem _ (am_lu t h)
theorem am_fw_in {α : Type} {l : List (List (Nat × α))} {w ix : Nat} {x : α} (h : am_fw l w ix = some x) : ∃ r, l[w]? = some r ∧ (ix, x) ∈ r := by
  unfold am_fw at h
  rw [List.getD_eq_getElem?_getD] at h
  cases hr : l[w]? with
  | none => rw [hr] at h; cases h
  | some r => rw [hr] at h; exact ⟨r, rfl, am_lu r h⟩
theorem am_zall {α : Type} {l : List α} {f : α × Nat → Bool} (h : l.zipIdx.all f = true) {w : Nat} {r : α} (hr : l[w]? = some r) : f (r, w) = true := by
  refine List.all_eq_true.mp h (r, w) ?_
  refine List.mem_of_getElem? (i := w) ?_
  rw [List.getElem?_zipIdx, hr]
  simp
def am_okF (w : Nat) (q : Nat × Nat × Nat × Nat) : Bool := match am_cl[q.2.1]? with
  | some r => decide (q.2.2.1 < r.2.2) && (decide (lw_tbl[q.2.2.2]? = some (Cond.fieldLink (am_on w) q.1 r.1 (r.2.1 q.2.2.1).2.1 (r.2.1 q.2.2.1).2.2.1)) && decide ((r.2.1 q.2.2.1).1 = r.1))
  | none => false
set_option maxRecDepth 100000 in
theorem am_okF_all : am_fdL.zipIdx.all (fun x => x.1.all (am_okF x.2)) = true := by decide +kernel
theorem am_fd_ok {w ix ci k : Nat} (h : am_fd w ix = some (ci, k)) : ∃ r : vw_C, am_cl[ci]? = some r ∧ k < r.2.2 ∧ Cond.fieldLink (am_on w) ix r.1 (r.2.1 k).2.1 (r.2.1 k).2.2.1 ∈ lw_tbl ∧ (r.2.1 k).1 = r.1 := by
  unfold am_fd at h
  cases hf : am_fw am_fdL w ix with
  | none => rw [hf] at h; cases h
  | some q =>
    rw [hf] at h
    obtain ⟨c2, k2, pl⟩ := q
    cases h
    obtain ⟨r, hr, hm⟩ := am_fw_in hf
    have h1 := List.all_eq_true.mp (am_zall am_okF_all hr) _ hm
    unfold am_okF at h1
    dsimp only at h1
    split at h1
    · rename_i r2 hr2
      simp only [Bool.and_eq_true, decide_eq_true_eq] at h1
      exact ⟨r2, hr2, h1.1, List.mem_of_getElem? h1.2.1, h1.2.2⟩
    · cases h1
/-- of a class of objects -/
def am_okC (ci : Nat) (r : vw_C) : Bool :=
  decide (r.1 = am_on ci) && ((List.range r.2.2).all (fun k => decide (lw_tbl[(am_lyL.getD ci []).getD k 0]? = some (u_lay r.1 r.2.1 k)) && (goodWord (u_lay r.1 r.2.1 k) && (decide (parseFieldDescriptor (r.2.1 k).2.2.1 = some (am_ft ci k)) && (decide ((am_df ci)[k]? = some (defaultValue (am_ft ci k))) && (decide (am_fin ci k = (r.2.1 k).2.2.2) && ((List.range r.2.2).all fun j => decide (j = k) || decide ((r.2.1 k).2.1 ≠ (r.2.1 j).2.1))))))) &&
  (decide ((am_df ci).length = r.2.2) && (decide (lw_tbl[(am_inL.getD ci (0, 0)).1]? = some (Cond.instantiable r.1 r.2.2)) && decide (lw_tbl[(am_inL.getD ci (0, 0)).2]? = some (Cond.initialized r.1)))))
set_option maxRecDepth 100000 in
theorem am_okC_all : am_cl.zipIdx.all (fun x => am_okC x.2 x.1) = true := by decide +kernel
theorem am_cl_ok {ci : Nat} {r : vw_C} (h : am_cl[ci]? = some r) : r.1 = am_on ci ∧ (∀ w ∈ u_ws r.1 r.2.1 r.2.2, w ∈ lw_tbl ∧ goodWord w = true) ∧ (∀ k, k < r.2.2 → parseFieldDescriptor (r.2.1 k).2.2.1 = some (am_ft ci k) ∧ (am_df ci)[k]? = some (defaultValue (am_ft ci k)) ∧ am_fin ci k = (r.2.1 k).2.2.2) ∧
    (∀ a, a < r.2.2 → ∀ b, b < r.2.2 → a ≠ b → (r.2.1 a).2.1 ≠ (r.2.1 b).2.1) ∧ (am_df ci).length = r.2.2 ∧ Cond.instantiable r.1 r.2.2 ∈ lw_tbl ∧ Cond.initialized r.1 ∈ lw_tbl := by
  have h1 := am_zall am_okC_all h
  simp only [am_okC, Bool.and_eq_true, decide_eq_true_eq, List.all_eq_true, List.mem_range, Bool.or_eq_true] at h1
  obtain ⟨h2, h3, h4, h5, h6⟩ := h1
  refine ⟨h2, fun w hw => ?_, fun k hk => ?_, fun a ha b hb hab => ?_, h4, List.mem_of_getElem? h5, List.mem_of_getElem? h6⟩
  · obtain ⟨k, hk, rfl⟩ := List.mem_map.mp hw
    obtain ⟨q1, q2, -⟩ := h3 k (List.mem_range.mp hk)
    exact ⟨List.mem_of_getElem? q1, q2⟩
  · obtain ⟨-, -, q3, q4, q5, -⟩ := h3 k hk
    exact ⟨q3, q4, q5⟩
  · obtain ⟨-, -, -, -, -, q6⟩ := h3 a ha
    rcases q6 b hb with q | q
    · exact absurd q.symm hab
    · exact q
/-- of a method -/
def am_cw (j : Nat) : Cond := if am_hx j = [] then .code (am_y j) (am_by j) (am_mx j) (am_rt j) else .codeWith (am_y j) (am_by j) (am_mx j) (am_rt j) (am_hx j)
def am_okM (j : Nat) : Bool :=
  decide (lw_tbl[(am_pw j).2.1]? = some (if am_st j = true then Cond.static (am_y j) else Cond.instanceMethod (am_y j))) && ((am_st j || (am_ini j || decide (lw_tbl[(am_pw j).2.2.1]? = some (Cond.selects (am_y j).cls (am_y j) (am_y j))))) &&
  (decide (lw_tbl[(am_pw j).2.2.2]? = some (Cond.initialized (am_y j).cls)) && (plainFor (am_y j) && (decide ((am_y j).cls ≠ "java/lang/invoke/MethodHandle") && (decide ((am_y j).cls ≠ "java/lang/invoke/VarHandle") && (decide ((parseMethodDescriptor (am_y j).desc).map (fun d => d.parameters.length + (if am_st j = true then 0 else 1)) = some (am_na j)) &&
  (decide (am_mx j ≤ 14) && (decide (am_on (am_w j) = (am_y j).cls) && ((!am_ini j || (decide ((am_y j).name = "<init>") && (decide (am_rt j = none) && decide (am_hx j = [])))) && decide ((am_hx j = []) = (am_hd j = [])))))))))))
set_option maxRecDepth 100000 in
theorem am_okM_all : ((List.range 136).all fun j => am_okM (j + 1)) = true := by decide +kernel
set_option maxRecDepth 100000 in
theorem am_cwk : ∀ j, j < 136 → lw_tbl[(am_pw (j + 1)).1]? = some (am_cw (j + 1))
  | 0, _ => rfl
  | 1, _ => rfl
  | 2, _ => rfl
  | 3, _ => rfl
  | 4, _ => rfl
  | 5, _ => rfl
  | 6, _ => rfl
  | 7, _ => rfl
  | 8, _ => rfl
  | 9, _ => rfl
  | 10, _ => rfl
  | 11, _ => rfl
  | 12, _ => rfl
  | 13, _ => rfl
  | 14, _ => rfl
  | 15, _ => rfl
  | 16, _ => rfl
  | 17, _ => rfl
  | 18, _ => rfl
  | 19, _ => rfl
  | 20, _ => rfl
  | 21, _ => rfl
  | 22, _ => rfl
  | 23, _ => rfl
  | 24, _ => rfl
  | 25, _ => rfl
  | 26, _ => rfl
  | 27, _ => rfl
  | 28, _ => rfl
  | 29, _ => rfl
  | 30, _ => rfl
  | 31, _ => rfl
  | 32, _ => rfl
  | 33, _ => rfl
  | 34, _ => rfl
  | 35, _ => rfl
  | 36, _ => rfl
  | 37, _ => rfl
  | 38, _ => rfl
  | 39, _ => rfl
  | 40, _ => rfl
  | 41, _ => rfl
  | 42, _ => rfl
  | 43, _ => rfl
  | 44, _ => rfl
  | 45, _ => rfl
  | 46, _ => rfl
  | 47, _ => rfl
  | 48, _ => rfl
  | 49, _ => rfl
  | 50, _ => rfl
  | 51, _ => rfl
  | 52, _ => rfl
  | 53, _ => rfl
  | 54, _ => rfl
  | 55, _ => rfl
  | 56, _ => rfl
  | 57, _ => rfl
  | 58, _ => rfl
  | 59, _ => rfl
  | 60, _ => rfl
  | 61, _ => rfl
  | 62, _ => rfl
  | 63, _ => rfl
  | 64, _ => rfl
  | 65, _ => rfl
  | 66, _ => rfl
  | 67, _ => rfl
  | 68, _ => rfl
  | 69, _ => rfl
  | 70, _ => rfl
  | 71, _ => rfl
  | 72, _ => rfl
  | 73, _ => rfl
  | 74, _ => rfl
  | 75, _ => rfl
  | 76, _ => rfl
  | 77, _ => rfl
  | 78, _ => rfl
  | 79, _ => rfl
  | 80, _ => rfl
  | 81, _ => rfl
  | 82, _ => rfl
  | 83, _ => rfl
  | 84, _ => rfl
  | 85, _ => rfl
  | 86, _ => rfl
  | 87, _ => rfl
  | 88, _ => rfl
  | 89, _ => rfl
  | 90, _ => rfl
  | 91, _ => rfl
  | 92, _ => rfl
  | 93, _ => rfl
  | 94, _ => rfl
  | 95, _ => rfl
  | 96, _ => rfl
  | 97, _ => rfl
  | 98, _ => rfl
  | 99, _ => rfl
  | 100, _ => rfl
  | 101, _ => rfl
  | 102, _ => rfl
  | 103, _ => rfl
  | 104, _ => rfl
  | 105, _ => rfl
  | 106, _ => rfl
  | 107, _ => rfl
  | 108, _ => rfl
  | 109, _ => rfl
  | 110, _ => rfl
  | 111, _ => rfl
  | 112, _ => rfl
  | 113, _ => rfl
  | 114, _ => rfl
  | 115, _ => rfl
  | 116, _ => rfl
  | 117, _ => rfl
  | 118, _ => rfl
  | 119, _ => rfl
  | 120, _ => rfl
  | 121, _ => rfl
  | 122, _ => rfl
  | 123, _ => rfl
  | 124, _ => rfl
  | 125, _ => rfl
  | 126, _ => rfl
  | 127, _ => rfl
  | 128, _ => rfl
  | 129, _ => rfl
  | 130, _ => rfl
  | 131, _ => rfl
  | 132, _ => rfl
  | 133, _ => rfl
  | 134, _ => rfl
  | 135, _ => rfl
  | n + 136, h => absurd h (by omega)
