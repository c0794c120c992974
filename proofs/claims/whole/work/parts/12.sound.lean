/-! The abstract machine is sound: values, locals, plain instructions. -/
def am_tv (ad : Nat → Nat) (v : Value) : Value := match v with
  | .ref a => .ref (ad a)
  | v => v
theorem am_tv_cat (ad : Nat → Nat) (v : Value) : (am_tv ad v).category = v.category := by cases v <;> rfl
theorem am_sum_cat (ad : Nat → Nat) (st : List Value) : ((st.map (am_tv ad)).map fun v => v.category).sum = (st.map fun v => v.category).sum := by
  induction st with
  | nil => rfl
  | cons v t ih => simp only [List.map_cons, List.sum_cons, am_tv_cat, ih]
def am_LR (ad : Nat → Nat) (lo : am_L) (ls : Array Slot) : Prop := ls.size = lo.length ∧ lv_wf ls ∧ ∀ (i : Nat) (v : Value), lo[i]? = some (some v) → ls[i]? = some (.val (am_tv ad v))
def am_ps (ad : Nat → Nat) (lo : am_L) : List (Nat × Value) := (List.range lo.length).filterMap fun i => match lo[i]? with
  | some (some v) => some (i, am_tv ad v)
  | _ => none
theorem am_ps_in {ad : Nat → Nat} {lo : am_L} {i : Nat} {v : Value} (h : lo[i]? = some (some v)) : (i, am_tv ad v) ∈ am_ps ad lo := by
  refine List.mem_filterMap.mpr ⟨i, List.mem_range.mpr (List.getElem?_eq_some_iff.mp h).1, ?_⟩
  rw [h]
theorem am_LR.has {ad : Nat → Nat} {lo : am_L} {ls : Array Slot} (h : am_LR ad lo ls) : lv_has ls lo.length (am_ps ad lo) := by
  refine ⟨h.1, h.2.1, fun q hq => ?_⟩
  obtain ⟨i, -, hi⟩ := List.mem_filterMap.mp hq
  cases hl : lo[i]? with
  | none => rw [hl] at hi; cases hi
  | some o =>
    cases o with
    | none => rw [hl] at hi; cases hi
    | some v =>
      rw [hl] at hi
      cases hi
      exact h.2.2 i v hl
theorem am_LR.of {ad : Nat → Nat} {lo : am_L} {ls : Array Slot} {nL : Nat} {l : List (Nat × Value)} (h : lv_has ls nL l) (hn : nL = lo.length) (hl : ∀ (i : Nat) (v : Value), lo[i]? = some (some v) → (i, am_tv ad v) ∈ l) : am_LR ad lo ls :=
  ⟨h.1.trans hn, h.2.1, fun i v hv => h.2.2 _ (hl i v hv)⟩
theorem am_cut_len (lo : am_L) (i : Nat) : (am_cut lo i).length = lo.length := by
  unfold am_cut
  split
  · rfl
  · split
    · split <;> simp
    · rfl
theorem am_cut_get {lo : am_L} {i j : Nat} {v : Value} (h : (am_cut lo i)[j]? = some (some v)) : lo[j]? = some (some v) ∧ ¬ (j + 1 = i ∧ v.category = 2) := by
  unfold am_cut at h
  split at h
  · exact ⟨h, fun q => by omega⟩
  · rename_i k
    split at h
    · rename_i w hw
      split at h
      · rename_i hc
        by_cases hj : k = j
        · subst hj
          rw [List.getElem?_set_self (List.getElem?_eq_some_iff.mp hw).1] at h
          cases h
        · rw [List.getElem?_set_ne hj] at h
          exact ⟨h, fun q => hj (by omega)⟩
      · rename_i hc
        refine ⟨h, fun q => ?_⟩
        have e : j = k := by omega
        subst e
        rw [hw] at h
        cases h
        exact hc q.2
    · rename_i hno
      refine ⟨h, fun q => ?_⟩
      have e : j = k := by omega
      subst e
      exact hno v h
theorem am_s1_len {lo lo' : am_L} {i : Nat} {v : Value} (h : am_s1 lo i v = some lo') : i < lo.length ∧ lo.length = lo'.length := by
  unfold am_s1 at h
  split at h
  · cases h
    rename_i hi
    exact ⟨hi, by rw [List.length_set, am_cut_len]⟩
  · cases h
theorem am_s1_get {ad : Nat → Nat} {lo lo' : am_L} {i : Nat} {v : Value} (h : am_s1 lo i v = some lo') (j : Nat) (w : Value) (hj : lo'[j]? = some (some w)) :
    (j, am_tv ad w) ∈ (i, am_tv ad v) :: (am_ps ad lo).filter (fun q => !(q.1 == i) && !(q.1 + 1 == i && q.2.category == 2)) := by
  unfold am_s1 at h
  split at h
  · rename_i hi
    cases h
    by_cases e : i = j
    · subst e
      rw [List.getElem?_set_self (by rw [am_cut_len]; exact hi)] at hj
      cases hj
      exact List.mem_cons_self
    · rw [List.getElem?_set_ne e] at hj
      obtain ⟨h1, h2⟩ := am_cut_get hj
      refine List.mem_cons_of_mem _ (List.mem_filter.mpr ⟨am_ps_in h1, ?_⟩)
      have e1 : (j == i) = false := by simp; exact fun q => e q.symm
      by_cases e2 : j + 1 = i
      · have : ¬ w.category = 2 := fun q => h2 ⟨e2, q⟩
        simp [e1, am_tv_cat, this]
      · simp [e1, e2]
  · cases h
theorem am_s2_len {lo lo' : am_L} {i : Nat} {v : Value} (h : am_s2 lo i v = some lo') : i + 1 < lo.length ∧ lo.length = lo'.length := by
  unfold am_s2 at h
  split at h
  · cases h
    rename_i hi
    exact ⟨hi, by rw [List.length_set, List.length_set, am_cut_len]⟩
  · cases h
theorem am_s2_get {ad : Nat → Nat} {lo lo' : am_L} {i : Nat} {v : Value} (h : am_s2 lo i v = some lo') (j : Nat) (w : Value) (hj : lo'[j]? = some (some w)) :
    (j, am_tv ad w) ∈ (i, am_tv ad v) :: (am_ps ad lo).filter (fun q => !(q.1 == i) && (!(q.1 == i + 1) && !(q.1 + 1 == i && q.2.category == 2))) := by
  unfold am_s2 at h
  split at h
  · rename_i hi
    cases h
    by_cases e0 : i + 1 = j
    · subst e0
      rw [List.getElem?_set_self (by rw [List.length_set, am_cut_len]; exact hi)] at hj
      cases hj
    · rw [List.getElem?_set_ne e0] at hj
      by_cases e : i = j
      · subst e
        rw [List.getElem?_set_self (by rw [am_cut_len]; omega)] at hj
        cases hj
        exact List.mem_cons_self
      · rw [List.getElem?_set_ne e] at hj
        obtain ⟨h1, h2⟩ := am_cut_get hj
        refine List.mem_cons_of_mem _ (List.mem_filter.mpr ⟨am_ps_in h1, ?_⟩)
        have e1 : (j == i) = false := by simp; exact fun q => e q.symm
        have e3 : (j == i + 1) = false := by simp; exact fun q => e0 q.symm
        by_cases e2 : j + 1 = i
        · have : ¬ w.category = 2 := fun q => h2 ⟨e2, q⟩
          simp [e1, e3, am_tv_cat, this]
        · simp [e1, e3, e2]
  · cases h
theorem am_bp {k : Int} (h : -128 ≤ k ∧ k ≤ 127) : (Int8.ofInt k).toInt32 = am_ic k := by
  rw [← am_ic_eq]
  apply Int32.toInt_inj.mp
  rw [Int8.toInt_toInt32, Int8.toInt_ofInt_of_le (by omega) (by omega), Int32.toInt_ofInt_of_le (by omega) (by omega)]
theorem am_sp {k : Int} (h : -32768 ≤ k ∧ k ≤ 32767) : (Int16.ofInt k).toInt32 = am_ic k := by
  rw [← am_ic_eq]
  apply Int32.toInt_inj.mp
  rw [Int16.toInt_toInt32, Int16.toInt_ofInt_of_le (by omega) (by omega), Int32.toInt_ofInt_of_le (by omega) (by omega)]
theorem am_p_inv {n : Nat} {lo : am_L} {o : Option (List Value)} {q : Nat × am_L × List Value} (h : am_p n lo o = some q) : ∃ st', o = some st' ∧ q = (n, lo, st') := by
  cases o with
  | none => cases h
  | some st' => exact ⟨st', rfl, (Option.some.inj h).symm⟩
theorem am_q_inv {n : Nat} {o : Option (am_L × List Value)} {q : Nat × am_L × List Value} (h : am_q n o = some q) : ∃ lo' st', o = some (lo', st') ∧ q = (n, lo', st') := by
  cases o with
  | none => cases h
  | some x => exact ⟨x.1, x.2, rfl, (Option.some.inj h).symm⟩
theorem am_ldi_inv {lo : am_L} {k : Nat} {st st' : List Value} (h : am_ldi lo k st = some st') : ∃ x, lo[k]? = some (some (.int x)) ∧ st' = .int x :: st := by
  unfold am_ldi at h
  split at h
  · rename_i x hx
    exact ⟨x, hx, (Option.some.inj h).symm⟩
  · cases h
theorem am_ldl_inv {lo : am_L} {k : Nat} {st st' : List Value} (h : am_ldl lo k st = some st') : ∃ x, lo[k]? = some (some (.long x)) ∧ st' = .long x :: st := by
  unfold am_ldl at h
  split at h
  · rename_i x hx
    exact ⟨x, hx, (Option.some.inj h).symm⟩
  · cases h
theorem am_lda_inv {lo : am_L} {k : Nat} {st st' : List Value} (h : am_lda lo k st = some st') : ∃ x, lo[k]? = some (some (.ref x)) ∧ st' = .ref x :: st := by
  unfold am_lda at h
  split at h
  · rename_i x hx
    exact ⟨x, hx, (Option.some.inj h).symm⟩
  · cases h
theorem am_sti_inv {lo lo' : am_L} {k : Nat} {st st' : List Value} (h : am_sti lo k st = some (lo', st')) : ∃ x, st = .int x :: st' ∧ am_s1 lo k (.int x) = some lo' := by
  unfold am_sti at h
  split at h
  · rename_i x r
    cases h1 : am_s1 lo k (.int x) with
    | none => rw [h1] at h; cases h
    | some l => rw [h1] at h; cases h; exact ⟨x, rfl, h1⟩
  · cases h
theorem am_sta_inv {lo lo' : am_L} {k : Nat} {st st' : List Value} (h : am_sta lo k st = some (lo', st')) : ∃ x, st = .ref x :: st' ∧ am_s1 lo k (.ref x) = some lo' := by
  unfold am_sta at h
  split at h
  · rename_i x r
    cases h1 : am_s1 lo k (.ref x) with
    | none => rw [h1] at h; cases h
    | some l => rw [h1] at h; cases h; exact ⟨x, rfl, h1⟩
  · cases h
theorem am_stl_inv {lo lo' : am_L} {k : Nat} {st st' : List Value} (h : am_stl lo k st = some (lo', st')) : ∃ x, st = .long x :: st' ∧ am_s2 lo k (.long x) = some lo' := by
  unfold am_stl at h
  split at h
  · rename_i x r
    cases h1 : am_s2 lo k (.long x) with
    | none => rw [h1] at h; cases h
    | some l => rw [h1] at h; cases h; exact ⟨x, rfl, h1⟩
  · cases h
theorem am_bi_inv {f : Int32 → Int32 → Int32} {st st' : List Value} (h : am_bi f st = some st') : ∃ x y r, st = .int y :: .int x :: r ∧ st' = .int (f x y) :: r := by
  unfold am_bi at h
  split at h
  · rename_i y x r
    exact ⟨x, y, r, rfl, (Option.some.inj h).symm⟩
  · cases h
theorem am_di_inv {f : Int32 → Int32 → Int32} {st st' : List Value} (h : am_di f st = some st') : ∃ x y r, st = .int y :: .int x :: r ∧ ¬ y = 0 ∧ st' = .int (f x y) :: r := by
  unfold am_di at h
  split at h
  · rename_i y x r
    split at h
    · cases h
    · rename_i hy
      exact ⟨x, y, r, rfl, hy, (Option.some.inj h).symm⟩
  · cases h
theorem am_bl_inv {f : Int64 → Int64 → Int64} {st st' : List Value} (h : am_bl f st = some st') : ∃ x y r, st = .long y :: .long x :: r ∧ st' = .long (f x y) :: r := by
  unfold am_bl at h
  split at h
  · rename_i y x r
    exact ⟨x, y, r, rfl, (Option.some.inj h).symm⟩
  · cases h
theorem am_dl_inv {f : Int64 → Int64 → Int64} {st st' : List Value} (h : am_dl f st = some st') : ∃ x y r, st = .long y :: .long x :: r ∧ ¬ y = 0 ∧ st' = .long (f x y) :: r := by
  unfold am_dl at h
  split at h
  · rename_i y x r
    split at h
    · cases h
    · rename_i hy
      exact ⟨x, y, r, rfl, hy, (Option.some.inj h).symm⟩
  · cases h
theorem am_inc_inv {lo lo' : am_L} {k : Nat} {n : Int} (h : am_inc lo k n = some lo') : ∃ x, lo[k]? = some (some (.int x)) ∧ am_s1 lo k (.int (x + am_ic n)) = some lo' := by
  unfold am_inc at h
  split at h
  · rename_i x hx
    exact ⟨x, hx, h⟩
  · cases h
theorem am_to_eq {pc : Nat} {off : Int} (h : am_ok pc off = true) : (pc : Int) + off = (am_to pc off : Int) := by
  unfold am_ok at h
  unfold am_to
  rw [Int.toNat_of_nonneg (of_decide_eq_true h)]
section AMP
variable {p : Program} {l : Launch} {e : Env} {R : Room} {s : State} {m : MethodId} {args : Array Value} {below : List Frame} {meth : Method} {c : Code} {H : Heap} {locs : List Loc} {cells slots : Nat} {Q : State → Prop}
set_option maxHeartbeats 4000000 in
theorem am_W_pl {ad : Nat → Nat} {cc : ByteArray} {w : Nat} {own : String} (hx : p.tables.exec = Jvm.exec) (hb : c.code = cc) (hown : s.vm.findClass own = some m.cls)
    (hcI : ∀ ix n, am_ldI w ix = some n → (Jvm.Cond.constant own ix (nI n)).before args s = true) (hcL : ∀ ix v, am_ldL w ix = some v → (Jvm.Cond.constantLong own ix v).before args s = true)
    {i : Instr} {len pc : Nat} {lo : am_L} {st : List Value} {q : Nat × am_L × List Value} {ls : Array Slot}
    (hd : decode cc pc = .ok (i, len)) (hl : am_lk i len = true) (h : am_pl w i pc lo st = some q) (hL : am_LR ad lo ls)
    (kk : ∀ ls', am_LR ad q.2.1 ls' → W p l e R s m args below meth c H locs cells slots Q (F0 m q.1 ls' (q.2.2.map (am_tv ad)))) :
    W p l e R s m args below meth c H locs cells slots Q (F0 m pc ls (st.map (am_tv ad))) := by
  cases i
  case iconst k =>
    obtain rfl : len = 1 := of_decide_eq_true hl
    cases h
    exact lv_iconst hx hb hd (am_ic_eq k) (kk ls hL)
  case bipush k =>
    obtain rfl : len = 2 := of_decide_eq_true hl
    simp only [am_pl] at h
    split at h
    · rename_i hk
      cases h
      exact lv_bipush hx hb hd (am_bp hk) (kk ls hL)
    · cases h
  case sipush k =>
    obtain rfl : len = 3 := of_decide_eq_true hl
    simp only [am_pl] at h
    split at h
    · rename_i hk
      cases h
      exact lv_sipush hx hb hd (am_sp hk) (kk ls hL)
    · cases h
  case lconst k =>
    obtain rfl : len = 1 := of_decide_eq_true hl
    cases h
    exact lv_lconst hx hb hd rfl (kk ls hL)
  case ldc ix =>
    obtain rfl : len = 2 := of_decide_eq_true hl
    simp only [am_pl] at h
    cases hc : am_ldI w ix with
    | none => rw [hc] at h; cases h
    | some n => rw [hc] at h; cases h; exact lv_ldc hx hb hown (hcI ix n hc) hd (kk ls hL)
  case ldc2_w ix =>
    obtain rfl : len = 3 := of_decide_eq_true hl
    simp only [am_pl] at h
    cases hc : am_ldL w ix with
    | none => rw [hc] at h; cases h
    | some n => rw [hc] at h; cases h; exact lv_ldc2 hx hb hown (hcL ix n hc) hd (kk ls hL)
  case iload k =>
    obtain rfl : len = 2 := of_decide_eq_true hl
    obtain ⟨st', h1, rfl⟩ := am_p_inv h
    obtain ⟨x, h2, rfl⟩ := am_ldi_inv h1
    exact lv_iload hx hb hd (hL.2.2 _ _ h2) (kk ls hL)
  case iload_n k =>
    obtain rfl : len = 1 := of_decide_eq_true hl
    obtain ⟨st', h1, rfl⟩ := am_p_inv h
    obtain ⟨x, h2, rfl⟩ := am_ldi_inv h1
    exact lv_iload_n hx hb hd rfl (hL.2.2 _ _ h2) (kk ls hL)
  case lload k =>
    obtain rfl : len = 2 := of_decide_eq_true hl
    obtain ⟨st', h1, rfl⟩ := am_p_inv h
    obtain ⟨x, h2, rfl⟩ := am_ldl_inv h1
    exact lv_lload hx hb hd (hL.2.2 _ _ h2) (kk ls hL)
  case lload_n k =>
    obtain rfl : len = 1 := of_decide_eq_true hl
    obtain ⟨st', h1, rfl⟩ := am_p_inv h
    obtain ⟨x, h2, rfl⟩ := am_ldl_inv h1
    exact lv_lload_n hx hb hd rfl (hL.2.2 _ _ h2) (kk ls hL)
  case aload k =>
    obtain rfl : len = 2 := of_decide_eq_true hl
    obtain ⟨st', h1, rfl⟩ := am_p_inv h
    obtain ⟨x, h2, rfl⟩ := am_lda_inv h1
    exact lv_aload hx hb hd (hL.2.2 _ _ h2) (kk ls hL)
  case aload_n k =>
    obtain rfl : len = 1 := of_decide_eq_true hl
    obtain ⟨st', h1, rfl⟩ := am_p_inv h
    obtain ⟨x, h2, rfl⟩ := am_lda_inv h1
    exact lv_aload_n hx hb hd rfl (hL.2.2 _ _ h2) (kk ls hL)
  case istore k =>
    obtain rfl : len = 2 := of_decide_eq_true hl
    obtain ⟨lo', st', h1, rfl⟩ := am_q_inv h
    obtain ⟨x, rfl, h2⟩ := am_sti_inv h1
    exact lv_istore hx hb hd hL.has (am_s1_len h2).1 rfl (fun ls' h' => kk ls' (am_LR.of h' (am_s1_len h2).2 (am_s1_get h2)))
  case istore_n k =>
    obtain rfl : len = 1 := of_decide_eq_true hl
    obtain ⟨lo', st', h1, rfl⟩ := am_q_inv h
    obtain ⟨x, rfl, h2⟩ := am_sti_inv h1
    exact lv_istore_n hx hb hd rfl hL.has (am_s1_len h2).1 rfl (fun ls' h' => kk ls' (am_LR.of h' (am_s1_len h2).2 (am_s1_get h2)))
  case lstore k =>
    obtain rfl : len = 2 := of_decide_eq_true hl
    obtain ⟨lo', st', h1, rfl⟩ := am_q_inv h
    obtain ⟨x, rfl, h2⟩ := am_stl_inv h1
    exact lv_lstore hx hb hd hL.has (am_s2_len h2).1 rfl (fun ls' h' => kk ls' (am_LR.of h' (am_s2_len h2).2 (am_s2_get h2)))
  case lstore_n k =>
    obtain rfl : len = 1 := of_decide_eq_true hl
    obtain ⟨lo', st', h1, rfl⟩ := am_q_inv h
    obtain ⟨x, rfl, h2⟩ := am_stl_inv h1
    exact lv_lstore_n hx hb hd rfl hL.has (am_s2_len h2).1 rfl (fun ls' h' => kk ls' (am_LR.of h' (am_s2_len h2).2 (am_s2_get h2)))
  case astore k =>
    obtain rfl : len = 2 := of_decide_eq_true hl
    obtain ⟨lo', st', h1, rfl⟩ := am_q_inv h
    obtain ⟨x, rfl, h2⟩ := am_sta_inv h1
    exact lv_astore hx hb hd hL.has (am_s1_len h2).1 rfl (fun ls' h' => kk ls' (am_LR.of h' (am_s1_len h2).2 (am_s1_get h2)))
  case astore_n k =>
    obtain rfl : len = 1 := of_decide_eq_true hl
    obtain ⟨lo', st', h1, rfl⟩ := am_q_inv h
    obtain ⟨x, rfl, h2⟩ := am_sta_inv h1
    exact lv_astore_n hx hb hd rfl hL.has (am_s1_len h2).1 rfl (fun ls' h' => kk ls' (am_LR.of h' (am_s1_len h2).2 (am_s1_get h2)))
  case iinc k n =>
    obtain rfl : len = 3 := of_decide_eq_true hl
    simp only [am_pl] at h
    cases h1 : am_inc lo k n with
    | none => rw [h1] at h; cases h
    | some lo' =>
      rw [h1] at h
      cases h
      obtain ⟨x, h2, h3⟩ := am_inc_inv h1
      obtain ⟨j, hj⟩ := List.getElem?_of_mem (am_ps_in (ad := ad) h2)
      exact lv_iinc hx hb hd hL.has hj (by rw [am_ic_eq]) (am_s1_len h3).1 rfl (fun ls' h' => kk ls' (am_LR.of h' (am_s1_len h3).2 (am_s1_get h3)))
  case lcmp =>
    obtain rfl : len = 1 := of_decide_eq_true hl
    simp only [am_pl] at h
    split at h
    · cases h
      exact W.lcmp hx hb hd (kk ls hL)
    · cases h
  case i2l =>
    obtain rfl : len = 1 := of_decide_eq_true hl
    simp only [am_pl] at h
    split at h
    · cases h
      exact lv_i2l hx hb hd rfl (kk ls hL)
    · cases h
  case l2i =>
    obtain rfl : len = 1 := of_decide_eq_true hl
    simp only [am_pl] at h
    split at h
    · cases h
      exact lv_l2i hx hb hd rfl (kk ls hL)
    · cases h
  case dup =>
    obtain rfl : len = 1 := of_decide_eq_true hl
    simp only [am_pl] at h
    split at h
    · split at h
      · rename_i hc
        cases h
        exact lv_dup hx hb hd ((am_tv_cat _ _).trans hc) (kk ls hL)
      · cases h
    · cases h
  case pop =>
    obtain rfl : len = 1 := of_decide_eq_true hl
    simp only [am_pl] at h
    split at h
    · split at h
      · rename_i hc
        cases h
        exact lv_pop hx hb hd ((am_tv_cat _ _).trans hc) (kk ls hL)
      · cases h
    · cases h
  case dup2 =>
    obtain rfl : len = 1 := of_decide_eq_true hl
    simp only [am_pl] at h
    split at h
    · split at h
      · rename_i hc
        cases h
        exact lv_dup2_11 hx hb hd ((am_tv_cat _ _).trans hc.1) ((am_tv_cat _ _).trans hc.2) (kk ls hL)
      · cases h
    · cases h
  case goto off =>
    obtain rfl : len = 3 := of_decide_eq_true hl
    simp only [am_pl] at h
    split at h
    · rename_i hk
      cases h
      exact lv_goto hx hb hd (am_to_eq hk) (kk ls hL)
    · cases h
  case iadd => obtain rfl : len = 1 := of_decide_eq_true hl; obtain ⟨st', h1, rfl⟩ := am_p_inv h; obtain ⟨x, y, r, rfl, rfl⟩ := am_bi_inv h1; exact lv_iadd hx hb hd (kk ls hL)
  case isub => obtain rfl : len = 1 := of_decide_eq_true hl; obtain ⟨st', h1, rfl⟩ := am_p_inv h; obtain ⟨x, y, r, rfl, rfl⟩ := am_bi_inv h1; exact lv_isub hx hb hd (kk ls hL)
  case imul => obtain rfl : len = 1 := of_decide_eq_true hl; obtain ⟨st', h1, rfl⟩ := am_p_inv h; obtain ⟨x, y, r, rfl, rfl⟩ := am_bi_inv h1; exact lv_imul hx hb hd (kk ls hL)
  case iand => obtain rfl : len = 1 := of_decide_eq_true hl; obtain ⟨st', h1, rfl⟩ := am_p_inv h; obtain ⟨x, y, r, rfl, rfl⟩ := am_bi_inv h1; exact lv_iand hx hb hd (kk ls hL)
  case ior => obtain rfl : len = 1 := of_decide_eq_true hl; obtain ⟨st', h1, rfl⟩ := am_p_inv h; obtain ⟨x, y, r, rfl, rfl⟩ := am_bi_inv h1; exact lv_ior hx hb hd (kk ls hL)
  case ixor => obtain rfl : len = 1 := of_decide_eq_true hl; obtain ⟨st', h1, rfl⟩ := am_p_inv h; obtain ⟨x, y, r, rfl, rfl⟩ := am_bi_inv h1; exact lv_ixor hx hb hd (kk ls hL)
  case ishl => obtain rfl : len = 1 := of_decide_eq_true hl; obtain ⟨st', h1, rfl⟩ := am_p_inv h; obtain ⟨x, y, r, rfl, rfl⟩ := am_bi_inv h1; exact lv_ishl hx hb hd (kk ls hL)
  case ishr => obtain rfl : len = 1 := of_decide_eq_true hl; obtain ⟨st', h1, rfl⟩ := am_p_inv h; obtain ⟨x, y, r, rfl, rfl⟩ := am_bi_inv h1; exact lv_ishr hx hb hd (kk ls hL)
  case idiv => obtain rfl : len = 1 := of_decide_eq_true hl; obtain ⟨st', h1, rfl⟩ := am_p_inv h; obtain ⟨x, y, r, rfl, hy, rfl⟩ := am_di_inv h1; exact lv_idiv hx hb hd hy (kk ls hL)
  case irem => obtain rfl : len = 1 := of_decide_eq_true hl; obtain ⟨st', h1, rfl⟩ := am_p_inv h; obtain ⟨x, y, r, rfl, hy, rfl⟩ := am_di_inv h1; exact lv_irem hx hb hd hy (kk ls hL)
  case ladd => obtain rfl : len = 1 := of_decide_eq_true hl; obtain ⟨st', h1, rfl⟩ := am_p_inv h; obtain ⟨x, y, r, rfl, rfl⟩ := am_bl_inv h1; exact lv_ladd hx hb hd (kk ls hL)
  case lsub => obtain rfl : len = 1 := of_decide_eq_true hl; obtain ⟨st', h1, rfl⟩ := am_p_inv h; obtain ⟨x, y, r, rfl, rfl⟩ := am_bl_inv h1; exact lv_lsub hx hb hd (kk ls hL)
  case lmul => obtain rfl : len = 1 := of_decide_eq_true hl; obtain ⟨st', h1, rfl⟩ := am_p_inv h; obtain ⟨x, y, r, rfl, rfl⟩ := am_bl_inv h1; exact lv_lmul hx hb hd (kk ls hL)
  case ldiv => obtain rfl : len = 1 := of_decide_eq_true hl; obtain ⟨st', h1, rfl⟩ := am_p_inv h; obtain ⟨x, y, r, rfl, hy, rfl⟩ := am_dl_inv h1; exact lv_ldiv hx hb hd hy (kk ls hL)
  case lrem => obtain rfl : len = 1 := of_decide_eq_true hl; obtain ⟨st', h1, rfl⟩ := am_p_inv h; obtain ⟨x, y, r, rfl, hy, rfl⟩ := am_dl_inv h1; exact lv_lrem hx hb hd hy (kk ls hL)
  all_goals (simp [am_pl] at h)
/-- jumps -/
theorem am_W_jp {ad : Nat → Nat} {cc : ByteArray} (hx : p.tables.exec = Jvm.exec) (hb : c.code = cc)
    {i : Instr} {len pc : Nat} {lo : am_L} {st : List Value} {q : Nat × am_L × List Value} {ls : Array Slot}
    (hd : decode cc pc = .ok (i, len)) (hl : am_lk i len = true) (h : am_jp i pc len lo st = some q) (hL : am_LR ad lo ls)
    (kk : ∀ ls', am_LR ad q.2.1 ls' → W p l e R s m args below meth c H locs cells slots Q (F0 m q.1 ls' (q.2.2.map (am_tv ad)))) :
    W p l e R s m args below meth c H locs cells slots Q (F0 m pc ls (st.map (am_tv ad))) := by
  cases i
  case ifCond cd off =>
    obtain rfl : len = 3 := of_decide_eq_true hl
    simp only [am_jp] at h
    split at h
    · split at h
      · rename_i x r hk
        cases h
        have kk := kk ls hL
        dsimp only at kk
        cases cd <;> simp only [am_c1, decide_eq_true_eq] at kk
        · exact lv_if_eq hx hb hd (am_to_eq hk) (fun z => by rw [if_pos z] at kk; exact kk) (fun z => by rw [if_neg z] at kk; exact kk)
        · exact lv_if_ne hx hb hd (am_to_eq hk) (fun z => by rw [if_pos z] at kk; exact kk) (fun z => by rw [if_neg (fun y => y z)] at kk; exact kk)
        · exact lv_if_lt hx hb hd (am_to_eq hk) (fun z => by rw [if_pos z] at kk; exact kk) (fun z => by rw [if_neg z] at kk; exact kk)
        · exact lv_if_ge hx hb hd (am_to_eq hk) (fun z => by rw [if_pos z] at kk; exact kk) (fun z => by rw [if_neg z] at kk; exact kk)
        · exact lv_if_gt hx hb hd (am_to_eq hk) (fun z => by rw [if_pos z] at kk; exact kk) (fun z => by rw [if_neg z] at kk; exact kk)
        · exact lv_if_le hx hb hd (am_to_eq hk) (fun z => by rw [if_pos z] at kk; exact kk) (fun z => by rw [if_neg z] at kk; exact kk)
      · cases h
    · cases h
  case if_icmp cd off =>
    obtain rfl : len = 3 := of_decide_eq_true hl
    simp only [am_jp] at h
    split at h
    · split at h
      · rename_i y x r hk
        cases h
        have kk := kk ls hL
        dsimp only at kk
        cases cd <;> simp only [am_c2, decide_eq_true_eq] at kk
        · exact lv_icmp_eq hx hb hd (am_to_eq hk) (fun z => by rw [if_pos z] at kk; exact kk) (fun z => by rw [if_neg z] at kk; exact kk)
        · exact lv_icmp_ne hx hb hd (am_to_eq hk) (fun z => by rw [if_pos z] at kk; exact kk) (fun z => by rw [if_neg (fun y => y z)] at kk; exact kk)
        · exact lv_icmp_lt hx hb hd (am_to_eq hk) (fun z => by rw [if_pos z] at kk; exact kk) (fun z => by rw [if_neg z] at kk; exact kk)
        · exact lv_icmp_ge hx hb hd (am_to_eq hk) (fun z => by rw [if_pos z] at kk; exact kk) (fun z => by rw [if_neg z] at kk; exact kk)
        · exact lv_icmp_gt hx hb hd (am_to_eq hk) (fun z => by rw [if_pos z] at kk; exact kk) (fun z => by rw [if_neg z] at kk; exact kk)
        · exact lv_icmp_le hx hb hd (am_to_eq hk) (fun z => by rw [if_pos z] at kk; exact kk) (fun z => by rw [if_neg z] at kk; exact kk)
      · cases h
    · cases h
  case tableswitch dflt low high offs =>
    simp only [am_jp] at h
    split at h
    · rename_i x r
      split at h
      · rename_i hz
        split at h
        · rename_i hk
          cases h
          exact lv_tableOut hx hb hd hz (am_to_eq hk) (kk ls hL)
        · cases h
      · rename_i hz
        split at h
        · rename_i off ho
          split at h
          · rename_i hk
            cases h
            exact lv_tableIn hx hb hd (fun z => hz (Or.inl z)) (fun z => hz (Or.inr z)) ho (am_to_eq hk) (kk ls hL)
          · cases h
        · cases h
    · cases h
  all_goals (simp [am_jp] at h)
end AMP
