/-! The invoking instructions, the entry of a method, the words of a method. -/
theorem am_en_len {vs : List Value} {n : Nat} (h : (am_en vs n).length = n) : (vs.flatMap fun v => if v.category = 2 then [some v, none] else [some v]).length ≤ n := by
  simp only [am_en, List.length_append, List.length_replicate] at h
  omega
theorem am_sl_len (ad : Nat → Nat) : ∀ vs : List Value, (lg_sl (vs.map (am_tv ad))).length = (vs.flatMap fun v => if v.category = 2 then [some v, none] else [some v]).length
  | [] => rfl
  | v :: t => by
    have h := am_sl_len ad t
    simp only [lg_sl, List.map_cons, List.flatMap_cons, List.length_append, am_tv_cat] at h ⊢
    rw [h]
    split <;> rfl
theorem am_sl_get (ad : Nat → Nat) : ∀ (vs : List Value) (i : Nat) (v : Value), (vs.flatMap fun v => if v.category = 2 then [some v, none] else [some v])[i]? = some (some v) → (lg_sl (vs.map (am_tv ad)))[i]? = some (.val (am_tv ad v))
  | [], i, v, h => by simp at h
  | u :: t, i, v, h => by
    simp only [lg_sl, List.map_cons, List.flatMap_cons, am_tv_cat] at h ⊢
    by_cases hc : u.category = 2
    · rw [if_pos hc] at h ⊢
      match i, h with
      | 0, h => cases h; rfl
      | 1, h => cases h
      | i + 2, h => exact am_sl_get ad t i v h
    · rw [if_neg hc] at h ⊢
      match i, h with
      | 0, h => cases h; rfl
      | i + 1, h => exact am_sl_get ad t i v h
theorem am_LR_entry (ad : Nat → Nat) {vs : List Value} {n : Nat} (h : (am_en vs n).length = n) : am_LR ad (am_en vs n) (lg_sl (vs.map (am_tv ad)) ++ List.replicate (n - (lg_sl (vs.map (am_tv ad))).length) Slot.unset).toArray := by
  have hl := am_en_len h
  have hs := am_sl_len ad vs
  have he := lv_entry (vs.map (am_tv ad)) (n := n) (by omega)
  refine ⟨he.1.trans h.symm, he.2.1, fun i v hi => ?_⟩
  rw [List.getElem?_toArray]
  unfold am_en at hi
  by_cases hlt : i < (vs.flatMap fun v => if v.category = 2 then [some v, none] else [some v]).length
  · rw [List.getElem?_append_left hlt] at hi
    rw [List.getElem?_append_left (by omega)]
    exact am_sl_get ad vs i v hi
  · rw [List.getElem?_append_right (by omega)] at hi
    have := List.eq_of_mem_replicate (List.mem_of_getElem? hi)
    cases this
/-- what a method's word says -/
theorem am_cw_spec {j : Nat} {args : Array Value} {U : State} (h : (am_cw j).before args U = true) : ∃ mk methM cM, U.methodNamed? (am_y j) = some mk ∧ U.vm.method? mk = some methM ∧ methM.code = some cM ∧ cM.code = am_by j ∧ cM.maxLocals = am_mx j ∧ methM.sig.returnType = am_rt j ∧ methM.locks = false ∧ parseMethodDescriptor (am_y j).desc = some methM.sig ∧ cM.exceptionTable.toList.map (fun h => (h.startPc, h.endPc, h.handlerPc, h.catchType)) = am_hx j := by
  unfold am_cw at h
  split at h
  · rename_i hx
    obtain ⟨mk, hn⟩ := Cond.code_named h
    obtain ⟨meth, c, h1, h2, h3, h4, h5, h6, h7, h8⟩ := Cond.code_spec hn h
    refine ⟨mk, meth, c, hn, h1, h2, h3, h4, h5, h6, h8, ?_⟩
    have h0 : c.exceptionTable.size = 0 := by simpa [Array.isEmpty] using h7
    have h9 : c.exceptionTable.toList = [] := List.eq_nil_of_length_eq_zero (by simpa using h0)
    rw [h9, hx]
    rfl
  · obtain ⟨mk, meth, c, h0, h1, h2, h3, h4, h5, h6, h7, h8⟩ := Cond.codeWith_spec h
    exact ⟨mk, meth, c, h0, h1, h2, h3, h4, h6, h7, h8, h5⟩
theorem am_wst_all : ((List.range 137).all fun j => decide (am_w j ≤ 10) && (!am_ini j || !am_st j)) = true := by decide +kernel
theorem am_w_le {j : Nat} (h : j < 137) : am_w j ≤ 10 := by
  have := List.all_eq_true.mp am_wst_all j (List.mem_range.mpr h)
  simp only [Bool.and_eq_true, decide_eq_true_eq] at this
  exact this.1
theorem am_ini_st {j : Nat} (h : j < 137) (hi : am_ini j = true) : am_st j = false := by
  have := List.all_eq_true.mp am_wst_all j (List.mem_range.mpr h)
  simp only [Bool.and_eq_true, Bool.or_eq_true, Bool.not_eq_true'] at this
  rcases this.2 with q | q
  · rw [hi] at q; cases q
  · exact q
section AMI
variable {p : Program} {l : Launch} {e : Env} {R : Room} {s : State} {m : MethodId} {args : Array Value} {below : List Frame} {meth : Method} {c : Code} {T : State} {locs : List Loc} {cells slots : Nat}
variable {D : va_G} {B : Nat} {ad : Nat → Nat} {hp : am_H} {w : Nat}
def am_Inv (p : Program) (l : Launch) (e : Env) (R : Room) (s : State) (m : MethodId) (args : Array Value) (below : List Frame) (meth : Method) (c : Code) (T : State) (locs : List Loc) (cells slots : Nat) (y : MethodName) (av : Array Value) (rest : List Value) (g : JFrame) : Prop :=
  ∃ (vm₁ : Vm) (mk : MethodId), Stand p l e R s m args below meth c (T.setVm vm₁) locs cells slots ∧ (T.setVm vm₁).methodNamed? y = some mk ∧ ∀ target, Steps p.tables e below (doInvoke e ((T.setVm vm₁).setTop { g with stack := rest }) [] mk av).1 target → Steps p.tables e below (T.setTop g) target
theorem am_inv (X : Stand p l e R s m args below meth c T locs cells slots) (hx : p.tables.exec = Jvm.exec) (hown : s.vm.findClass (am_on w) = some m.cls) (hK : am_K D s) {i : Instr} {j2 : Nat} {vs rest : List Value} (ht : am_tg w i = some j2) (hrc : am_rc i j2 vs hp = true) (hH : am_HR D B ad s hp T.heap)
    {g : JFrame} (hg : g.method = m) (hstack : g.stack = (vs.map (am_tv ad)).reverse ++ rest) (hna : vs.length = am_na j2) (hdg : decode c.code g.pc = .ok (i, 3)) : am_Inv p l e R s m args below meth c T locs cells slots (am_y j2) (vs.map (am_tv ad)).toArray rest g := by
  have key : ∀ ix, am_mt w ix = some j2 → (0 < j2 ∧ j2 < 137) := fun ix h => (am_mt_ok h).1
  cases i
  case invokevirtual ix =>
    have hmt : am_mt w ix = some j2 := ht
    obtain ⟨⟨h0, h1⟩, hlk⟩ := am_mt_ok hmt
    obtain ⟨hcw, -, hin, hsel, hini, -, hy, hdes, -, hon, -⟩ := am_m_ok h0 h1
    have hgw : goodWord (am_cw j2) = true := by unfold am_cw; split <;> rfl
    obtain ⟨mk, methM, cM, hnamed, hmethM, hcM, -, -, -, -, hsigM, -⟩ := am_cw_spec (hK.1 _ hcw hgw args)
    simp only [am_rc] at hrc
    split at hrc
    · rename_i v vt
      simp only [Bool.and_eq_true, Bool.not_eq_true'] at hrc
      obtain ⟨⟨hst, hni⟩, ho⟩ := hrc
      obtain ⟨b, fs, rfl, hb⟩ := am_isO_inv ho
      obtain ⟨mk2, methM2, hn2, hm2, hstM, habM⟩ := Cond.instanceMethod_spec (hK.1 _ (hin hst) rfl args)
      cases hnamed.symm.trans hn2
      cases hmethM.symm.trans hm2
      have hw9 := am_w_le h1
      obtain ⟨cell, q1, q2, q3, hcls⟩ : ∃ cell : Cell, T.heap[ad b]? = some cell ∧ cell.cls = D.1 (am_w j2) ∧ cell.vm = .none ∧ s.vm.findClass (am_y j2).cls = some cell.cls := by
        rcases hH.2.2.2 b _ hb with ⟨-, r, r1, -, cell, g1, g2, g3, -⟩ | ⟨hq, -⟩ | ⟨hq, -⟩
        · refine ⟨cell, g1, g2, g3, ?_⟩
          have h9 := (hK.2.2.2.1.1 _ _ r1).2.1
          rw [(am_cl_ok r1).1] at h9
          rw [← hon, g2]
          exact h9
        · have := hq.1; dsimp only at this; omega
        · dsimp only at hq; omega
      obtain ⟨c2, r2, m2, s1, s2, s3, s4, kP, hkP, hkPi⟩ := Cond.selects_spec (hK.1 _ (hsel hst hni) rfl args)
      cases hcls.symm.trans s1
      cases (State.methodFound?_of_named hnamed hy).symm.trans s2
      cases hnamed.symm.trans s3
      have hselP : selectMethod e.platform s.vm cell.cls mk = .method mk := by rw [Launch.admits_selectMethod X.admits]; exact s4
      have hlen : (vt.map (am_tv ad)).length = methM.sig.parameters.length := by
        rw [hsigM] at hdes
        have h9 := Option.some.inj hdes
        dsimp only at h9
        rw [if_neg (by rw [hst]; decide)] at h9
        rw [List.length_map]
        simp only [List.length_cons] at hna
        omega
      have hstk : g.stack = (vt.map (am_tv ad)).reverse ++ .ref (ad b) :: rest := by
        rw [hstack]
        simp [am_tv]
      rcases hlk with hlk | hlk
      · obtain ⟨vm₁, X₁, hstep₁⟩ := X.invokevirtual hx hown (hK.1 _ hlk rfl args) hnamed hmethM hstM hkP hkPi hy (a := ad b) (cell := cell) q1 (fun z h => by rw [q3] at h; cases h) hselP hmethM habM hkP hkPi (g := g) hg (argsL := vt.map (am_tv ad)) (rest := rest) hlen hstk hdg
        exact ⟨vm₁, mk, X₁, X₁.named hnamed, fun target h => hstep₁ _ fun acts => by rw [doInvoke_state]; exact h⟩
      · obtain ⟨vm₁, X₁, hstep₁⟩ := X.invokevirtualNest hx hown (va_Nw.use rfl (hK.2.1 _ hlk rfl)) hnamed hmethM hstM hkP hkPi hy (a := ad b) (cell := cell) q1 (fun z h => by rw [q3] at h; cases h) hselP hmethM habM hkP hkPi (g := g) hg (argsL := vt.map (am_tv ad)) (rest := rest) hlen hstk hdg
        exact ⟨vm₁, mk, X₁, X₁.named hnamed, fun target h => hstep₁ _ fun acts => by rw [doInvoke_state]; exact h⟩
    · cases hrc
  case invokestatic ix =>
    have hmt : am_mt w ix = some j2 := ht
    obtain ⟨⟨h0, h1⟩, hlk⟩ := am_mt_ok hmt
    obtain ⟨hcw, hsta, -, -, hini, -, hy, hdes, -, hon, -⟩ := am_m_ok h0 h1
    have hgw : goodWord (am_cw j2) = true := by unfold am_cw; split <;> rfl
    obtain ⟨mk, methM, cM, hnamed, hmethM, hcM, -, -, -, -, hsigM, -⟩ := am_cw_spec (hK.1 _ hcw hgw args)
    have hst : am_st j2 = true := hrc
    have hstatic : methM.isStatic = true := Cond.static_spec hnamed hmethM (hK.1 _ (hsta hst) rfl args)
    obtain ⟨kP, hkP, -⟩ := className_of_methodNamed hnamed
    have hinitP : kP.init = .initialized := Cond.initialized_spec (findClass_of_methodNamed hnamed) hkP (hK.1 _ hini rfl args)
    have hlen : (vs.map (am_tv ad)).length = methM.sig.parameters.length := by
      rw [hsigM] at hdes
      have h9 := Option.some.inj hdes
      dsimp only at h9
      rw [if_pos hst] at h9
      rw [List.length_map]
      omega
    rcases hlk with hlk | hlk
    · obtain ⟨vm₁, X₁, hstep₁⟩ := X.invokestatic hx hown (hK.1 _ hlk rfl args) hnamed hmethM hstatic hkP hinitP hy (g := g) hg (argsL := vs.map (am_tv ad)) (rest := rest) hlen hstack hdg
      exact ⟨vm₁, mk, X₁, X₁.named hnamed, fun target h => hstep₁ _ fun acts => by rw [doInvoke_state]; exact h⟩
    · obtain ⟨vm₁, X₁, hstep₁⟩ := X.invokestaticNest hx hown (va_Nw.use rfl (hK.2.1 _ hlk rfl)) hnamed hmethM hstatic hkP hinitP hy (g := g) hg (argsL := vs.map (am_tv ad)) (rest := rest) hlen hstack hdg
      exact ⟨vm₁, mk, X₁, X₁.named hnamed, fun target h => hstep₁ _ fun acts => by rw [doInvoke_state]; exact h⟩
  case invokespecial ix =>
    have hmt : am_mt w ix = some j2 := ht
    obtain ⟨⟨h0, h1⟩, hlk⟩ := am_mt_ok hmt
    obtain ⟨hcw, -, hin, -, -, -, hy, hdes, -, hon, hinit, -⟩ := am_m_ok h0 h1
    simp only [am_rc] at hrc
    split at hrc
    · rename_i b vt
      obtain ⟨hy1, hrn, hhx⟩ := hinit hrc
      have hst := am_ini_st h1 hrc
      have hcode : (Cond.code (am_y j2) (am_by j2) (am_mx j2) none).before args s = true := by
        have := hK.1 _ hcw (by unfold am_cw; split <;> rfl) args
        unfold am_cw at this
        rw [if_pos hhx, hrn] at this
        exact this
      obtain ⟨mk0, hn0⟩ := Cond.code_named hcode
      obtain ⟨methM0, cM0, hmethM0, -, -, -, -, -, -, hsigM0⟩ := Cond.code_spec hn0 hcode
      have hlen : ∀ sig, parseMethodDescriptor (am_y j2).desc = some sig → (vt.map (am_tv ad)).length = sig.parameters.length := by
        intro sig hsig
        rw [hsig] at hdes
        have h9 := Option.some.inj hdes
        dsimp only at h9
        rw [if_neg (by rw [hst]; decide)] at h9
        rw [List.length_map]
        simp only [List.length_cons] at hna
        omega
      have hstk : g.stack = (vt.map (am_tv ad)).reverse ++ .ref (ad b) :: rest := by
        rw [hstack]
        simp [am_tv]
      subst hg
      have hpl : e.platform.magicAccessors = ({} : Platform).magicAccessors := by rw [X.admits.platform]
      rcases hlk with hlk | hlk
      · obtain ⟨mk, methM, cM, kP, vm₁, hnamed, -, -, -, -, -, -, -, hW₁, hstep₁⟩ := Steps.initColdArgs (e := e) X.here hx X.warmed hpl hown hy1 hy (hK.1 _ hlk rfl args) (hK.1 _ (hin hst) rfl args) hcode (f := g) rfl hlen hstk hdg
        have X₁ := X.noted hW₁
        exact ⟨vm₁, mk, X₁, X₁.named hnamed, fun target h => hstep₁ _ fun acts => by rw [doInvoke_state]; exact h⟩
      · obtain ⟨mk, methM, cM, kP, vm₁, hnamed, -, -, -, -, -, -, -, hW₁, hstep₁⟩ := Steps.initColdArgsNest (e := e) X.here hx X.warmed hpl hown hy1 hy (va_Nw.use rfl (hK.2.1 _ hlk rfl)) (hK.1 _ (hin hst) rfl args) hcode (f := g) rfl hlen hstk hdg
        have X₁ := X.noted hW₁
        exact ⟨vm₁, mk, X₁, X₁.named hnamed, fun target h => hstep₁ _ fun acts => by rw [doInvoke_state]; exact h⟩
    · cases hrc
  all_goals (cases ht)
end AMI
