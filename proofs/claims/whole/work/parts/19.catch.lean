/-! A throw is caught, though the handlers' classes may not have been resolved yet. -/
theorem am_fi_skip {q : Nat × Nat × Nat × Nat} {t : List (Nat × Nat × Nat × Nat)} {pc k : Nat} (h : ¬ (q.1 ≤ pc ∧ pc < q.2.1 ∧ q.2.2.2 = k)) : am_fi (q :: t) pc k = am_fi t pc k := by
  simp only [am_fi]
  rw [if_neg h]
theorem am_fi_hit {q : Nat × Nat × Nat × Nat} {t : List (Nat × Nat × Nat × Nat)} {pc k : Nat} (h : q.1 ≤ pc ∧ pc < q.2.1 ∧ q.2.2.2 = k) : am_fi (q :: t) pc k = some q.2.2.1 := by
  simp only [am_fi]
  rw [if_pos h]
section AMX
variable {e : Env} {f : JFrame} {a : Addr}
theorem am_go_class {s : State} {x : ExceptionTableEntry} {t : List ExceptionTableEntry} {c : ClassId} {cell : Cell} {Q : Handler → Pre} {E : CtlPost} {d : Bool} {acts : List Action} (hx : covers x f.pc = true) (h0 : x.catchType ≠ 0)
    (hl : s.vm.ClassLinks e.platform f.method.cls x.catchType c) (hcell : s.heap[a]? = some cell) (hobj : ∀ k, cell.vm ≠ .statics k) (hk : ∃ k, s.vm.classes[cell.cls]? = some k) (hc : ∃ k, s.vm.classes[c]? = some k) (hA : s.vm.Alike (s.vm.noted f.method.cls x.catchType (.cls c))) :
    wp (findHandler.go f a (x :: t)) Q E e d acts s ↔ if s.vm.assignable cell.cls c = true then Q (.found x.handlerPc) d acts (s.setVm (s.vm.noted f.method.cls x.catchType (.cls c))) else wp (findHandler.go f a t) Q E e d acts (s.setVm (s.vm.noted f.method.cls x.catchType (.cls c))) := by
  simp only [covers] at hx
  have hg := resolveClass_links e.toSetting hl
  obtain ⟨ha, ht⟩ := hg.op (op := VmOp.resolveClass f.method.cls x.catchType) rfl
  have e1 : ∃ k, (s.vm.noted f.method.cls x.catchType (.cls c)).classes[cell.cls]? = some k := by
    obtain ⟨k, hk⟩ := hk
    obtain ⟨k', hk', -⟩ := hA.2.2 _ _ hk
    exact ⟨k', hk'⟩
  have e2 : ∃ k, (s.vm.noted f.method.cls x.catchType (.cls c)).classes[c]? = some k := by
    obtain ⟨k, hk⟩ := hc
    obtain ⟨k', hk', -⟩ := hA.2.2 _ _ hk
    exact ⟨k', hk'⟩
  simp [findHandler.go, hx, h0, ha, ht, hcell, hobj, VmOp.dirties, VmOp.acts, e1, e2, hA.assignable]
/-- what the search finds, by kinds -/
def am_hf (o : Option Nat) : Handler := match o with
  | some t => .found t
  | none => .none
def am_en4 (ek : Nat → Nat) (x : ExceptionTableEntry) : Nat × Nat × Nat × Nat := (x.startPc, x.endPc, x.handlerPc, ek x.catchType)
theorem am_search {s : State} {args : Array Value} {own : String} {cell : Cell} {k : Nat} (ek : Nat → Nat) (nm : Nat → String) (hown : s.vm.findClass own = some f.method.cls) (hpl : e.platform.magicAccessors = ({} : Platform).magicAccessors)
    (hobj : ∀ k, cell.vm ≠ .statics k) (hcl : ∃ q, s.vm.classes[cell.cls]? = some q) :
    ∀ (l : List ExceptionTableEntry) (S : State), (∀ x ∈ l, x.catchType ≠ 0 ∧ (Cond.classLink own x.catchType (nm x.catchType)).before args s = true ∧ ∀ c, s.vm.findClass (nm x.catchType) = some c → s.vm.assignable cell.cls c = decide (ek x.catchType = k)) → s.WarmedH S.vm → S.heap[a]? = some cell →
      ∃ vm', s.WarmedH vm' ∧ ∀ (Q : Handler → Pre) (E : CtlPost) (d : Bool) (acts : List Action), wp (findHandler.go f a l) Q E e d acts S ↔ Q (am_hf (am_fi (l.map (am_en4 ek)) f.pc k)) d acts (S.setVm vm')
  | [], S, _, hW, _ => ⟨S.vm, hW, fun Q E d acts => W.findHandler_go_nil⟩
  | x :: t, S, hl, hW, hS => by
    obtain ⟨h0, hlk, has⟩ := hl x List.mem_cons_self
    have ht := fun y hy => hl y (List.mem_cons_of_mem _ hy)
    cases hx : covers x f.pc with
    | false =>
      obtain ⟨vm', hW', h'⟩ := am_search ek nm hown hpl hobj hcl t S ht hW hS
      refine ⟨vm', hW', fun Q E d acts => ?_⟩
      rw [W.findHandler_go_skip hx, h', List.map_cons]
      have : ¬ (x.startPc ≤ f.pc ∧ f.pc < x.endPc ∧ ek x.catchType = k) := by
        simp only [covers, Bool.and_eq_false_iff, decide_eq_false_iff_not] at hx
        intro q
        rcases hx with z | z
        · exact z q.1
        · exact z q.2.1
      rw [am_fi_skip (q := am_en4 ek x) this]
    | true =>
      obtain ⟨c, hfc, hcL⟩ := Cond.classLink_spec hown hlk e.platform hpl
      obtain ⟨-, hwarm, -⟩ := State.classEntry (e := e) hW hcL
      have hcL' := hW.classLinks hcL
      have hA : S.vm.Alike (S.vm.noted f.method.cls x.catchType (.cls c)) := hW.alike.symm.trans hwarm.alike
      have hk1 : ∃ k, S.vm.classes[cell.cls]? = some k := by
        obtain ⟨k, hk⟩ := hcl
        obtain ⟨k', hk', -⟩ := hW.alike.2.2 _ _ hk
        exact ⟨k', hk'⟩
      have hk2 : ∃ k, S.vm.classes[c]? = some k := by
        obtain ⟨k, hk⟩ := Vm.classAt_of_findClass hfc
        obtain ⟨k', hk', -⟩ := hW.alike.2.2 _ _ hk
        exact ⟨k', hk'⟩
      have hasg : S.vm.assignable cell.cls c = decide (ek x.catchType = k) := by rw [hW.alike.assignable]; exact has c hfc
      have hcov : x.startPc ≤ f.pc ∧ f.pc < x.endPc := by simpa [covers] using hx
      by_cases hk : ek x.catchType = k
      · refine ⟨_, hwarm, fun Q E d acts => ?_⟩
        rw [am_go_class hx h0 hcL' hS hobj hk1 hk2 hA, if_pos (by rw [hasg]; exact decide_eq_true hk)]
        rw [List.map_cons, am_fi_hit (q := am_en4 ek x) ⟨hcov.1, hcov.2, hk⟩]
        rfl
      · obtain ⟨vm', hW', h'⟩ := am_search ek nm hown hpl hobj hcl t (S.setVm (S.vm.noted f.method.cls x.catchType (.cls c))) ht hwarm hS
        refine ⟨vm', hW', fun Q E d acts => ?_⟩
        rw [am_go_class hx h0 hcL' hS hobj hk1 hk2 hA, if_neg (by rw [hasg, decide_eq_false hk]; decide), h']
        rw [List.map_cons, am_fi_skip (q := am_en4 ek x) (fun z => hk z.2.2)]
        rfl
theorem am_step_catch {S : State} {r : List Frame} {pc : Nat} {vm' : Vm} {meth : Method} {code : Code} (hm : S.vm.method? f.method = some meth) (hc : meth.code = some code)
    (hf : ∀ (Q : Handler → Pre) (E : CtlPost) (d : Bool) (acts : List Action), wp (findHandler.go f a code.exceptionTable.toList) Q E e d acts S ↔ Q (.found pc) d acts (S.setVm vm')) :
    (stepThrowing e S a (.java f :: r)).Is ((S.setVm vm').setFrames (.java { f with pc := pc, stack := [.ref a] } :: r)) [] := by
  simp only [stepThrowing, searchFrame, vmDo]
  generalize hr : Sem.go _ e false [] S = res
  obtain ⟨as, rfl, ha⟩ := Sem.eq_ok_of hr (a := Handler.found pc) (s' := S.setVm vm') (acts' := []) (by simp [W.findHandler_eq hm hc, hf])
  exact ⟨rfl, ha⟩
end AMX
section AMX2
variable {tb : Tables} {e : Env} {s target : State} {g : JFrame} {c : Code} {below : List Frame} {a : Addr}
/-- into a handler of the method's own -/
theorem am_caught (h : At s g.method c below) {pc : Nat} {vm' : Vm} {meth : Method} {code : Code} (hm : s.vm.method? g.method = some meth) (hc : meth.code = some code)
    (hf : ∀ (Q : Handler → Pre) (E : CtlPost) (d : Bool) (acts : List Action), wp (findHandler.go g a code.exceptionTable.toList) Q E e d acts ((s.setTop g).pushFrame (.throwing a)) ↔ Q (.found pc) d acts (((s.setTop g).pushFrame (.throwing a)).setVm vm'))
    (hrest : Steps tb e below ((s.setVm vm').setTop { g with pc := pc, stack := [.ref a] }) target) :
    Steps tb e below ((s.setTop g).pushFrame (.throwing a)) target := by
  obtain ⟨hgo, hw⟩ := h.throwing a
  refine Steps.head hgo hw ?_
  rw [stepThread_throwing (frames_entered h.top _), (am_step_catch (S := (s.setTop g).pushFrame (.throwing a)) (meth := meth) (by simpa [State.pushFrame, State.setFrames] using hm) hc hf).1]
  obtain ⟨g₀, hg⟩ := Option.isSome_iff_exists.mp h.top
  obtain ⟨r, hr⟩ := State.topJava?_eq_some.mp hg
  have hr' : (s.setVm vm').frames = .java g₀ :: r := hr
  rw [State.setTop_of_frames _ hr'] at hrest
  rw [State.pushFrame, State.setTop_of_frames _ hr]
  have e1 : (((s.setFrames (.java g :: r)).setFrames (.throwing a :: (s.setFrames (.java g :: r)).frames)).setVm vm').setFrames (.java { g with pc := pc, stack := [.ref a] } :: s.frames.tail) = (s.setVm vm').setFrames (.java { g with pc := pc, stack := [.ref a] } :: r) := by
    rw [State.setFrames_setFrames]
    show ((s.setFrames _).setVm vm').setFrames _ = _
    rw [hr]
    show ((s.setVm vm').setFrames _).setFrames _ = _
    rw [State.setFrames_setFrames]
    rfl
  first
    | exact e1 ▸ hrest
    | (rw [e1]; exact hrest)
end AMX2
