/-! SOUND: what the abstract machine computes, the machine does. -/
def am_NC (U : State) : Prop := ∀ (k k' : Nat) (n n' : String), am_exN[k]? = some n → am_exN[k']? = some n' → k ≠ k' → va_Nc n n' U
theorem am_NC.moved {u U : State} (hvm : u.vm.Alike U.vm) (h : am_NC u) : am_NC U := fun k k' n n' h1 h2 h3 => va_Nc.moved hvm (h k k' n n' h1 h2 h3)
/-- what a run of a method's body stands on -/
def am_CX (p : Program) (l : Launch) (s : State) (m : MethodId) (meth : Method) (c : Code) (j : Nat) (D : va_G) (B : Nat) (ad : Nat → Nat) : Prop :=
  p.tables.exec = Jvm.exec ∧ c.code = am_by j ∧ c.maxLocals = am_mx j ∧ s.vm.findClass (am_on (am_w j)) = some m.cls ∧ meth.sig.returnType = am_rt j ∧ meth.locks = false ∧ (am_ini j = true → meth.name = "<init>") ∧ c.exceptionTable.toList.map (fun h => (h.startPc, h.endPc, h.handlerPc, h.catchType)) = am_hx j ∧ am_K D s ∧ am_NC s ∧
  va_Z "StableSale" "SETS_IN_ORDER" "[I" (.ref (ad 1)) (fun q => B ≤ q) s s.heap ∧ am_Sc Bundle.tN "UNASSIGNED_STACK" Bundle.steD B s s.heap ∧ am_Sc Bundle.tN "SUPPRESSED_SENTINEL" Bundle.listD B s s.heap ∧ l.flags = flags0
def am_Sd (f : am_Fn) : Prop := ∀ (d j pc : Nat) (lo : am_L) (st : List Value) (hp hp' : am_H) (o : am_R), f d j pc lo st hp = some (hp', o) →
  ∀ {p : Program} {l : Launch} {e : Env} {R : Room} {s : State} {m : MethodId} {args : Array Value} {below : List Frame} {meth : Method} {c : Code} {H : Heap} {locs : List Loc} {cells slots n0 t0 : Nat} {D : va_G} {B : Nat} {ad : Nat → Nat} {ls : Array Slot},
    am_CX p l s m meth c j D B ad → j < 137 → lo.length = am_mx j → d + 2 ≤ R.frames → 36 * d + 100 ≤ R.locals → am_HR D B ad s hp H → va_S (fun q => B ≤ q) s.heap H locs → am_LR ad lo ls → cells + n0 = hp.length → slots + t0 = am_tot hp → hp'.length ≤ R.cells + n0 → am_tot hp' ≤ R.slots + t0 →
      W p l e R s m args below meth c H locs cells slots (am_MQ below (am_Qc D B ad hp' o s) s (hp'.length - n0) (am_tot hp' - t0) (fun q => B ≤ q)) (F0 m pc ls (st.map (am_tv ad)))
theorem am_pl_len {w pc : Nat} {i : Instr} {lo : am_L} {st : List Value} {q : Nat × am_L × List Value} (h : am_pl w i pc lo st = some q) : q.2.1.length = lo.length := by
  cases i
  case istore k => obtain ⟨lo', st', h1, rfl⟩ := am_q_inv h; obtain ⟨x, rfl, h2⟩ := am_sti_inv h1; exact (am_s1_len h2).2.symm
  case istore_n k => obtain ⟨lo', st', h1, rfl⟩ := am_q_inv h; obtain ⟨x, rfl, h2⟩ := am_sti_inv h1; exact (am_s1_len h2).2.symm
  case astore k => obtain ⟨lo', st', h1, rfl⟩ := am_q_inv h; obtain ⟨x, rfl, h2⟩ := am_sta_inv h1; exact (am_s1_len h2).2.symm
  case astore_n k => obtain ⟨lo', st', h1, rfl⟩ := am_q_inv h; obtain ⟨x, rfl, h2⟩ := am_sta_inv h1; exact (am_s1_len h2).2.symm
  case lstore k => obtain ⟨lo', st', h1, rfl⟩ := am_q_inv h; obtain ⟨x, rfl, h2⟩ := am_stl_inv h1; exact (am_s2_len h2).2.symm
  case lstore_n k => obtain ⟨lo', st', h1, rfl⟩ := am_q_inv h; obtain ⟨x, rfl, h2⟩ := am_stl_inv h1; exact (am_s2_len h2).2.symm
  case iinc k n =>
    simp only [am_pl] at h
    obtain ⟨lo', h1, rfl⟩ := Option.map_eq_some_iff.mp h
    obtain ⟨x, -, h3⟩ := am_inc_inv h1
    exact (am_s1_len h3).2.symm
  all_goals first
    | (obtain ⟨st', h1, rfl⟩ := am_p_inv h; rfl)
    | (simp only [am_pl] at h; obtain ⟨v, -, rfl⟩ := Option.map_eq_some_iff.mp h; rfl)
    | (simp only [am_pl] at h; (repeat' split at h) <;> first | (cases h; rfl) | (cases h; done))
theorem am_jp_len {pc len : Nat} {i : Instr} {lo : am_L} {st : List Value} {q : Nat × am_L × List Value} (h : am_jp i pc len lo st = some q) : q.2.1 = lo := by
  cases i <;> simp only [am_jp] at h <;> (repeat' split at h) <;> first | (cases h; rfl) | (cases h; done)
theorem am_hs_len {j w pc : Nat} {i : Instr} {lo : am_L} {st : List Value} {hp : am_H} {q : Nat × am_L × List Value × am_H} (h : am_hs j w i pc lo st hp = some q) : q.2.1 = lo := by
  cases i <;> simp only [am_hs, am_ald, am_ast] at h <;> (repeat' split at h) <;> first
    | (cases h; rfl)
    | (cases h; done)
    | (obtain ⟨v, -, rfl⟩ := Option.map_eq_some_iff.mp h; rfl)
