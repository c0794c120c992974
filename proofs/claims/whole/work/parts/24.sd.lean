/-! SOUND, by induction: calls, returns, throws, all else. -/
def am_Pre (D : va_G) (B : Nat) (ad : Nat → Nat) (vs : List Value) (hp : am_H) (a : Array Value) (U : State) : Prop := a = (vs.map (am_tv ad)).toArray ∧ am_K D U ∧ am_NC U ∧ va_Z "StableSale" "SETS_IN_ORDER" "[I" (.ref (ad 1)) (fun q => B ≤ q) U U.heap ∧ am_Sc Bundle.tN "UNASSIGNED_STACK" Bundle.steD B U U.heap ∧ am_Sc Bundle.tN "SUPPRESSED_SENTINEL" Bundle.listD B U U.heap ∧ am_HR D B ad U hp U.heap
def am_rm (d mc ms : Nat) : Room := { frames := d + 2, cells := mc, slots := ms, locals := 36 * d + 100 }
theorem am_callee {f : am_Fn} (hf : am_Sd f) {d2 j2 : Nat} {vs : List Value} {hp hp1 : am_H} {o1 : am_R} (hr : f d2 j2 0 (am_en vs (am_mx j2)) [] hp = some (hp1, o1)) (h0 : 0 < j2) (h1 : j2 < 137) (hen : (am_en vs (am_mx j2)).length = am_mx j2) {l : Launch} (hfl : l.flags = flags0) (D : va_G) (B : Nat) (ad : Nat → Nat) (hl1 : hp.length ≤ hp1.length) (hl2 : am_tot hp ≤ am_tot hp1) :
    am_Met l (am_y j2) [am_cw j2] (am_rm d2 (hp1.length - hp.length) (am_tot hp1 - am_tot hp)) (am_Pre D B ad vs hp) (fun _ st oc t => am_Qc D B ad hp1 o1 st oc t) (hp1.length - hp.length) (am_tot hp1 - am_tot hp) (fun q => B ≤ q) := by
  obtain ⟨-, -, -, -, -, hpf, -, -, -, hon, hini, -⟩ := am_m_ok h0 h1
  refine am_Met.ofW (cc := am_by j2) (maxL := am_mx j2) (ret := am_rt j2) hpf ?_ ?_
  · unfold am_cw
    split
    · exact Or.inl List.mem_cons_self
    · exact Or.inr ⟨_, List.mem_cons_self⟩
  · intro p e s m args below meth c s₁ Bd hml hv
    obtain ⟨rfl, hK, hN, hZ, hZ1, hZ2, hH⟩ := hv
    have hpre := atoms_spec (ws := [am_cw j2]) Bd.pre _ List.mem_cons_self
    obtain ⟨mk, methM, cM, hn, hm, hc, hby, hmx, hrt, hlk, -, hex⟩ := am_cw_spec hpre
    cases hn.symm.trans Bd.named
    cases hm.symm.trans Bd.method
    have hcc := (Stand.of_body Bd).code
    cases hc.symm.trans hcc
    have hown : s.vm.findClass (am_on (am_w j2)) = some m.cls := by rw [hon]; exact findClass_of_methodNamed Bd.named
    have hnm : am_ini j2 = true → meth.name = "<init>" := fun z => by rw [(name_of_methodNamed Bd.named Bd.method).1]; exact (hini z).1
    rw [lg_entry_eq]
    exact hf d2 j2 0 _ [] hp hp1 o1 hr (R := am_rm d2 (hp1.length - hp.length) (am_tot hp1 - am_tot hp)) (n0 := hp.length) (t0 := am_tot hp) (cells := 0) (slots := 0) ⟨Bd.exec, Bd.bytes, hml, hown, hrt, hlk, hnm, hex, hK, hN, hZ, hZ1, hZ2, hfl⟩ h1 hen (Nat.le_refl _) (Nat.le_refl _) hH va_S.rf (am_LR_entry ad hen) (by omega) (by omega) (by show hp1.length ≤ hp1.length - hp.length + hp.length; omega) (by show am_tot hp1 ≤ am_tot hp1 - am_tot hp + am_tot hp; omega)
theorem am_Pre.blind (D : va_G) (B : Nat) (ad : Nat → Nat) (vs : List Value) (hp : am_H) : FrameBlind (am_Pre D B ad vs hp) := by
  intro a U g mk h
  obtain ⟨h1, h2, h3, h4, h5, h6, h7⟩ := h
  exact ⟨h1, h2.same (U := U.calling g mk a) rfl, h3.moved (U := U.calling g mk a) (Vm.Alike.refl U.vm), h4.moved (U := U.calling g mk a) (Vm.Alike.refl U.vm), h5.moved (U := U.calling g mk a) (Vm.Alike.refl U.vm), h6.moved (U := U.calling g mk a) (Vm.Alike.refl U.vm), h7.moved (U := U.calling g mk a) (Vm.Alike.refl U.vm)⟩
/-- returns -/
theorem am_W_ret {p : Program} {l : Launch} {e : Env} {R : Room} {s : State} {m : MethodId} {args : Array Value} {below : List Frame} {meth : Method} {c : Code} {H : Heap} {locs : List Loc} {cells slots : Nat} {D : va_G} {B : Nat} {ad : Nat → Nat} {hp : am_H} {cc : ByteArray} {pc len : Nat} {ls : Array Slot} {i : Instr} {st : List Value} {v : Option Value} {ret : Option FieldType}
    (hx : p.tables.exec = Jvm.exec) (hb : c.code = cc) (hr : meth.sig.returnType = ret) (hlk : meth.locks = false) (hH : am_HR D B ad s hp H) (hS : va_S (fun q => B ≤ q) s.heap H locs) (hd : decode cc pc = .ok (i, len)) (hl : am_lk i len = true) (h : am_re ret i st = some v) :
    W p l e R s m args below meth c H locs cells slots (am_MQ below (am_Qc D B ad hp (.inl v) s) s cells slots (fun q => B ≤ q)) (F0 m pc ls (st.map (am_tv ad))) := by
  have hq : ∀ t : State, t.heap = H → s.WarmedH t.vm → am_Qc D B ad hp (.inl v) s (.returned (v.map (am_tv ad))) t := fun t ht hW => ⟨rfl, by rw [ht]; exact hH.moved hW.alike, hS.F ht⟩
  cases i
  case ireturn =>
    obtain rfl : len = 1 := of_decide_eq_true hl
    simp only [am_re] at h
    split at h
    · rename_i x
      split at h
      · rename_i hc
        cases h
        rcases hc with rfl | ⟨rfl, hz⟩
        · exact am_W_mono (W.iret (Qc := fun _ => am_Qc D B ad hp (.inl (some (.int x)))) (free := fun q => B ≤ q) hx hb hr hq hS.2.2 hd hlk) (fun t ht => am_MQ_of ht)
        · exact am_W_mono (W.zret (Qc := fun _ => am_Qc D B ad hp (.inl (some (.int x)))) (free := fun q => B ≤ q) hx hb hr (am_bz x hz) hq hS.2.2 hd hlk) (fun t ht => am_MQ_of ht)
      · cases h
    · cases h
  case lreturn =>
    obtain rfl : len = 1 := of_decide_eq_true hl
    simp only [am_re] at h
    split at h
    · rename_i x
      split at h
      · rename_i hc
        cases h
        subst hc
        exact am_W_mono (W.lret (Qc := fun _ => am_Qc D B ad hp (.inl (some (.long x)))) (free := fun q => B ≤ q) hx hb hr hq hS.2.2 hd hlk) (fun t ht => am_MQ_of ht)
      · cases h
    · cases h
  case areturn =>
    obtain rfl : len = 1 := of_decide_eq_true hl
    simp only [am_re] at h
    split at h
    · rename_i x
      split at h
      · rename_i hc
        cases h
        subst hc
        exact am_W_mono (W.aret (Qc := fun _ => am_Qc D B ad hp (.inl (some (.ref x)))) (free := fun q => B ≤ q) (v := .ref (ad x)) hx hb hr (Or.inr ⟨_, rfl⟩) (Or.inr ⟨_, rfl⟩) hq hS.2.2 hd hlk) (fun t ht => am_MQ_of ht)
      · cases h
    · cases h
  case return_ =>
    obtain rfl : len = 1 := of_decide_eq_true hl
    simp only [am_re] at h
    split at h
    · split at h
      · rename_i hc
        cases h
        subst hc
        exact am_W_mono (W.vret (Qc := fun _ => am_Qc D B ad hp (.inl none)) (free := fun q => B ≤ q) hx hb hr hq hS.2.2 hd hlk) (fun t ht => am_MQ_of ht)
      · cases h
    · cases h
  all_goals (simp [am_re] at h)
