/-! From a run of the law in the machine of my own to the run that the claim asks. -/
def am_sets : List Nat := [0, 1, 2, 4, 8, 3, 5, 6, 9, 10, 12, 7, 11, 13, 14, 15]
def am_hp0 (L : Nat) (xs : Nat → Int32) : am_H := [(100, (List.range L).map fun j => .int (xs j)), (100, am_sets.map fun n => .int (nI n))]
theorem am_hp0_tot (L : Nat) (xs : Nat → Int32) : am_tot (am_hp0 L xs) = L + 16 := by simp [am_hp0, am_tot, am_sets]
/-- what the pure part owes -/
def am_Law (L : Nat) (xs : Nat → Int32) : Prop := ∃ (n : Nat) (hp' : am_H), am_run n 9 0 0 (am_en [.ref 0] 7) [] (am_hp0 L xs) = some (hp', .inl (some (.int 1))) ∧ hp'.length ≤ 601026 ∧ am_tot hp' ≤ 7293034 + (L + 16)
theorem am_D_of {s : State} {args : Array Value} (hts : ∀ w ∈ lw_tbl, w.before args s = true) : ∃ D : va_G, va_K D am_cl [] s := by
  have h : ∀ c : Nat, ∃ y : ClassId × (Nat → Nat), ∀ q, am_cl[c]? = some q → u_Kn s q.1 q.2.1 q.2.2 y.1 y.2 := fun c => by
    cases hq : am_cl[c]? with
    | none => exact ⟨(0, fun _ => 0), fun q z => by cases z⟩
    | some q =>
      obtain ⟨-, h1, -, -, -, h2, -⟩ := am_cl_ok hq
      obtain ⟨cC, iS, h3⟩ := u_known hts (fun w hw => (h1 w hw).1) (hts _ h2)
      exact ⟨(cC, iS), fun q' z => by cases z; exact h3⟩
  exact ⟨(fun c => (h c).choose.1, fun c => (h c).choose.2), fun c q hq => (h c).choose_spec q hq, fun k q hk => by cases hk⟩
set_option maxRecDepth 100000 in
theorem am_in_ao : (∀ ci, ci = 1 ∨ ci = 2 ∨ ci = 3 → Cond.arrayOver (.object (am_on ci)) ∈ lw_tbl) ∧ Cond.arrayOver (.array .int) ∈ lw_tbl := by
  refine ⟨fun ci h => ?_, by decide +kernel⟩
  rcases h with rfl | rfl | rfl <;> decide +kernel
theorem am_K_of {s : State} {args : Array Value} {D : va_G} (hts : ∀ w ∈ lw_tbl, w.before args s = true) (hD : va_K D am_cl [] s) : am_K D s := by
  refine ⟨fun w hw hg a => ?_, fun w hw hn => ?_, ⟨fun ci hc => hts _ (am_in_ao.1 ci hc), hts _ am_in_ao.2⟩, hD, fun w hw hd a => ?_⟩
  · exact word_at (State.WarmedH.refl s) (good_of_word hg) (hts w hw)
  · exact va_Nw.of (by cases w <;> first | rfl | cases hn) (hts w hw)
  · exact va_tabs (by cases w <;> first | rfl | cases hd) rfl (hts w hw)
set_option maxRecDepth 100000 in
theorem am_in_st : Cond.laysStatic "StableSale" "SETS_IN_ORDER" "[I" ∈ lw_tbl ∧ Cond.initialized "StableSale" ∈ lw_tbl ∧ Cond.laysStatic Bundle.tN "UNASSIGNED_STACK" Bundle.steD ∈ lw_tbl ∧ Cond.laysStatic Bundle.tN "SUPPRESSED_SENTINEL" Bundle.listD ∈ lw_tbl := by
  refine ⟨?_, ?_, ?_, ?_⟩ <;> decide +kernel
theorem am_NC_of {s : State} {args : Array Value} (h : (Jvm.Cond.and given_1 narrow_1).before args s = true) : am_NC s := by
  have hs := flat_of_before _ h
  intro k k' n n' h1 h2 h3
  have e1 : k < 3 := (List.getElem?_eq_some_iff.mp h1).1
  have e2 : k' < 3 := (List.getElem?_eq_some_iff.mp h2).1
  have : (k = 0 ∨ k = 1 ∨ k = 2) ∧ (k' = 0 ∨ k' = 1 ∨ k' = 2) := by omega
  obtain ⟨z1, z2⟩ := this
  rcases z1 with rfl | rfl | rfl <;> rcases z2 with rfl | rfl | rfl <;> cases h1 <;> cases h2 <;> first | exact absurd rfl h3 | exact va_Nc.of (hs _ (by decide +kernel))
theorem am_Sc_of {s : State} {args : Array Value} {C n d : String} (hl : (Cond.laysStatic C n d).before args s = true) (h : (Cond.isRef (.static C n d)).before args s = true) : am_Sc C n d s.heap.size s s.heap := by
  obtain ⟨c, k, i, f, a, cell, hc, hi, hst, ha, hcell, hs, hcls, hlt, hty⟩ := Cond.laysStatic_spec hl
  cases hv : (Term.static C n d).eval args s none [] s with
  | none => simp [Cond.before, Cond.holds, Cond.value, hv] at h
  | some v =>
    obtain ⟨hst', a', cell', ha', hcell', -, hslot⟩ := Term.static_spec hi hv
    cases ha.symm.trans ha'
    cases hcell.symm.trans hcell'
    refine ⟨c, k, i, f, a, cell, v, hc, hi, hst, ha, hcell, hs, hcls, hlt, hty, hslot, ?_, (Array.getElem?_eq_some_iff.mp hcell).1⟩
    simp only [Cond.before, Cond.holds, Cond.value, hv] at h
    cases v <;> simp_all [Value.isRef]
theorem am_sets_of {s : State} {args : Array Value} (h : (Jvm.Cond.and given_1 narrow_1).before args s = true) : ∃ t : Nat, (Term.static "StableSale" "SETS_IN_ORDER" "[I").eval args s none [] s = some (.ref t) ∧ va_T .int t 16 (fun j => .int (nI (am_sets.getD j 0))) (fun q => s.heap.size ≤ q) s s.heap := by
  have hs := flat_of_before _ h
  refine va_Tof (by decide) (hs _ (by decide +kernel)) (va_eqt (hs _ (by decide +kernel))) (fun j hj => va_eqt (z := nI (am_sets.getD j 0)) (hs _ ?_)) (fun a ha => Nat.not_le.mpr ha)
  have : j = 0 ∨ j = 1 ∨ j = 2 ∨ j = 3 ∨ j = 4 ∨ j = 5 ∨ j = 6 ∨ j = 7 ∨ j = 8 ∨ j = 9 ∨ j = 10 ∨ j = 11 ∨ j = 12 ∨ j = 13 ∨ j = 14 ∨ j = 15 := by omega
  rcases this with z | z | z | z | z | z | z | z | z | z | z | z | z | z | z | z <;> subst z <;> decide +kernel
def am_ad (b t B : Nat) : Nat → Nat
  | 0 => b
  | 1 => t
  | k + 2 => B + k
theorem am_size32 {n m : Nat} (h : n = m) : n.toInt32 = Int32.ofNat m := by subst h; rfl
set_option maxHeartbeats 2000000 in
theorem am_start {p : Program} {e : Env} {s : State} {m : MethodId} {below : List Frame} {meth : Method} {c : Code} {l : Launch} {b L : Nat} {xs : Nat → Int32} (hfl : l.flags = flags0) (hx : p.tables.exec = Jvm.exec) (hb : c.code = code) (hr : meth.sig.returnType = ret) (hml : c.maxLocals = 7) (hown : s.vm.findClass "StableSaleLaw" = some m.cls) (hts : ∀ w ∈ lw_tbl, w.before #[Value.ref b] s = true) (hX : va_X b L xs s s.heap) (hbl : b < s.heap.size) (hlk : meth.locks = false) (hgv : (Jvm.Cond.and given_1 narrow_1).before #[Value.ref b] s = true) (hex : c.exceptionTable.toList = []) (hlaw : am_Law L xs) :
    W p l e room_1 s m #[Value.ref b] below meth c s.heap [] 0 0 (fun t => ∃ o, t.status = .running ∧ Ended t below o ∧ (o = .returned (some (.int 1)) ∧ Framed s o t [] 601024 7293034)) (entryFrame m ([Value.ref b] : List Value).toArray 7) := by
  obtain ⟨n, hp', hrun, hc, hsl⟩ := hlaw
  obtain ⟨D, hD⟩ := am_D_of hts
  obtain ⟨t, ht, hT⟩ := am_sets_of hgv
  obtain ⟨cellT, t1, t2, t3, t4, t5, t6, -⟩ := hT
  obtain ⟨scr, s1, s2, s3, s4, s5⟩ := hX
  have htl : t < s.heap.size := (Array.getElem?_eq_some_iff.mp t1).1
  have hgf := flat_of_before _ hgv
  have hA : ∀ a : Nat, a < s.heap.size → ¬ s.heap.size ≤ a := fun a ha => Nat.not_le.mpr ha
  have hCX : am_CX p l s m meth c 0 D s.heap.size (am_ad b t s.heap.size) := by
    refine ⟨hx, hb, hml, hown, hr, hlk, (fun z => absurd z (by decide)), ?_, am_K_of hts hD, am_NC_of hgv, ?_, ?_, ?_, hfl⟩
    · rw [hex]; rfl
    · exact va_Zof (hts _ am_in_st.1) (hts _ am_in_st.2.1) ht hA
    · exact am_Sc_of (hts _ am_in_st.2.2.1) (hgf _ (by decide +kernel))
    · exact am_Sc_of (hts _ am_in_st.2.2.2) (hgf _ (by decide +kernel))
  have hHR : am_HR D s.heap.size (am_ad b t s.heap.size) s (am_hp0 L xs) s.heap := by
    refine ⟨⟨hbl, htl, fun k => rfl⟩, (by show 2 ≤ 2; omega), by show s.heap.size + 2 = s.heap.size + 2; rfl, fun a cc ha => ?_⟩
    have ha2 : a < 2 := (List.getElem?_eq_some_iff.mp ha).1
    have : a = 0 ∨ a = 1 := by omega
    rcases this with rfl | rfl
    · cases ha
      refine Or.inr (Or.inl ⟨⟨by show 100 ≤ 100; omega, by show 100 < 200; omega⟩, scr, s1, s2, s3, fun z => ?_, ?_, ?_, fun j v hj => ?_⟩)
      · have z' : 110 ≤ 100 := z
        omega
      · simp [s4]
      · exact am_size32 (by simp [s4])
      · rw [List.getElem?_map] at hj
        by_cases hjL : j < L
        · rw [List.getElem?_range hjL] at hj
          cases hj
          exact s5 j hjL
        · rw [List.getElem?_eq_none (by simp; omega)] at hj
          cases hj
    · cases ha
      refine Or.inr (Or.inl ⟨⟨by show 100 ≤ 100; omega, by show 100 < 200; omega⟩, cellT, t1, t2, t3, fun z => ?_, t4, t5, fun j v hj => ?_⟩)
      · have z' : 110 ≤ 100 := z
        omega
      · have hj16 : j < 16 := (List.getElem?_eq_some_iff.mp hj).1
        rw [t6 j hj16]
        have : j = 0 ∨ j = 1 ∨ j = 2 ∨ j = 3 ∨ j = 4 ∨ j = 5 ∨ j = 6 ∨ j = 7 ∨ j = 8 ∨ j = 9 ∨ j = 10 ∨ j = 11 ∨ j = 12 ∨ j = 13 ∨ j = 14 ∨ j = 15 := by omega
        rcases this with z | z | z | z | z | z | z | z | z | z | z | z | z | z | z | z <;> subst z <;> cases hj <;> rfl
  have hl0 : (am_en [Value.ref 0] 7).length = am_mx 0 := rfl
  have hm := am_Sd_run n 9 0 0 _ [] _ hp' _ hrun (R := room_1) (e := e) (args := #[Value.ref b]) (below := below) (locs := []) (cells := 0) (slots := 0) (n0 := 2) (t0 := L + 16) hCX (by decide) hl0 (by show 11 ≤ 11; omega) (by show 424 ≤ 432; omega) hHR va_S.rf (am_LR_entry _ hl0) rfl (by rw [am_hp0_tot]; omega) (by show hp'.length ≤ 601024 + 2; omega) (by show am_tot hp' ≤ 7293034 + (L + 16); omega)
  rw [lg_entry_eq]
  refine am_W_mono hm (fun t' ht' => ?_)
  obtain ⟨o, k1, k2, ⟨k3, k4, k5⟩, Lc, ⟨k6, k7⟩, k8⟩ := ht'
  refine ⟨o, k1, k2, k3, ⟨_, k3⟩, k6, k7.weaken (fun x hx hlt => absurd hlt (Nat.not_lt.mpr (k8 x hx))) (by omega) (by omega)⟩
