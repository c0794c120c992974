/-! SOUND: the induction. -/
def am_ekf (n : Nat) : Nat := if n = 13 then 0 else if n = 15 then 1 else 2
def am_nmf (n : Nat) : String := am_exN.getD (am_ekf n) ""
def am_okH (j : Nat) : Bool := decide (am_hd j = (am_hx j).map fun q => (q.1, q.2.1, q.2.2.1, am_ekf q.2.2.2)) && ((am_hx j).all fun q => decide (am_w j = 8) && (decide (q.2.2.2 = 13) || (decide (q.2.2.2 = 15) || decide (q.2.2.2 = 21))))
theorem am_okH_all : ((List.range 137).all am_okH) = true := by decide +kernel
set_option maxRecDepth 100000 in
theorem am_hl1 : Cond.classLink "StableSaleLaw" 13 (am_nmf 13) ∈ lw_tbl := by decide +kernel
set_option maxRecDepth 100000 in
theorem am_hl2 : Cond.classLink "StableSaleLaw" 15 (am_nmf 15) ∈ lw_tbl := by decide +kernel
set_option maxRecDepth 100000 in
theorem am_hl3 : Cond.classLink "StableSaleLaw" 21 (am_nmf 21) ∈ lw_tbl := by decide +kernel
set_option maxRecDepth 100000 in
theorem am_hc1 : ∀ n ∈ am_exN, Cond.castable n n ∈ lw_tbl := by decide +kernel
theorem am_hx_ok {j : Nat} (h : j < 137) : am_hd j = (am_hx j).map (fun q => (q.1, q.2.1, q.2.2.1, am_ekf q.2.2.2)) ∧ ∀ q ∈ am_hx j, am_w j = 8 ∧ (q.2.2.2 = 13 ∨ q.2.2.2 = 15 ∨ q.2.2.2 = 21) := by
  have := List.all_eq_true.mp am_okH_all j (List.mem_range.mpr h)
  simp only [am_okH, Bool.and_eq_true, decide_eq_true_eq, List.all_eq_true, Bool.or_eq_true] at this
  exact this
section AMC2
variable {p : Program} {l : Launch} {e : Env} {R : Room} {s : State} {m : MethodId} {args : Array Value} {below : List Frame} {meth : Method} {c : Code} {H : Heap} {locs : List Loc} {cells slots n0 t0 : Nat} {D : va_G} {B : Nat} {ad : Nat → Nat} {ls : Array Slot}
set_option maxHeartbeats 4000000 in
theorem am_W_call {f : am_Fn} (hf : am_Sd f) (hmn : am_Mn f) {d j j2 pc len : Nat} {i : Instr} {lo : am_L} {st : List Value} {hp hp' : am_H} {o : am_R} (hC : am_CX p l s m meth c j D B ad) (hj : j < 137) (hlo : lo.length = am_mx j) (hRf : d + 2 ≤ R.frames) (hRl : 36 * d + 100 ≤ R.locals) (hH : am_HR D B ad s hp H) (hS : va_S (fun q => B ≤ q) s.heap H locs) (hL : am_LR ad lo ls) (hc0 : cells + n0 = hp.length) (hs0 : slots + t0 = am_tot hp) (hcb : hp'.length ≤ R.cells + n0) (hsb : am_tot hp' ≤ R.slots + t0)
    (hd : decode (am_by j) pc = .ok (i, len)) (hl : am_lk i len = true) (h2 : am_tg (am_w j) i = some j2) (h : am_cal f d j j2 i pc lo st hp = some (hp', o)) :
    W p l e R s m args below meth c H locs cells slots (am_MQ below (am_Qc D B ad hp' o s) s (hp'.length - n0) (am_tot hp' - t0) (fun q => B ≤ q)) (F0 m pc ls (st.map (am_tv ad))) := by
  obtain ⟨hx, hb, hml, hown, hret, hlk, hini, hex, hK, hN, hZ, hZ1, hZ2, hfl⟩ := id hC
  have hlen3 : len = 3 := by
    cases i <;> first | exact of_decide_eq_true hl | cases h2
  subst hlen3
  have hmt : (0 < j2 ∧ j2 < 137) := by
    cases i <;> first | exact (am_mt_ok h2).1 | cases h2
  obtain ⟨hj0, hj1⟩ := hmt
  obtain ⟨hcw, -, -, -, hiw, -, -, -, hmx14, -⟩ := am_m_ok hj0 hj1
  have hgw : goodWord (am_cw j2) = true := by unfold am_cw; split <;> rfl
  cases d with
  | zero => cases h
  | succ d2 =>
    simp only [am_cal] at h
    split at h
    · rename_i hcond
      obtain ⟨hna, hw8, hrc, hen⟩ := hcond
      generalize hvs : (st.take (am_na j2)).reverse = vs at h hrc hen
      generalize hrs : st.drop (am_na j2) = rest at h hw8
      have hst : st = vs.reverse ++ rest := by rw [← hvs, ← hrs, List.reverse_reverse, List.take_append_drop]
      have hvl : vs.length = am_na j2 := by rw [← hvs, List.length_reverse, List.length_take]; omega
      have hstack : (st.map (am_tv ad)) = (vs.map (am_tv ad)).reverse ++ rest.map (am_tv ad) := by rw [hst, List.map_append, List.map_reverse]
      cases h1 : f d2 j2 0 (am_en vs (am_mx j2)) [] hp with
      | none => rw [h1] at h; cases h
      | some r1 =>
        obtain ⟨hp1, o1⟩ := r1
        rw [h1] at h
        obtain ⟨l1, l2, lx⟩ := hmn _ _ _ _ _ _ _ _ h1
        have hmono : hp1.length ≤ hp'.length ∧ am_tot hp1 ≤ am_tot hp' := by
          cases o1 with
          | inl v => exact ⟨(hmn _ _ _ _ _ _ _ _ h).1, (hmn _ _ _ _ _ _ _ _ h).2.1⟩
          | inr x =>
            dsimp only at h
            split at h
            · exact ⟨(hmn _ _ _ _ _ _ _ _ h).1, (hmn _ _ _ _ _ _ _ _ h).2.1⟩
            · split at h
              · cases h; exact ⟨Nat.le_refl _, Nat.le_refl _⟩
              · cases h
        intro T hT X
        subst hT
        obtain ⟨vm₁, mk, X₁, hn₁, hstep⟩ := am_inv X hx hown hK h2 hrc hH (g := F0 m pc ls (st.map (am_tv ad))) rfl hstack hvl (by rw [hb]; exact hd)
        have hal : s.vm.Alike (T.setVm vm₁).vm := X₁.warmed.alike
        have hpre : am_Pre D B ad vs hp (vs.map (am_tv ad)).toArray (T.setVm vm₁) := ⟨rfl, hK.warm X₁.warmed, hN.moved hal, (hZ.kept hS.2.1).moved hal, (hZ1.kept hS.2.1).moved hal, (hZ2.kept hS.2.1).moved hal, hH.moved hal⟩
        obtain ⟨oc, t, U', L, X', e1, e2, ⟨hoc, hHR, hF⟩, hL', hret', hthr'⟩ := am_back (Wd := 8) (maxL := am_mx j2) (am_callee hf h1 hj0 hj1 hen hfl D B ad l1 l2) (am_Pre.blind D B ad vs hp) rfl rfl (by show d2 + 2 + 1 ≤ R.frames; omega) (by show 8 + (am_mx j2 + 11) + (36 * d2 + 100) ≤ R.locals; omega)
          (fun w hw a' U hW => by cases List.mem_singleton.mp hw; exact (hK.warm hW).1 _ hcw hgw a') (fun a' U hW => (hK.warm hW).1 _ hiw rfl a')
          (fun U mk' hW hn' => by
            obtain ⟨mk2, m2, c2, g1, g2, g3, -, g5, -⟩ := am_cw_spec ((hK.warm hW).1 _ hcw hgw #[])
            cases g1.symm.trans hn'
            exact ⟨m2, c2, g2, g3, g5⟩)
          X₁ (g := { (F0 m pc ls (st.map (am_tv ad))) with stack := rest.map (am_tv ad) }) (ig := i) (len := 3) (a := (vs.map (am_tv ad)).toArray) rfl (hL.1.trans (hlo.trans hml.symm)) (by rw [hb]; exact hd) (by show 2 * 0 + ((rest.map (am_tv ad)).map fun v => v.category).sum ≤ 8; rw [am_sum_cat]; omega) hn₁ (by omega) (by omega) hpre
        have halU : s.vm.Alike t.vm := by rw [← e2]; exact X'.warmed.alike
        have hHs : am_HR D B ad s hp1 t.heap := hHR.moved halU.symm
        have hSn : va_S (fun q => B ≤ q) s.heap t.heap (locs ++ L) := by
          have hz : T.heap.size ≤ t.heap.size := hF.1
          refine ⟨Nat.le_trans hS.1 hz, fun q g1 g2 => ?_, fun q hq => ?_⟩
          · have : t.heap[q]? = T.heap[q]? := hF.2 q (Nat.lt_of_lt_of_le g1 hS.1) g2
            exact this.trans (hS.2.1 q g1 g2)
          · rcases List.mem_append.mp hq with z | z
            · exact hS.2.2 q z
            · exact hL' q z
        cases o1 with
        | inl v =>
          have st2 := hret' _ hoc
          obtain ⟨t2, a1, b1⟩ := hf (d2 + 1) j (pc + 3) lo (v.toList ++ rest) hp1 hp' o h hC hj hlo hRf hRl hHs hSn hL (cells := cells + (hp1.length - hp.length)) (slots := slots + (am_tot hp1 - am_tot hp)) (n0 := n0) (t0 := t0) (by omega) (by omega) hcb hsb U' e1 X'
          refine ⟨t2, hstep _ (st2.trans ?_), b1⟩
          have hstk : (v.toList ++ rest).map (am_tv ad) = (v.map (am_tv ad)).toList ++ rest.map (am_tv ad) := by cases v <;> simp
          rw [hstk] at a1
          exact a1
        | inr x =>
          have st3 := hthr' _ hoc
          dsimp only at h
          obtain ⟨fs, hfs⟩ := lx x rfl
          cases hfi : am_fi (am_hd j) pc x.1 with
          | none =>
            rw [hfi] at h
            dsimp only at h
            split at h
            · rename_i hhd
              cases h
              have hhx : c.exceptionTable.toList = [] := by
                have h9 := (am_hx_ok hj).1
                rw [hhd] at h9
                have h10 := List.map_eq_nil_iff.mp h9.symm
                rw [h10] at hex
                exact List.map_eq_nil_iff.mp hex
              obtain ⟨k1, k2, k3, k4, k5⟩ := X'.leaveThrown (ad x.2) (g := { (F0 m pc ls (st.map (am_tv ad))) with stack := rest.map (am_tv ad) }) rfl rfl rfl (by rw [hhx]; exact fun y hy => by cases hy) hlk
              refine ⟨_, hstep _ (st3.trans k1), .threw (ad x.2), k2, k3, ⟨rfl, ?_, ?_⟩, locs ++ L, ⟨k4, ?_⟩, hSn.2.2⟩
              · have hh : (U'.setFrames (.throwing (ad x.2) :: below)).heap = t.heap := e1
                rw [hh]
                exact hHR.moved (by show t.vm.Alike U'.vm; rw [e2]; exact Vm.Alike.refl _)
              · have hh : (U'.setFrames (.throwing (ad x.2) :: below)).heap = t.heap := e1
                exact ⟨by rw [hh]; exact hSn.1, fun q g1 g2 => by rw [hh]; exact hSn.2.1 q g1 g2⟩
              · rw [show hp'.length - n0 = cells + (hp'.length - hp.length) by omega, show am_tot hp' - t0 = slots + (am_tot hp' - am_tot hp) by omega]
                exact k5
            · cases h
          | some hpc =>
            rw [hfi] at h
            dsimp only at h
            obtain ⟨hhd, hhx⟩ := am_hx_ok hj
            have hent : ∀ y ∈ c.exceptionTable.toList, am_w j = 8 ∧ (y.catchType = 13 ∨ y.catchType = 15 ∨ y.catchType = 21) := fun y hy => by
              have := hhx (y.startPc, y.endPc, y.handlerPc, y.catchType) (by rw [← hex]; exact List.mem_map.mpr ⟨y, hy, rfl⟩)
              exact this
            have hmap : c.exceptionTable.toList.map (am_en4 am_ekf) = am_hd j := by
              rw [hhd, ← hex, List.map_map]
              rfl
            have hcell : ∃ (cell : Cell) (n : String), t.heap[ad x.2]? = some cell ∧ cell.vm = .none ∧ am_exN[x.1]? = some n ∧ t.vm.findClass n = some cell.cls := by
              rcases hHR.2.2.2 _ _ hfs with ⟨z, -⟩ | ⟨z, -⟩ | ⟨-, cell, n, z1, z2, z3, z4⟩
              · dsimp only at z; omega
              · have := z.2; dsimp only at this; omega
              · dsimp only at z3
                rw [show 200 + x.1 - 200 = x.1 by omega] at z3
                exact ⟨cell, n, z1, z2, z3, z4⟩
            obtain ⟨cell, n, z1, z2, z3, z4⟩ := hcell
            have z4s : s.vm.findClass n = some cell.cls := by rw [← halU.findClass]; exact z4
            have hpl : e.platform.magicAccessors = ({} : Platform).magicAccessors := by rw [X.admits.platform]
            have hx3 : x.1 < 3 := (List.getElem?_eq_some_iff.mp z3).1
            obtain ⟨vm2, hW2, hsr⟩ := am_search (e := e) (f := { (F0 m pc ls (st.map (am_tv ad))) with stack := rest.map (am_tv ad) }) (a := ad x.2) (s := s) (args := args) (own := am_on (am_w j)) (cell := cell) (k := x.1) am_ekf am_nmf hown hpl (fun k z => by rw [z2] at z; cases z) (Vm.classAt_of_findClass z4s) c.exceptionTable.toList ((U'.setTop { (F0 m pc ls (st.map (am_tv ad))) with stack := rest.map (am_tv ad) }).pushFrame (.throwing (ad x.2)))
              (fun y hy => by
                obtain ⟨hw, hy3⟩ := hent y hy
                have hnm : ∃ k', k' < 3 ∧ am_ekf y.catchType = k' ∧ am_exN[k']? = some (am_nmf y.catchType) ∧ Cond.classLink "StableSaleLaw" y.catchType (am_nmf y.catchType) ∈ lw_tbl ∧ y.catchType ≠ 0 := by
                  rcases hy3 with z | z | z <;> rw [z]
                  · exact ⟨0, by decide, rfl, rfl, am_hl1, by decide⟩
                  · exact ⟨1, by decide, rfl, rfl, am_hl2, by decide⟩
                  · exact ⟨2, by decide, rfl, rfl, am_hl3, by decide⟩
                obtain ⟨k', hk3, hk', hkn, hkl, hk0⟩ := hnm
                refine ⟨hk0, by rw [hw]; exact hK.1 _ hkl rfl args, fun c9 hc9 => ?_⟩
                rw [hk']
                by_cases hkx : k' = x.1
                · subst hkx
                  cases hkn.symm.trans z3
                  obtain ⟨c3, c4, g1, g2, g3⟩ := Cond.castable_spec (hK.2.2.2.2 _ (am_hc1 _ (List.mem_of_getElem? z3)) rfl args)
                  cases g1.symm.trans z4s
                  cases g2.symm.trans hc9
                  rw [g3]
                  exact (decide_eq_true rfl).symm
                · obtain ⟨c3, c4, g1, g2, g3⟩ := hN x.1 k' n _ z3 hkn (fun q => hkx q.symm)
                  cases g1.symm.trans z4s
                  cases g2.symm.trans hc9
                  rw [g3]
                  exact (decide_eq_false hkx).symm) (by rw [Stand.throwing_vm]; exact X'.warmed) (by rw [Stand.throwing_heap, e1]; exact z1)
            rw [hmap] at hsr
            have hfi' : am_fi (am_hd j) ({ (F0 m pc ls (st.map (am_tv ad))) with stack := rest.map (am_tv ad) } : JFrame).pc x.1 = some hpc := hfi
            rw [hfi'] at hsr
            have X2 := X'.noted hW2
            obtain ⟨t2, a1, b1⟩ := hf (d2 + 1) j hpc lo [.ref x.2] hp1 hp' o h hC hj hlo hRf hRl hHs hSn hL (cells := cells + (hp1.length - hp.length)) (slots := slots + (am_tot hp1 - am_tot hp)) (n0 := n0) (t0 := t0) (by omega) (by omega) hcb hsb (U'.setVm vm2) e1 X2
            refine ⟨t2, hstep _ (st3.trans ?_), b1⟩
            exact am_caught (g := { (F0 m pc ls (st.map (am_tv ad))) with stack := rest.map (am_tv ad) }) (meth := meth) (code := c) X'.here X'.method' X'.code hsr a1
    · cases h
end AMC2
