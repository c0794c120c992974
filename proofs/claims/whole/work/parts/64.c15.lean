/-! The class's sale: payMosts, shareRest (rows by prog/c15.py). -/
theorem c_nm1 {c : Nat} (h : c < 2 ^ 31) : am_c2 .ne (nI c) (am_ic (-1)) = true := by
  refine decide_eq_true (fun q => ?_)
  have h1 := nI_toInt h
  rw [q] at h1
  have h2 : (am_ic (-1)).toInt = -1 := by decide
  rw [h2] at h1
  omega
section C15
variable {d : Nat} {hp : am_H}
theorem c_payMosts {am : Nat} (hO : hp[212]? = some (6, [.ref 213, .ref 216, .ref 233, .ref 234, .ref 235, .ref 236, .ref 237, .int (nI am)])) {W : Nat → Nat} (h5 : hp[235]? = some (100, am_ia (fun c => nI (W c)) 5)) (hW : ∀ c, c < 5 → W c ≤ 20000000) {M : Nat → Nat} (h6 : hp[236]? = some (101, am_la (fun c => lN (M c)) 5)) (hM : ∀ c, c < 5 → M c ≤ 18000000000) {Lf : Nat} (hL : Lf ≤ 2000000000) {e : Nat} (he : e < 16) {D : Nat → Nat} (hD : hp[217 + 1 * e]? = some (100, am_ia (fun c => nI (D c)) 6))  : am_Rq (d + 2) 76 0 (am_en [.ref 212, .long (lN Lf), .ref (217 + 1 * e)] 8) [] hp (am_Ret fun hp1 v => v = some (.long (lN (dv_cp M 5 Lf W D).1)) ∧ hp1[235]? = some (100, am_ia (fun c => nI ((dv_cp M 5 Lf W D).2.1 c)) 5) ∧ hp1[217 + 1 * e]? = some (100, am_ia (fun c => nI ((dv_cp M 5 Lf W D).2.2 c)) 6) ∧ am_fr (fun x => x = 235 ∨ x = 217 + 1 * e) hp hp1) := by
  show am_Rq _ 76 0 [some (.ref 212), some (.long (lN Lf)), none, some (.ref (217 + 1 * e)), none, none, none, none] [] _ _
  refine am_Rq.blk (is := [(.lload_n 1, 1), (.lstore 4, 2), (.iconst 0, 1), (.istore 6, 2)]) (q := (6, [some (.ref 212), some (.long (lN Lf)), none, some (.ref (217 + 1 * e)), some (.long (lN Lf)), none, some (.int (nI 0)), none], [])) (by decide +kernel) rfl ?_
  dsimp only
  have key : ∀ hz, hz = hp → am_Rq (d + 2) 76 6 [some (.ref 212), some (.long (lN Lf)), none, some (.ref (217 + 1 * e)), some (.long (lN Lf)), none, some (.int (nI 0)), none] [] hz (am_Ret fun hp1 v => v = some (.long (lN (dv_cp M 5 Lf W D).1)) ∧ hp1[235]? = some (100, am_ia (fun c => nI ((dv_cp M 5 Lf W D).2.1 c)) 5) ∧ hp1[217 + 1 * e]? = some (100, am_ia (fun c => nI ((dv_cp M 5 Lf W D).2.2 c)) 6) ∧ am_fr (fun x => x = 235 ∨ x = 217 + 1 * e) hp hp1) := ?_
  · exact key hp rfl
  intro hz hze
  subst hze
  refine am_for (n := 5) (fun i lo hp => ∃ z7 : Option Value, ∃ (L1 : Nat) (W1 D1 : Nat → Nat), lo = [some (.ref 212), some (.long (lN Lf)), none, some (.ref (217 + 1 * e)), some (.long (lN L1)), none, some (.int (nI i)), z7] ∧ dv_cp M (5 - i) L1 W1 D1 = dv_cp M 5 Lf W D ∧ L1 ≤ Lf ∧ (∀ c, c < 5 → W1 c ≤ 20000000) ∧ hp[235]? = some (100, am_ia (fun c => nI (W1 c)) 5) ∧ hp[217 + 1 * e]? = some (100, am_ia (fun c => nI (D1 c)) 6) ∧ hp[212]? = some (6, [.ref 213, .ref 216, .ref 233, .ref 234, .ref 235, .ref 236, .ref 237, .int (nI am)]) ∧ hp[236]? = some (101, am_la (fun c => lN (M c)) 5) ∧ am_fr (fun x => x = 235 ∨ x = 217 + 1 * e) hz hp) ?_ ?_ (i := 0) (by omega) ⟨_, Lf, W, D, rfl, rfl, Nat.le_refl _, hW, h5, hD, hO, h6, am_fr.rf⟩
  · rintro i lo hp hi ⟨z7, L1, W1, D1, rfl, hcp, hL1, hW1, h5, hD, hO, h6, hf0⟩ ih
    refine am_Rq.blk (is := [(.iload 6, 2), (.iconst 5, 1)]) (q := (9, [some (.ref 212), some (.long (lN Lf)), none, some (.ref (217 + 1 * e)), some (.long (lN L1)), none, some (.int (nI i)), z7], [.int (nI 5), .int (nI i)])) (by decide +kernel) rfl ?_
    dsimp only
    refine am_Rq.if2F (show decode (am_by 76) 9 = .ok (.if_icmp .ge 61, 3) by decide +kernel) (by decide) (by rw [nm_ge (by omega) (by omega)]; exact decide_eq_false (by omega)) ?_
    refine am_Rq.blk (is := [(.aload_n 0, 1), (.lload 4, 2)]) (q := (15, [some (.ref 212), some (.long (lN Lf)), none, some (.ref (217 + 1 * e)), some (.long (lN L1)), none, some (.int (nI i)), z7], [.long (lN L1), .ref 212])) (by decide +kernel) rfl ?_
    dsimp only
    refine am_Rq.callV (show decode (am_by 76) 15 = .ok (.invokevirtual 132, 3) by decide +kernel) rfl [.long (lN L1)] [] rfl rfl (Nat.le_of_ble_eq_true rfl) rfl hO rfl (c_firstAbove hO h5 hW1 h6 hM (by omega)) ?_
    rintro hq _ ⟨e1, rfl⟩
    rw [e1]
    clear e1 hq
    show am_Rq _ 76 18 [some (.ref 212), some (.long (lN Lf)), none, some (.ref (217 + 1 * e)), some (.long (lN L1)), none, some (.int (nI i)), z7] [.int (if dv_f (dv_up M W1 L1) 5 < 5 then nI (dv_f (dv_up M W1 L1) 5) else am_ic (-1))] _ _
    by_cases hc : dv_f (dv_up M W1 L1) 5 < 5
    ·
      rw [if_pos hc]
      have hup := dv_f_spec hc
      generalize hfe : dv_f (dv_up M W1 L1) 5 = c at hc hup ⊢
      show am_Rq _ 76 18 [some (.ref 212), some (.long (lN Lf)), none, some (.ref (217 + 1 * e)), some (.long (lN L1)), none, some (.int (nI i)), z7] [.int (nI c)] _ _
      have hu := dv_up_le hc hup
      have m1 := hM c hc
      refine am_Rq.blk (is := [(.istore 7, 2), (.iload 7, 2), (.iconst (-1), 1)]) (q := (23, [some (.ref 212), some (.long (lN Lf)), none, some (.ref (217 + 1 * e)), some (.long (lN L1)), none, some (.int (nI i)), some (.int (nI c))], [.int (am_ic (-1)), .int (nI c)])) (by decide +kernel) rfl ?_
      dsimp only
      refine am_Rq.if2T (t := 29) (show decode (am_by 76) 23 = .ok (.if_icmp .ne 6, 3) by decide +kernel) (by decide) (c_nm1 (by omega)) ?_
      refine am_Rq.blk (is := [(.aload_n 3, 1), (.iload 7, 2), (.dup2, 1)]) (q := (33, [some (.ref 212), some (.long (lN Lf)), none, some (.ref (217 + 1 * e)), some (.long (lN L1)), none, some (.int (nI i)), some (.int (nI c))], [.int (nI c), .ref (217 + 1 * e), .int (nI c), .ref (217 + 1 * e)])) (by decide +kernel) rfl ?_
      dsimp only
      refine am_Rq.ial (k := c) (show decode (am_by 76) 33 = .ok (.iaload, 1) by decide +kernel) hD (by omega) (by omega) ?_
      refine am_Rq.blk (is := [(.aload_n 0, 1)]) (q := (35, [some (.ref 212), some (.long (lN Lf)), none, some (.ref (217 + 1 * e)), some (.long (lN L1)), none, some (.int (nI i)), some (.int (nI c))], [.ref 212, .int (nI (D1 c)), .int (nI c), .ref (217 + 1 * e)])) (by decide +kernel) rfl ?_
      dsimp only
      refine am_Rq.getf (v := .ref 236) (show decode (am_by 76) 35 = .ok (.getfield 34, 3) by decide +kernel) rfl hO rfl ?_
      refine am_Rq.blk (is := [(.iload 7, 2)]) (q := (40, [some (.ref 212), some (.long (lN Lf)), none, some (.ref (217 + 1 * e)), some (.long (lN L1)), none, some (.int (nI i)), some (.int (nI c))], [.int (nI c), .ref 236, .int (nI (D1 c)), .int (nI c), .ref (217 + 1 * e)])) (by decide +kernel) rfl ?_
      dsimp only
      refine am_Rq.lal (k := c) (show decode (am_by 76) 40 = .ok (.laload, 1) by decide +kernel) h6 (by omega) (by omega) ?_
      refine am_Rq.blk (is := [(.l2i, 1)]) (q := (42, [some (.ref 212), some (.long (lN Lf)), none, some (.ref (217 + 1 * e)), some (.long (lN L1)), none, some (.int (nI i)), some (.int (nI c))], [.int ((lN (M c)).toInt32), .int (nI (D1 c)), .int (nI c), .ref (217 + 1 * e)])) (by decide +kernel) rfl ?_
      dsimp only
      rw [show (lN (M c)).toInt32 = nI (M c) from nm_i _]
      refine am_Rq.blk (is := [(.iadd, 1)]) (q := (43, [some (.ref 212), some (.long (lN Lf)), none, some (.ref (217 + 1 * e)), some (.long (lN L1)), none, some (.int (nI i)), some (.int (nI c))], [.int ((nI (D1 c)) + (nI (M c))), .int (nI c), .ref (217 + 1 * e)])) (by decide +kernel) rfl ?_
      dsimp only
      rw [show (nI (D1 c)) + (nI (M c)) = nI ((D1 c) + (M c)) from nI_add _ _]
      refine am_Rq.nas (s := D1) (k := c) (v := (D1 c) + (M c)) (show decode (am_by 76) 43 = .ok (.iastore, 1) by decide +kernel) hD (by omega) (by omega) (by omega) ?_
      have hc1_212 := (am_sn (c' := (100, (am_ia (fun j9 => nI ((va_up D1 (c) ((D1 c) + (M c))) j9)) 6))) (show 217 + 1 * e ≠ 212 by omega)).trans hO
      have hc1_235 := (am_sn (c' := (100, (am_ia (fun j9 => nI ((va_up D1 (c) ((D1 c) + (M c))) j9)) 6))) (show 217 + 1 * e ≠ 235 by omega)).trans h5
      have hc1_236 := (am_sn (c' := (100, (am_ia (fun j9 => nI ((va_up D1 (c) ((D1 c) + (M c))) j9)) 6))) (show 217 + 1 * e ≠ 236 by omega)).trans h6
      have hc1_2171e := am_ss (c' := (100, (am_ia (fun j9 => nI ((va_up D1 (c) ((D1 c) + (M c))) j9)) 6))) hD
      have hf1 := (am_fr.rf (A := fun q => q = 217 + 1 * e)).set (c' := (100, (am_ia (fun j9 => nI ((va_up D1 (c) ((D1 c) + (M c))) j9)) 6))) rfl hD (by simp [am_ia_len, am_la_len])
      generalize hze1 : (List.set _ (217 + 1 * e) _ : am_H) = hz1 at hf1 hc1_212 hc1_235 hc1_236 hc1_2171e ⊢
      clear hze1
      refine am_Rq.blk (is := [(.lload 4, 2), (.aload_n 0, 1)]) (q := (47, [some (.ref 212), some (.long (lN Lf)), none, some (.ref (217 + 1 * e)), some (.long (lN L1)), none, some (.int (nI i)), some (.int (nI c))], [.ref 212, .long (lN L1)])) (by decide +kernel) rfl ?_
      dsimp only
      refine am_Rq.getf (v := .ref 236) (show decode (am_by 76) 47 = .ok (.getfield 34, 3) by decide +kernel) rfl hc1_212 rfl ?_
      refine am_Rq.blk (is := [(.iload 7, 2)]) (q := (52, [some (.ref 212), some (.long (lN Lf)), none, some (.ref (217 + 1 * e)), some (.long (lN L1)), none, some (.int (nI i)), some (.int (nI c))], [.int (nI c), .ref 236, .long (lN L1)])) (by decide +kernel) rfl ?_
      dsimp only
      refine am_Rq.lal (k := c) (show decode (am_by 76) 52 = .ok (.laload, 1) by decide +kernel) hc1_236 (by omega) (by omega) ?_
      refine am_Rq.blk (is := [(.lsub, 1)]) (q := (54, [some (.ref 212), some (.long (lN Lf)), none, some (.ref (217 + 1 * e)), some (.long (lN L1)), none, some (.int (nI i)), some (.int (nI c))], [.long ((lN L1) - (lN (M c)))])) (by decide +kernel) rfl ?_
      dsimp only
      rw [show (lN L1) - (lN (M c)) = lN (L1 - (M c)) from lN_sub (by omega)]
      refine am_Rq.blk (is := [(.lstore 4, 2), (.aload_n 0, 1)]) (q := (57, [some (.ref 212), some (.long (lN Lf)), none, some (.ref (217 + 1 * e)), some (.long (lN (L1 - (M c)))), none, some (.int (nI i)), some (.int (nI c))], [.ref 212])) (by decide +kernel) rfl ?_
      dsimp only
      refine am_Rq.getf (v := .ref 235) (show decode (am_by 76) 57 = .ok (.getfield 31, 3) by decide +kernel) rfl hc1_212 rfl ?_
      refine am_Rq.blk (is := [(.iload 7, 2), (.iconst 0, 1)]) (q := (63, [some (.ref 212), some (.long (lN Lf)), none, some (.ref (217 + 1 * e)), some (.long (lN (L1 - (M c)))), none, some (.int (nI i)), some (.int (nI c))], [.int (nI 0), .int (nI c), .ref 235])) (by decide +kernel) rfl ?_
      dsimp only
      refine am_Rq.nas (s := W1) (k := c) (v := 0) (show decode (am_by 76) 63 = .ok (.iastore, 1) by decide +kernel) hc1_235 (by omega) (by omega) (by omega) ?_
      have hc2_212 := (am_sn (c' := (100, (am_ia (fun j9 => nI ((va_up W1 (c) (0)) j9)) 5))) (show 235 ≠ 212 by omega)).trans hc1_212
      have hc2_235 := am_ss (c' := (100, (am_ia (fun j9 => nI ((va_up W1 (c) (0)) j9)) 5))) hc1_235
      have hc2_236 := (am_sn (c' := (100, (am_ia (fun j9 => nI ((va_up W1 (c) (0)) j9)) 5))) (show 235 ≠ 236 by omega)).trans hc1_236
      have hc2_2171e := (am_sn (c' := (100, (am_ia (fun j9 => nI ((va_up W1 (c) (0)) j9)) 5))) (show 235 ≠ 217 + 1 * e by omega)).trans hc1_2171e
      have hf2 := (am_fr.rf (A := fun q => q = 235)).set (c' := (100, (am_ia (fun j9 => nI ((va_up W1 (c) (0)) j9)) 5))) rfl hc1_235 (by simp [am_ia_len, am_la_len])
      generalize hze2 : (List.set _ 235 _ : am_H) = hz2 at hf2 hc2_212 hc2_235 hc2_236 hc2_2171e ⊢
      clear hze2
      refine am_Rq.blk (is := [(.iinc 6 1, 3)]) (q := (67, [some (.ref 212), some (.long (lN Lf)), none, some (.ref (217 + 1 * e)), some (.long (lN (L1 - (M c)))), none, some (.int ((nI i) + (nI 1))), some (.int (nI c))], [])) (by decide +kernel) rfl ?_
      dsimp only
      rw [show (nI i) + (nI 1) = nI (i + 1) from nI_add _ _]
      refine am_Rq.blk (is := [(.goto (-61), 3)]) (q := (6, [some (.ref 212), some (.long (lN Lf)), none, some (.ref (217 + 1 * e)), some (.long (lN (L1 - (M c)))), none, some (.int (nI (i + 1))), some (.int (nI c))], [])) (by decide +kernel) rfl ?_
      dsimp only
      refine ih _ _ ⟨_, L1 - M c, va_up W1 c 0, va_up D1 c (D1 c + M c), rfl, ?_, by omega, ?_, hc2_235, hc2_2171e, hc2_212, hc2_236, ((hf0.trans (hf1.mono (A' := fun x => x = 235 ∨ x = 217 + 1 * e) (fun x q => by omega))).trans (hf2.mono (A' := fun x => x = 235 ∨ x = 217 + 1 * e) (fun x q => by omega)))⟩
      · have e5 : 5 - i = (5 - (i + 1)) + 1 := by omega
        rw [e5] at hcp
        simp only [dv_cp] at hcp
        rw [hfe, if_pos hc] at hcp
        exact hcp
      · intro q hq
        by_cases ee : q = c
        · rw [ee, va_up_self]; omega
        · rw [va_up_ne _ _ ee]; exact hW1 q hq
    ·
      rw [if_neg hc]
      show am_Rq _ 76 18 [some (.ref 212), some (.long (lN Lf)), none, some (.ref (217 + 1 * e)), some (.long (lN L1)), none, some (.int (nI i)), z7] [.int (am_ic (-1))] _ _
      refine am_Rq.blk (is := [(.istore 7, 2), (.iload 7, 2), (.iconst (-1), 1)]) (q := (23, [some (.ref 212), some (.long (lN Lf)), none, some (.ref (217 + 1 * e)), some (.long (lN L1)), none, some (.int (nI i)), some (.int (am_ic (-1)))], [.int (am_ic (-1)), .int (am_ic (-1))])) (by decide +kernel) rfl ?_
      dsimp only
      refine am_Rq.if2F (show decode (am_by 76) 23 = .ok (.if_icmp .ne 6, 3) by decide +kernel) (by decide) (rfl) ?_
      refine am_Rq.blk (is := [(.goto 44, 3)]) (q := (70, [some (.ref 212), some (.long (lN Lf)), none, some (.ref (217 + 1 * e)), some (.long (lN L1)), none, some (.int (nI i)), some (.int (am_ic (-1)))], [])) (by decide +kernel) rfl ?_
      dsimp only
      refine am_Rq.blk (is := [(.lload 4, 2)]) (q := (72, [some (.ref 212), some (.long (lN Lf)), none, some (.ref (217 + 1 * e)), some (.long (lN L1)), none, some (.int (nI i)), some (.int (am_ic (-1)))], [.long (lN L1)])) (by decide +kernel) rfl ?_
      dsimp only
      have hend : dv_cp M (5 - i) L1 W1 D1 = (L1, W1, D1) := by
        cases 5 - i with
        | zero => rfl
        | succ n => simp only [dv_cp]; rw [if_neg hc]
      rw [hend] at hcp
      refine am_Rq.ret (v := some (.long (lN L1))) (show decode (am_by 76) 72 = .ok (.lreturn, 1) by decide +kernel) rfl rfl ?_
      rw [← hcp]
      exact ⟨_, rfl, rfl, h5, hD, hf0⟩
  · rintro lo hp ⟨z7, L1, W1, D1, rfl, hcp, hL1, hW1, h5, hD, hO, h6, hf0⟩
    refine am_Rq.blk (is := [(.iload 6, 2), (.iconst 5, 1)]) (q := (9, [some (.ref 212), some (.long (lN Lf)), none, some (.ref (217 + 1 * e)), some (.long (lN L1)), none, some (.int (nI 5)), z7], [.int (nI 5), .int (nI 5)])) (by decide +kernel) rfl ?_
    dsimp only
    refine am_Rq.if2T (t := 70) (show decode (am_by 76) 9 = .ok (.if_icmp .ge 61, 3) by decide +kernel) (by decide) (by rw [nm_ge (by omega) (by omega)]; exact decide_eq_true (by omega)) ?_
    refine am_Rq.blk (is := [(.lload 4, 2)]) (q := (72, [some (.ref 212), some (.long (lN Lf)), none, some (.ref (217 + 1 * e)), some (.long (lN L1)), none, some (.int (nI 5)), z7], [.long (lN L1)])) (by decide +kernel) rfl ?_
    dsimp only
    have hcp : (L1, W1, D1) = dv_cp M 5 Lf W D := hcp
    refine am_Rq.ret (v := some (.long (lN L1))) (show decode (am_by 76) 72 = .ok (.lreturn, 1) by decide +kernel) rfl rfl ?_
    rw [← hcp]
    exact ⟨_, rfl, rfl, h5, hD, hf0⟩
theorem c_shareRest {am : Nat} (hO : hp[212]? = some (6, [.ref 213, .ref 216, .ref 233, .ref 234, .ref 235, .ref 236, .ref 237, .int (nI am)])) (hSh : hp[213]? = some (5, [.ref 214, .ref 215])) {fp : Nat → Int32} (hPa : hp[214]? = some (100, am_ia fp 8)) {gr : Nat → Int64} (hRe : hp[215]? = some (101, am_la gr 8)) {W : Nat → Nat} (h5 : hp[235]? = some (100, am_ia (fun c => nI (W c)) 5)) (hW : ∀ c, c < 5 → W c ≤ 20000000) {Lf : Nat} (hL : Lf ≤ 2000000000) {e : Nat} (he : e < 16) {D : Nat → Nat} (hD : hp[217 + 1 * e]? = some (100, am_ia (fun c => nI (D c)) 6))  : am_Rq (d + 2) 78 0 (am_en [.ref 212, .long (lN Lf), .ref (217 + 1 * e)] 6) [] hp (am_Ret fun hp1 v => v = none ∧ hp1[217 + 1 * e]? = some (100, am_ia (fun c => nI (if c < 5 then D c + sp_sh 5 Lf W c else if sp_sm W 5 = 0 then Lf else D c)) 6) ∧ (∃ f4 : Nat → Int32, hp1[214]? = some (100, am_ia f4 8)) ∧ (∃ g4 : Nat → Int64, hp1[215]? = some (101, am_la g4 8)) ∧ am_fr (fun x => x = 214 ∨ x = 215 ∨ x = 217 + 1 * e) hp hp1) := by
  show am_Rq _ 78 0 [some (.ref 212), some (.long (lN Lf)), none, some (.ref (217 + 1 * e)), none, none] [] _ _
  have hsm := sp_sm_bd hW
  refine am_Rq.blk (is := [(.aload_n 0, 1)]) (q := (1, [some (.ref 212), some (.long (lN Lf)), none, some (.ref (217 + 1 * e)), none, none], [.ref 212])) (by decide +kernel) rfl ?_
  dsimp only
  refine am_Rq.getf (v := .ref 235) (show decode (am_by 78) 1 = .ok (.getfield 31, 3) by decide +kernel) rfl hO rfl ?_
  refine am_Rq.callS (show decode (am_by 78) 4 = .ok (.invokestatic 128, 3) by decide +kernel) rfl [.ref 235] [] rfl rfl (Nat.le_of_ble_eq_true rfl) rfl rfl (c_sumOf (u := W) h5 (by omega) (fun k hk => by have := hW k hk; omega)) ?_
  rintro hq _ ⟨e1, rfl⟩
  rw [e1]
  clear e1 hq
  show am_Rq _ 78 7 [some (.ref 212), some (.long (lN Lf)), none, some (.ref (217 + 1 * e)), none, none] [.long (lN (sp_sm W 5))] _ _
  refine am_Rq.blk (is := [(.lconst 0, 1), (.lcmp, 1)]) (q := (9, [some (.ref 212), some (.long (lN Lf)), none, some (.ref (217 + 1 * e)), none, none], [.int (lg_cmp (lN (sp_sm W 5)) (lN 0))])) (by decide +kernel) rfl ?_
  dsimp only
  refine am_Rq.if1 (t := 18) (show decode (am_by 78) 9 = .ok (.ifCond .ne 9, 3) by decide +kernel) (by decide) (fun h1 => ?_) (fun h1 => ?_)
  ·
    have h1 := of_decide_eq_true ((nm_cne _ _).symm.trans h1)
    rw [Ne, nm_leq (a := (sp_sm W 5)) (b := 0) (by omega) (by omega)] at h1
    refine am_Rq.blk (is := [(.aload_n 0, 1)]) (q := (19, [some (.ref 212), some (.long (lN Lf)), none, some (.ref (217 + 1 * e)), none, none], [.ref 212])) (by decide +kernel) rfl ?_
    dsimp only
    refine am_Rq.getf (v := .ref 213) (show decode (am_by 78) 19 = .ok (.getfield 12, 3) by decide +kernel) rfl hO rfl ?_
    refine am_Rq.blk (is := [(.lload_n 1, 1), (.aload_n 0, 1)]) (q := (24, [some (.ref 212), some (.long (lN Lf)), none, some (.ref (217 + 1 * e)), none, none], [.ref 212, .long (lN Lf), .ref 213])) (by decide +kernel) rfl ?_
    dsimp only
    refine am_Rq.getf (v := .ref 235) (show decode (am_by 78) 24 = .ok (.getfield 31, 3) by decide +kernel) rfl hO rfl ?_
    refine am_Rq.callV (show decode (am_by 78) 27 = .ok (.invokevirtual 78, 3) by decide +kernel) rfl [.long (lN Lf), .ref 235] [] rfl rfl (Nat.le_of_ble_eq_true rfl) rfl hSh rfl (c_shareOut (u := W) (n := 5) (A := Lf) hSh hPa hRe h5 (by omega) (by omega) (by omega) (by omega) (by omega) (by omega) (by omega) (by omega) (by omega) (by omega) (fun k hk => by have := hW k hk; omega) (by omega)) ?_
    rintro hp1 _ ⟨rfl, ⟨fs, hS1, hS2, hS3⟩, ⟨gs, hS4⟩, hf1⟩
    have hc1_212 := (hf1.2.2 (212) (fun q => by omega)).trans hO
    have hc1_213 := (hf1.2.2 (213) (fun q => by omega)).trans hSh
    have hc1_235 := (hf1.2.2 (235) (fun q => by omega)).trans h5
    have hc1_2171e := (hf1.2.2 (217 + 1 * e) (fun q => by omega)).trans hD
    show am_Rq _ 78 30 [some (.ref 212), some (.long (lN Lf)), none, some (.ref (217 + 1 * e)), none, none] [.ref 214] _ _
    refine am_Rq.blk (is := [(.astore 4, 2), (.iconst 0, 1), (.istore 5, 2)]) (q := (35, [some (.ref 212), some (.long (lN Lf)), none, some (.ref (217 + 1 * e)), some (.ref 214), some (.int (nI 0))], [])) (by decide +kernel) rfl ?_
    dsimp only
    have hfT : am_fr (fun x => x = 214 ∨ x = 215 ∨ x = 217 + 1 * e) hp _ := (hf1.mono (A' := fun x => x = 214 ∨ x = 215 ∨ x = 217 + 1 * e) (fun x q => by omega))
    obtain ⟨hp0, hpe⟩ : ∃ x, x = hp := ⟨_, rfl⟩
    rw [← hpe] at hfT ⊢
    refine am_for (n := 5) (fun i lo hp => lo = [some (.ref 212), some (.long (lN Lf)), none, some (.ref (217 + 1 * e)), some (.ref 214), some (.int (nI i))] ∧ (∃ f9 : Nat → Int32, hp[217 + 1 * e]? = some (100, am_ia f9 6) ∧ (∀ q, q < i → f9 q = nI (D q + sp_sh 5 Lf W q)) ∧ ∀ q, i ≤ q → q < 6 → f9 q = nI (D q)) ∧ hp[212]? = some (6, [.ref 213, .ref 216, .ref 233, .ref 234, .ref 235, .ref 236, .ref 237, .int (nI am)]) ∧ hp[214]? = some (100, (am_ia fs 8)) ∧ hp[215]? = some (101, (am_la gs 8)) ∧ am_fr (fun x => x = 214 ∨ x = 215 ∨ x = 217 + 1 * e) hp0 hp) ?_ ?_ (i := 0) (by omega) ⟨rfl, ⟨_, hc1_2171e, fun q hq => by omega, fun q _ _ => rfl⟩, hc1_212, hS1, hS4, hfT⟩
    · rintro i lo hp hi ⟨rfl, ⟨f9, hD9, hx9, hy9⟩, k2, k4, k5, hf9⟩ ih
      refine am_Rq.blk (is := [(.iload 5, 2), (.iconst 5, 1)]) (q := (38, [some (.ref 212), some (.long (lN Lf)), none, some (.ref (217 + 1 * e)), some (.ref 214), some (.int (nI i))], [.int (nI 5), .int (nI i)])) (by decide +kernel) rfl ?_
      dsimp only
      refine am_Rq.if2F (show decode (am_by 78) 38 = .ok (.if_icmp .ge 21, 3) by decide +kernel) (by decide) (by rw [nm_ge (by omega) (by omega)]; exact decide_eq_false (by omega)) ?_
      refine am_Rq.blk (is := [(.aload_n 3, 1), (.iload 5, 2), (.dup2, 1)]) (q := (45, [some (.ref 212), some (.long (lN Lf)), none, some (.ref (217 + 1 * e)), some (.ref 214), some (.int (nI i))], [.int (nI i), .ref (217 + 1 * e), .int (nI i), .ref (217 + 1 * e)])) (by decide +kernel) rfl ?_
      dsimp only
      refine am_Rq.ial (k := i) (show decode (am_by 78) 45 = .ok (.iaload, 1) by decide +kernel) hD9 (by omega) (by omega) ?_
      rw [hy9 i (by omega) (by omega)]
      refine am_Rq.blk (is := [(.aload 4, 2), (.iload 5, 2)]) (q := (50, [some (.ref 212), some (.long (lN Lf)), none, some (.ref (217 + 1 * e)), some (.ref 214), some (.int (nI i))], [.int (nI i), .ref 214, .int (nI (D i)), .int (nI i), .ref (217 + 1 * e)])) (by decide +kernel) rfl ?_
      dsimp only
      refine am_Rq.ial (k := i) (show decode (am_by 78) 50 = .ok (.iaload, 1) by decide +kernel) k4 (by omega) (by omega) ?_
      rw [hS2 i hi]
      refine am_Rq.blk (is := [(.iadd, 1)]) (q := (52, [some (.ref 212), some (.long (lN Lf)), none, some (.ref (217 + 1 * e)), some (.ref 214), some (.int (nI i))], [.int ((nI (D i)) + (nI (sp_sh 5 Lf W i))), .int (nI i), .ref (217 + 1 * e)])) (by decide +kernel) rfl ?_
      dsimp only
      rw [show (nI (D i)) + (nI (sp_sh 5 Lf W i)) = nI ((D i) + (sp_sh 5 Lf W i)) from nI_add _ _]
      refine am_Rq.ias (k := i) (x := nI ((D i) + (sp_sh 5 Lf W i))) (show decode (am_by 78) 52 = .ok (.iastore, 1) by decide +kernel) hD9 (by omega) (by omega) (by omega) ?_
      have hc2_212 := (am_sn (c' := (100, (am_ia (va_up f9 i (nI ((D i) + (sp_sh 5 Lf W i)))) 6))) (show 217 + 1 * e ≠ 212 by omega)).trans k2
      have hc2_214 := (am_sn (c' := (100, (am_ia (va_up f9 i (nI ((D i) + (sp_sh 5 Lf W i)))) 6))) (show 217 + 1 * e ≠ 214 by omega)).trans k4
      have hc2_215 := (am_sn (c' := (100, (am_ia (va_up f9 i (nI ((D i) + (sp_sh 5 Lf W i)))) 6))) (show 217 + 1 * e ≠ 215 by omega)).trans k5
      have hc2_2171e := am_ss (c' := (100, (am_ia (va_up f9 i (nI ((D i) + (sp_sh 5 Lf W i)))) 6))) hD9
      have hf2 := (am_fr.rf (A := fun q => q = 217 + 1 * e)).set (c' := (100, (am_ia (va_up f9 i (nI ((D i) + (sp_sh 5 Lf W i)))) 6))) rfl hD9 (by simp [am_ia_len, am_la_len])
      generalize hze2 : (List.set _ (217 + 1 * e) _ : am_H) = hz2 at hf2 hc2_212 hc2_214 hc2_215 hc2_2171e ⊢
      clear hze2
      refine am_Rq.blk (is := [(.iinc 5 1, 3)]) (q := (56, [some (.ref 212), some (.long (lN Lf)), none, some (.ref (217 + 1 * e)), some (.ref 214), some (.int ((nI i) + (nI 1)))], [])) (by decide +kernel) rfl ?_
      dsimp only
      rw [show (nI i) + (nI 1) = nI (i + 1) from nI_add _ _]
      refine am_Rq.blk (is := [(.goto (-21), 3)]) (q := (35, [some (.ref 212), some (.long (lN Lf)), none, some (.ref (217 + 1 * e)), some (.ref 214), some (.int (nI (i + 1)))], [])) (by decide +kernel) rfl ?_
      dsimp only
      refine ih _ _ ⟨rfl, ⟨_, hc2_2171e, fun q hq => ?_, fun q h1 h2 => ?_⟩, hc2_212, hc2_214, hc2_215, (hf9.trans (hf2.mono (A' := fun x => x = 214 ∨ x = 215 ∨ x = 217 + 1 * e) (fun x q => by omega)))⟩
      · by_cases ee : q = i
        · rw [ee, va_up_self]
        · rw [va_up_ne _ _ ee]; exact hx9 q (by omega)
      · rw [va_up_ne _ _ (by omega)]; exact hy9 q (by omega) h2
    · rintro lo hp ⟨rfl, ⟨f9, hD9, hx9, hy9⟩, k2, k4, k5, hf9⟩
      refine am_Rq.blk (is := [(.iload 5, 2), (.iconst 5, 1)]) (q := (38, [some (.ref 212), some (.long (lN Lf)), none, some (.ref (217 + 1 * e)), some (.ref 214), some (.int (nI 5))], [.int (nI 5), .int (nI 5)])) (by decide +kernel) rfl ?_
      dsimp only
      refine am_Rq.if2T (t := 59) (show decode (am_by 78) 38 = .ok (.if_icmp .ge 21, 3) by decide +kernel) (by decide) (by rw [nm_ge (by omega) (by omega)]; exact decide_eq_true (by omega)) ?_
      refine am_Rq.ret (v := none) (show decode (am_by 78) 59 = .ok (.return_, 1) by decide +kernel) rfl rfl ?_
      refine ⟨_, rfl, rfl, ?_, ⟨_, k4⟩, ⟨_, k5⟩, hf9⟩
      rw [hD9, c_ia_congr (fun q hq => ?_)]
      by_cases h5 : q < 5
      · rw [hx9 q h5, if_pos h5]
      · rw [hy9 q (by omega) hq, if_neg h5, if_neg h1]
  ·
    have h1 := of_decide_eq_false ((nm_cne _ _).symm.trans h1)
    rw [Ne, nm_leq (a := (sp_sm W 5)) (b := 0) (by omega) (by omega)] at h1
    refine am_Rq.blk (is := [(.aload_n 3, 1), (.iconst 5, 1), (.lload_n 1, 1), (.l2i, 1)]) (q := (16, [some (.ref 212), some (.long (lN Lf)), none, some (.ref (217 + 1 * e)), none, none], [.int ((lN Lf).toInt32), .int (nI 5), .ref (217 + 1 * e)])) (by decide +kernel) rfl ?_
    dsimp only
    rw [show (lN Lf).toInt32 = nI Lf from nm_i _]
    refine am_Rq.ias (k := 5) (x := nI Lf) (show decode (am_by 78) 16 = .ok (.iastore, 1) by decide +kernel) hD (by omega) (by omega) (by omega) ?_
    have hc3_212 := (am_sn (c' := (100, (am_ia (va_up (fun c => nI (D c)) 5 (nI Lf)) 6))) (show 217 + 1 * e ≠ 212 by omega)).trans hO
    have hc3_213 := (am_sn (c' := (100, (am_ia (va_up (fun c => nI (D c)) 5 (nI Lf)) 6))) (show 217 + 1 * e ≠ 213 by omega)).trans hSh
    have hc3_214 := (am_sn (c' := (100, (am_ia (va_up (fun c => nI (D c)) 5 (nI Lf)) 6))) (show 217 + 1 * e ≠ 214 by omega)).trans hPa
    have hc3_215 := (am_sn (c' := (100, (am_ia (va_up (fun c => nI (D c)) 5 (nI Lf)) 6))) (show 217 + 1 * e ≠ 215 by omega)).trans hRe
    have hc3_235 := (am_sn (c' := (100, (am_ia (va_up (fun c => nI (D c)) 5 (nI Lf)) 6))) (show 217 + 1 * e ≠ 235 by omega)).trans h5
    have hc3_2171e := am_ss (c' := (100, (am_ia (va_up (fun c => nI (D c)) 5 (nI Lf)) 6))) hD
    have hf3 := (am_fr.rf (A := fun q => q = 217 + 1 * e)).set (c' := (100, (am_ia (va_up (fun c => nI (D c)) 5 (nI Lf)) 6))) rfl hD (by simp [am_ia_len, am_la_len])
    generalize hze3 : (List.set _ (217 + 1 * e) _ : am_H) = hz3 at hf3 hc3_212 hc3_213 hc3_214 hc3_215 hc3_235 hc3_2171e ⊢
    clear hze3
    refine am_Rq.ret (v := none) (show decode (am_by 78) 17 = .ok (.return_, 1) by decide +kernel) rfl rfl ?_
    refine ⟨_, rfl, rfl, ?_, ⟨_, hc3_214⟩, ⟨_, hc3_215⟩, (hf3.mono (A' := fun x => x = 214 ∨ x = 215 ∨ x = 217 + 1 * e) (fun x q => by omega))⟩
    rw [hc3_2171e, c_ia_congr (fun q hq => ?_)]
    by_cases h5 : q < 5
    · rw [va_up_ne _ _ (by omega), if_pos h5, show sp_sh 5 Lf W q = 0 by unfold sp_sh; rw [if_pos (by omega)]]
      rfl
    · rw [show q = 5 by omega, va_up_self, if_neg (by omega), if_pos (by omega)]
end C15
