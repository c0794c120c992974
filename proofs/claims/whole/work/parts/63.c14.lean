/-! The class's sale: payRank, firstAboveItsMost (rows by prog/c14.py). -/
section C14
variable {d : Nat} {hp : am_H}
theorem c_payRank {am : Nat} (hO : hp[212]? = some (6, [.ref 213, .ref 216, .ref 233, .ref 234, .ref 235, .ref 236, .ref 237, .int (nI am)])) (hSh : hp[213]? = some (5, [.ref 214, .ref 215])) {fp : Nat → Int32} (hPa : hp[214]? = some (100, am_ia fp 8)) {gr : Nat → Int64} (hRe : hp[215]? = some (101, am_la gr 8)) {t : Nat → Nat} (h : Led hp 3 t) {K : Nat} (ok : c_ok K t) (hK : K ≤ 900) {P : Nat → Nat} (hP4 : hp[234]? = some (100, am_ia (fun c => nI (P c)) 5)) (hP : ∀ c, c < 5 → P c ≤ 1500000000) {fc : Nat → Int32} (hC7 : hp[237]? = some (100, am_ia fc 5)) {e : Nat} (he : e < 16) {D : Nat → Nat} (hD : hp[217 + 1 * e]? = some (100, am_ia (fun c => nI (D c)) 6)) {r Lf : Nat} (hr : r < 4) (hL : Lf ≤ 2000000000) : am_Rq (d + 3) 72 0 (am_en [.ref 212, .ref 3, .int (nI r), .long (lN Lf), .ref (217 + 1 * e)] 11) [] hp (am_Ret fun hp1 v => v = some (.long (lN (Lf - sp_sm (dv_cl P (sl_R t) r) 5))) ∧ hp1[217 + 1 * e]? = some (100, am_ia (fun c => nI (if c < 5 then D c + (if sp_sm (dv_cl P (sl_R t) r) 5 ≤ Lf then dv_cl P (sl_R t) r c else sp_sh 5 Lf (dv_cl P (sl_R t) r) c) else D c)) 6) ∧ (∃ f4 : Nat → Int32, hp1[214]? = some (100, am_ia f4 8)) ∧ (∃ g4 : Nat → Int64, hp1[215]? = some (101, am_la g4 8)) ∧ (∃ f7 : Nat → Int32, hp1[237]? = some (100, am_ia f7 5)) ∧ am_fr (fun x => x = 237 ∨ x = 214 ∨ x = 215 ∨ x = 217 + 1 * e) hp hp1) := by
  show am_Rq _ 72 0 [some (.ref 212), some (.ref 3), some (.int (nI r)), some (.long (lN Lf)), none, some (.ref (217 + 1 * e)), none, none, none, none, none] [] _ _
  have hB := ok.b (by omega)
  have hcl : ∀ c, c < 5 → dv_cl P (sl_R t) r c ≤ 1500000000 := fun c hc => Nat.le_trans dv_cl_le (hP c hc)
  have hsm := sp_sm_bd hcl
  refine am_Rq.blk (is := [(.iconst 0, 1), (.istore 6, 2)]) (q := (3, [some (.ref 212), some (.ref 3), some (.int (nI r)), some (.long (lN Lf)), none, some (.ref (217 + 1 * e)), some (.int (nI 0)), none, none, none, none], [])) (by decide +kernel) rfl ?_
  dsimp only
  have key : ∀ hz, hz = hp → am_Rq (d + 3) 72 3 [some (.ref 212), some (.ref 3), some (.int (nI r)), some (.long (lN Lf)), none, some (.ref (217 + 1 * e)), some (.int (nI 0)), none, none, none, none] [] hz (am_Ret fun hp1 v => v = some (.long (lN (Lf - sp_sm (dv_cl P (sl_R t) r) 5))) ∧ hp1[217 + 1 * e]? = some (100, am_ia (fun c => nI (if c < 5 then D c + (if sp_sm (dv_cl P (sl_R t) r) 5 ≤ Lf then dv_cl P (sl_R t) r c else sp_sh 5 Lf (dv_cl P (sl_R t) r) c) else D c)) 6) ∧ (∃ f4 : Nat → Int32, hp1[214]? = some (100, am_ia f4 8)) ∧ (∃ g4 : Nat → Int64, hp1[215]? = some (101, am_la g4 8)) ∧ (∃ f7 : Nat → Int32, hp1[237]? = some (100, am_ia f7 5)) ∧ am_fr (fun x => x = 237 ∨ x = 214 ∨ x = 215 ∨ x = 217 + 1 * e) hp hp1) := ?_
  · exact key hp rfl
  intro hz hze
  subst hze
  refine am_for (n := 5) (fun i lo hp => ∃ z7 z8 z9 z10 : Option Value, lo = [some (.ref 212), some (.ref 3), some (.int (nI r)), some (.long (lN Lf)), none, some (.ref (217 + 1 * e)), some (.int (nI i)), z7, z8, z9, z10] ∧ (∃ f7 : Nat → Int32, hp[237]? = some (100, am_ia f7 5) ∧ ∀ q, q < i → f7 q = nI (dv_cl P (sl_R t) r q)) ∧ hp[212]? = some (6, [.ref 213, .ref 216, .ref 233, .ref 234, .ref 235, .ref 236, .ref 237, .int (nI am)]) ∧ hp[213]? = some (5, [.ref 214, .ref 215]) ∧ hp[214]? = some (100, (am_ia fp 8)) ∧ hp[215]? = some (101, (am_la gr 8)) ∧ hp[234]? = some (100, (am_ia (fun c => nI (P c)) 5)) ∧ hp[217 + 1 * e]? = some (100, (am_ia (fun c => nI (D c)) 6)) ∧ Led hp 3 t ∧ am_fr (fun x => x = 237 ∨ x = 214 ∨ x = 215 ∨ x = 217 + 1 * e) hz hp) ?_ ?_ (i := 0) (by omega) ⟨_, _, _, _, rfl, ⟨fc, hC7, fun q hq => by omega⟩, hO, hSh, hPa, hRe, hP4, hD, h, am_fr.rf⟩
  · rintro i lo hp hi ⟨z7, z8, z9, z10, rfl, ⟨f7, hC7, hx⟩, hO, hSh, hPa, hRe, hP4, hD, h, hf0⟩ ih
    refine am_Rq.blk (is := [(.iload 6, 2), (.iconst 5, 1)]) (q := (6, [some (.ref 212), some (.ref 3), some (.int (nI r)), some (.long (lN Lf)), none, some (.ref (217 + 1 * e)), some (.int (nI i)), z7, z8, z9, z10], [.int (nI 5), .int (nI i)])) (by decide +kernel) rfl ?_
    dsimp only
    refine am_Rq.if2F (show decode (am_by 72) 6 = .ok (.if_icmp .ge 41, 3) by decide +kernel) (by decide) (by rw [nm_ge (by omega) (by omega)]; exact decide_eq_false (by omega)) ?_
    refine am_Rq.blk (is := [(.aload_n 0, 1)]) (q := (10, [some (.ref 212), some (.ref 3), some (.int (nI r)), some (.long (lN Lf)), none, some (.ref (217 + 1 * e)), some (.int (nI i)), z7, z8, z9, z10], [.ref 212])) (by decide +kernel) rfl ?_
    dsimp only
    refine am_Rq.getf (v := .ref 237) (show decode (am_by 72) 10 = .ok (.getfield 38, 3) by decide +kernel) rfl hO rfl ?_
    refine am_Rq.blk (is := [(.iload 6, 2), (.aload_n 1, 1)]) (q := (16, [some (.ref 212), some (.ref 3), some (.int (nI r)), some (.long (lN Lf)), none, some (.ref (217 + 1 * e)), some (.int (nI i)), z7, z8, z9, z10], [.ref 3, .int (nI i), .ref 237])) (by decide +kernel) rfl ?_
    dsimp only
    refine am_Rq.getf (v := .ref (3 + 1)) (show decode (am_by 72) 16 = .ok (.getfield 66, 3) by decide +kernel) rfl (Led.lg h) rfl ?_
    refine am_Rq.blk (is := [(.iload 6, 2)]) (q := (21, [some (.ref 212), some (.ref 3), some (.int (nI r)), some (.long (lN Lf)), none, some (.ref (217 + 1 * e)), some (.int (nI i)), z7, z8, z9, z10], [.int (nI i), .ref (3 + 1), .int (nI i), .ref 237])) (by decide +kernel) rfl ?_
    dsimp only
    refine am_Rq.ral (k := i) (show decode (am_by 72) 21 = .ok (.aaload, 1) by decide +kernel) (Led.ca h) rfl (by omega) (by omega) ?_
    refine am_Rq.getf (v := .int (nI (t (8 * i + 2)))) (show decode (am_by 72) 22 = .ok (.getfield 125, 3) by decide +kernel) rfl (Led.sc h (by omega)) rfl ?_
    refine am_Rq.blk (is := [(.iload_n 2, 1)]) (q := (26, [some (.ref 212), some (.ref 3), some (.int (nI r)), some (.long (lN Lf)), none, some (.ref (217 + 1 * e)), some (.int (nI i)), z7, z8, z9, z10], [.int (nI r), .int (nI (t (8 * i + 2))), .int (nI i), .ref 237])) (by decide +kernel) rfl ?_
    dsimp only
    obtain ⟨a0, a1, a2, a3, -⟩ := ok.1 i (by omega)
    refine am_Rq.if2 (t := 39) (show decode (am_by 72) 26 = .ok (.if_icmp .ne 13, 3) by decide +kernel) (by decide) (fun hr2 => ?_) (fun hr2 => ?_)
    ·
      rw [nm_ne (by omega) (by omega)] at hr2
      have hr2 := of_decide_eq_true hr2
      refine am_Rq.blk (is := [(.iconst 0, 1)]) (q := (40, [some (.ref 212), some (.ref 3), some (.int (nI r)), some (.long (lN Lf)), none, some (.ref (217 + 1 * e)), some (.int (nI i)), z7, z8, z9, z10], [.int (nI 0), .int (nI i), .ref 237])) (by decide +kernel) rfl ?_
      dsimp only
      refine am_Rq.ias (k := i) (x := nI 0) (show decode (am_by 72) 40 = .ok (.iastore, 1) by decide +kernel) hC7 (by omega) (by omega) (by omega) ?_
      have hc1_212 := (am_sn (c' := (100, (am_ia (va_up f7 i (nI 0)) 5))) (show 237 ≠ 212 by omega)).trans hO
      have hc1_213 := (am_sn (c' := (100, (am_ia (va_up f7 i (nI 0)) 5))) (show 237 ≠ 213 by omega)).trans hSh
      have hc1_214 := (am_sn (c' := (100, (am_ia (va_up f7 i (nI 0)) 5))) (show 237 ≠ 214 by omega)).trans hPa
      have hc1_215 := (am_sn (c' := (100, (am_ia (va_up f7 i (nI 0)) 5))) (show 237 ≠ 215 by omega)).trans hRe
      have hc1_234 := (am_sn (c' := (100, (am_ia (va_up f7 i (nI 0)) 5))) (show 237 ≠ 234 by omega)).trans hP4
      have hc1_237 := am_ss (c' := (100, (am_ia (va_up f7 i (nI 0)) 5))) hC7
      have hc1_2171e := (am_sn (c' := (100, (am_ia (va_up f7 i (nI 0)) 5))) (show 237 ≠ 217 + 1 * e by omega)).trans hD
      have hL1x := Led.kept h (fun q hq => am_sn (c' := (100, (am_ia (va_up f7 i (nI 0)) 5))) (show 237 ≠ q by obtain ⟨_, _⟩ := hq; omega))
      have hf1 := (am_fr.rf (A := fun q => q = 237)).set (c' := (100, (am_ia (va_up f7 i (nI 0)) 5))) rfl hC7 (by simp [am_ia_len, am_la_len])
      generalize hze1 : (List.set _ 237 _ : am_H) = hz1 at hf1 hc1_212 hc1_213 hc1_214 hc1_215 hc1_234 hc1_237 hc1_2171e hL1x ⊢
      clear hze1
      refine am_Rq.blk (is := [(.iinc 6 1, 3)]) (q := (44, [some (.ref 212), some (.ref 3), some (.int (nI r)), some (.long (lN Lf)), none, some (.ref (217 + 1 * e)), some (.int ((nI i) + (nI 1))), z7, z8, z9, z10], [])) (by decide +kernel) rfl ?_
      dsimp only
      rw [show (nI i) + (nI 1) = nI (i + 1) from nI_add _ _]
      refine am_Rq.blk (is := [(.goto (-41), 3)]) (q := (3, [some (.ref 212), some (.ref 3), some (.int (nI r)), some (.long (lN Lf)), none, some (.ref (217 + 1 * e)), some (.int (nI (i + 1))), z7, z8, z9, z10], [])) (by decide +kernel) rfl ?_
      dsimp only
      refine ih _ _ ⟨_, _, _, _, rfl, ⟨_, hc1_237, fun q hq => ?_⟩, hc1_212, hc1_213, hc1_214, hc1_215, hc1_234, hc1_2171e, hL1x, (hf0.trans (hf1.mono (A' := fun x => x = 237 ∨ x = 214 ∨ x = 215 ∨ x = 217 + 1 * e) (fun x q => by omega)))⟩
      by_cases ee : q = i
      · subst ee
        rw [va_up_self]
        unfold dv_cl sl_R
        rw [if_neg hr2]
      · rw [va_up_ne _ _ ee]; exact hx q (by omega)
    ·
      rw [nm_ne (by omega) (by omega)] at hr2
      have hr2 := of_decide_eq_false hr2
      refine am_Rq.blk (is := [(.aload_n 0, 1)]) (q := (30, [some (.ref 212), some (.ref 3), some (.int (nI r)), some (.long (lN Lf)), none, some (.ref (217 + 1 * e)), some (.int (nI i)), z7, z8, z9, z10], [.ref 212, .int (nI i), .ref 237])) (by decide +kernel) rfl ?_
      dsimp only
      refine am_Rq.getf (v := .ref 234) (show decode (am_by 72) 30 = .ok (.getfield 27, 3) by decide +kernel) rfl hO rfl ?_
      refine am_Rq.blk (is := [(.iload 6, 2)]) (q := (35, [some (.ref 212), some (.ref 3), some (.int (nI r)), some (.long (lN Lf)), none, some (.ref (217 + 1 * e)), some (.int (nI i)), z7, z8, z9, z10], [.int (nI i), .ref 234, .int (nI i), .ref 237])) (by decide +kernel) rfl ?_
      dsimp only
      refine am_Rq.ial (k := i) (show decode (am_by 72) 35 = .ok (.iaload, 1) by decide +kernel) hP4 (by omega) (by omega) ?_
      refine am_Rq.blk (is := [(.goto 4, 3)]) (q := (40, [some (.ref 212), some (.ref 3), some (.int (nI r)), some (.long (lN Lf)), none, some (.ref (217 + 1 * e)), some (.int (nI i)), z7, z8, z9, z10], [.int (nI (P i)), .int (nI i), .ref 237])) (by decide +kernel) rfl ?_
      dsimp only
      refine am_Rq.ias (k := i) (x := nI (P i)) (show decode (am_by 72) 40 = .ok (.iastore, 1) by decide +kernel) hC7 (by omega) (by omega) (by omega) ?_
      have hc2_212 := (am_sn (c' := (100, (am_ia (va_up f7 i (nI (P i))) 5))) (show 237 ≠ 212 by omega)).trans hO
      have hc2_213 := (am_sn (c' := (100, (am_ia (va_up f7 i (nI (P i))) 5))) (show 237 ≠ 213 by omega)).trans hSh
      have hc2_214 := (am_sn (c' := (100, (am_ia (va_up f7 i (nI (P i))) 5))) (show 237 ≠ 214 by omega)).trans hPa
      have hc2_215 := (am_sn (c' := (100, (am_ia (va_up f7 i (nI (P i))) 5))) (show 237 ≠ 215 by omega)).trans hRe
      have hc2_234 := (am_sn (c' := (100, (am_ia (va_up f7 i (nI (P i))) 5))) (show 237 ≠ 234 by omega)).trans hP4
      have hc2_237 := am_ss (c' := (100, (am_ia (va_up f7 i (nI (P i))) 5))) hC7
      have hc2_2171e := (am_sn (c' := (100, (am_ia (va_up f7 i (nI (P i))) 5))) (show 237 ≠ 217 + 1 * e by omega)).trans hD
      have hL2x := Led.kept h (fun q hq => am_sn (c' := (100, (am_ia (va_up f7 i (nI (P i))) 5))) (show 237 ≠ q by obtain ⟨_, _⟩ := hq; omega))
      have hf2 := (am_fr.rf (A := fun q => q = 237)).set (c' := (100, (am_ia (va_up f7 i (nI (P i))) 5))) rfl hC7 (by simp [am_ia_len, am_la_len])
      generalize hze2 : (List.set _ 237 _ : am_H) = hz2 at hf2 hc2_212 hc2_213 hc2_214 hc2_215 hc2_234 hc2_237 hc2_2171e hL2x ⊢
      clear hze2
      refine am_Rq.blk (is := [(.iinc 6 1, 3)]) (q := (44, [some (.ref 212), some (.ref 3), some (.int (nI r)), some (.long (lN Lf)), none, some (.ref (217 + 1 * e)), some (.int ((nI i) + (nI 1))), z7, z8, z9, z10], [])) (by decide +kernel) rfl ?_
      dsimp only
      rw [show (nI i) + (nI 1) = nI (i + 1) from nI_add _ _]
      refine am_Rq.blk (is := [(.goto (-41), 3)]) (q := (3, [some (.ref 212), some (.ref 3), some (.int (nI r)), some (.long (lN Lf)), none, some (.ref (217 + 1 * e)), some (.int (nI (i + 1))), z7, z8, z9, z10], [])) (by decide +kernel) rfl ?_
      dsimp only
      refine ih _ _ ⟨_, _, _, _, rfl, ⟨_, hc2_237, fun q hq => ?_⟩, hc2_212, hc2_213, hc2_214, hc2_215, hc2_234, hc2_2171e, hL2x, (hf0.trans (hf2.mono (A' := fun x => x = 237 ∨ x = 214 ∨ x = 215 ∨ x = 217 + 1 * e) (fun x q => by omega)))⟩
      by_cases ee : q = i
      · subst ee
        rw [va_up_self]
        unfold dv_cl sl_R
        rw [if_pos (by omega)]
      · rw [va_up_ne _ _ ee]; exact hx q (by omega)
  · rintro lo hp ⟨z7, z8, z9, z10, rfl, ⟨f7, hC7, hx⟩, hO, hSh, hPa, hRe, hP4, hD, h, hf0⟩
    refine am_Rq.blk (is := [(.iload 6, 2), (.iconst 5, 1)]) (q := (6, [some (.ref 212), some (.ref 3), some (.int (nI r)), some (.long (lN Lf)), none, some (.ref (217 + 1 * e)), some (.int (nI 5)), z7, z8, z9, z10], [.int (nI 5), .int (nI 5)])) (by decide +kernel) rfl ?_
    dsimp only
    refine am_Rq.if2T (t := 47) (show decode (am_by 72) 6 = .ok (.if_icmp .ge 41, 3) by decide +kernel) (by decide) (by rw [nm_ge (by omega) (by omega)]; exact decide_eq_true (by omega)) ?_
    have hC8 := hC7
    rw [c_ia_congr (g := fun c => nI (dv_cl P (sl_R t) r c)) hx] at hC8
    skip
    refine am_Rq.blk (is := [(.aload_n 0, 1)]) (q := (48, [some (.ref 212), some (.ref 3), some (.int (nI r)), some (.long (lN Lf)), none, some (.ref (217 + 1 * e)), some (.int (nI 5)), z7, z8, z9, z10], [.ref 212])) (by decide +kernel) rfl ?_
    dsimp only
    refine am_Rq.getf (v := .ref 237) (show decode (am_by 72) 48 = .ok (.getfield 38, 3) by decide +kernel) rfl hO rfl ?_
    refine am_Rq.callS (show decode (am_by 72) 51 = .ok (.invokestatic 128, 3) by decide +kernel) rfl [.ref 237] [] rfl rfl (Nat.le_of_ble_eq_true rfl) rfl rfl (c_sumOf (u := dv_cl P (sl_R t) r) hC8 (by omega) (fun k hk => by have := hcl k hk; omega)) ?_
    rintro hq _ ⟨e1, rfl⟩
    rw [e1]
    clear e1 hq
    show am_Rq _ 72 54 [some (.ref 212), some (.ref 3), some (.int (nI r)), some (.long (lN Lf)), none, some (.ref (217 + 1 * e)), some (.int (nI 5)), z7, z8, z9, z10] [.long (lN (sp_sm (dv_cl P (sl_R t) r) 5))] _ _
    refine am_Rq.blk (is := [(.lstore 6, 2), (.lload_n 3, 1), (.lload 6, 2), (.lcmp, 1)]) (q := (60, [some (.ref 212), some (.ref 3), some (.int (nI r)), some (.long (lN Lf)), none, some (.ref (217 + 1 * e)), some (.long (lN (sp_sm (dv_cl P (sl_R t) r) 5))), none, z8, z9, z10], [.int (lg_cmp (lN Lf) (lN (sp_sm (dv_cl P (sl_R t) r) 5)))])) (by decide +kernel) rfl ?_
    dsimp only
    refine am_Rq.if1 (t := 67) (show decode (am_by 72) 60 = .ok (.ifCond .lt 7, 3) by decide +kernel) (by decide) (fun hge => ?_) (fun hge => ?_)
    ·
      have hge := of_decide_eq_true ((nm_clt _ _).symm.trans hge)
      rw [nm_llt (a := Lf) (b := (sp_sm (dv_cl P (sl_R t) r) 5)) (by omega) (by omega)] at hge
      refine am_Rq.blk (is := [(.iconst 0, 1), (.istore 8, 2), (.iload 8, 2)]) (q := (72, [some (.ref 212), some (.ref 3), some (.int (nI r)), some (.long (lN Lf)), none, some (.ref (217 + 1 * e)), some (.long (lN (sp_sm (dv_cl P (sl_R t) r) 5))), none, some (.int (nI 0)), z9, z10], [.int (nI 0)])) (by decide +kernel) rfl ?_
      dsimp only
      refine am_Rq.if1T (t := 82) (show decode (am_by 72) 72 = .ok (.ifCond .eq 10, 3) by decide +kernel) (by decide) (rfl) ?_
      refine am_Rq.blk (is := [(.aload_n 0, 1)]) (q := (83, [some (.ref 212), some (.ref 3), some (.int (nI r)), some (.long (lN Lf)), none, some (.ref (217 + 1 * e)), some (.long (lN (sp_sm (dv_cl P (sl_R t) r) 5))), none, some (.int (nI 0)), z9, z10], [.ref 212])) (by decide +kernel) rfl ?_
      dsimp only
      refine am_Rq.getf (v := .ref 213) (show decode (am_by 72) 83 = .ok (.getfield 12, 3) by decide +kernel) rfl hO rfl ?_
      refine am_Rq.blk (is := [(.lload_n 3, 1), (.aload_n 0, 1)]) (q := (88, [some (.ref 212), some (.ref 3), some (.int (nI r)), some (.long (lN Lf)), none, some (.ref (217 + 1 * e)), some (.long (lN (sp_sm (dv_cl P (sl_R t) r) 5))), none, some (.int (nI 0)), z9, z10], [.ref 212, .long (lN Lf), .ref 213])) (by decide +kernel) rfl ?_
      dsimp only
      refine am_Rq.getf (v := .ref 237) (show decode (am_by 72) 88 = .ok (.getfield 38, 3) by decide +kernel) rfl hO rfl ?_
      refine am_Rq.callV (show decode (am_by 72) 91 = .ok (.invokevirtual 78, 3) by decide +kernel) rfl [.long (lN Lf), .ref 237] [] rfl rfl (Nat.le_of_ble_eq_true rfl) rfl hSh rfl (c_shareOut (u := dv_cl P (sl_R t) r) (n := 5) (A := Lf) hSh hPa hRe hC8 (by omega) (by omega) (by omega) (by omega) (by omega) (by omega) (by omega) (by omega) (by omega) (by omega) (fun k hk => by have := hcl k hk; omega) (by omega)) ?_
      rintro hp3 _ ⟨rfl, ⟨fs, hS1, hS2, hS3⟩, ⟨gs, hS4⟩, hf3⟩
      have hc3_212 := (hf3.2.2 (212) (fun q => by omega)).trans hO
      have hc3_213 := (hf3.2.2 (213) (fun q => by omega)).trans hSh
      have hc3_234 := (hf3.2.2 (234) (fun q => by omega)).trans hP4
      have hc3_237 := (hf3.2.2 (237) (fun q => by omega)).trans hC8
      have hc3_2171e := (hf3.2.2 (217 + 1 * e) (fun q => by omega)).trans hD
      have hL3x := Led.kept h (fun a ha => hf3.2.2 a (fun q => by obtain ⟨_, _⟩ := ha; omega))
      show am_Rq _ 72 94 [some (.ref 212), some (.ref 3), some (.int (nI r)), some (.long (lN Lf)), none, some (.ref (217 + 1 * e)), some (.long (lN (sp_sm (dv_cl P (sl_R t) r) 5))), none, some (.int (nI 0)), z9, z10] [.ref 214] _ _
      refine am_Rq.blk (is := [(.astore 9, 2), (.iconst 0, 1), (.istore 10, 2)]) (q := (99, [some (.ref 212), some (.ref 3), some (.int (nI r)), some (.long (lN Lf)), none, some (.ref (217 + 1 * e)), some (.long (lN (sp_sm (dv_cl P (sl_R t) r) 5))), none, some (.int (nI 0)), some (.ref 214), some (.int (nI 0))], [])) (by decide +kernel) rfl ?_
      dsimp only
      skip
      have hfT : am_fr (fun x => x = 237 ∨ x = 214 ∨ x = 215 ∨ x = 217 + 1 * e) hz _ := (hf0.trans (hf3.mono (A' := fun x => x = 237 ∨ x = 214 ∨ x = 215 ∨ x = 217 + 1 * e) (fun x q => by omega)))
      refine am_for (n := 5) (fun i lo hp => lo = [some (.ref 212), some (.ref 3), some (.int (nI r)), some (.long (lN Lf)), none, some (.ref (217 + 1 * e)), some (.long (lN (sp_sm (dv_cl P (sl_R t) r) 5))), none, some (.int (nI 0)), some (.ref 214), some (.int (nI i))] ∧ (∃ f9 : Nat → Int32, hp[217 + 1 * e]? = some (100, am_ia f9 6) ∧ (∀ q, q < i → f9 q = nI (D q + sp_sh 5 Lf (dv_cl P (sl_R t) r) q)) ∧ ∀ q, i ≤ q → q < 6 → f9 q = nI (D q)) ∧ hp[212]? = some (6, [.ref 213, .ref 216, .ref 233, .ref 234, .ref 235, .ref 236, .ref 237, .int (nI am)]) ∧ hp[213]? = some (5, [.ref 214, .ref 215]) ∧ hp[214]? = some (100, (am_ia fs 8)) ∧ hp[215]? = some (101, (am_la gs 8)) ∧ hp[234]? = some (100, (am_ia (fun c => nI (P c)) 5)) ∧ hp[237]? = some (100, (am_ia (fun c => nI (dv_cl P (sl_R t) r c)) 5)) ∧ am_fr (fun x => x = 237 ∨ x = 214 ∨ x = 215 ∨ x = 217 + 1 * e) hz hp) ?_ ?_ (i := 0) (by omega) ⟨rfl, ⟨_, hc3_2171e, fun q hq => by omega, fun q _ _ => rfl⟩, hc3_212, hc3_213, hS1, hS4, hc3_234, hc3_237, hfT⟩
      · rintro i lo hp hi ⟨rfl, ⟨f9, hD9, hx9, hy9⟩, k2, k3, k4, k5, k6, k7, hf9⟩ ih
        refine am_Rq.blk (is := [(.iload 10, 2), (.iconst 5, 1)]) (q := (102, [some (.ref 212), some (.ref 3), some (.int (nI r)), some (.long (lN Lf)), none, some (.ref (217 + 1 * e)), some (.long (lN (sp_sm (dv_cl P (sl_R t) r) 5))), none, some (.int (nI 0)), some (.ref 214), some (.int (nI i))], [.int (nI 5), .int (nI i)])) (by decide +kernel) rfl ?_
        dsimp only
        refine am_Rq.if2F (show decode (am_by 72) 102 = .ok (.if_icmp .ge 22, 3) by decide +kernel) (by decide) (by rw [nm_ge (by omega) (by omega)]; exact decide_eq_false (by omega)) ?_
        refine am_Rq.blk (is := [(.aload 5, 2), (.iload 10, 2), (.dup2, 1)]) (q := (110, [some (.ref 212), some (.ref 3), some (.int (nI r)), some (.long (lN Lf)), none, some (.ref (217 + 1 * e)), some (.long (lN (sp_sm (dv_cl P (sl_R t) r) 5))), none, some (.int (nI 0)), some (.ref 214), some (.int (nI i))], [.int (nI i), .ref (217 + 1 * e), .int (nI i), .ref (217 + 1 * e)])) (by decide +kernel) rfl ?_
        dsimp only
        refine am_Rq.ial (k := i) (show decode (am_by 72) 110 = .ok (.iaload, 1) by decide +kernel) hD9 (by omega) (by omega) ?_
        rw [hy9 i (by omega) (by omega)]
        refine am_Rq.blk (is := [(.aload 9, 2), (.iload 10, 2)]) (q := (115, [some (.ref 212), some (.ref 3), some (.int (nI r)), some (.long (lN Lf)), none, some (.ref (217 + 1 * e)), some (.long (lN (sp_sm (dv_cl P (sl_R t) r) 5))), none, some (.int (nI 0)), some (.ref 214), some (.int (nI i))], [.int (nI i), .ref 214, .int (nI (D i)), .int (nI i), .ref (217 + 1 * e)])) (by decide +kernel) rfl ?_
        dsimp only
        refine am_Rq.ial (k := i) (show decode (am_by 72) 115 = .ok (.iaload, 1) by decide +kernel) k4 (by omega) (by omega) ?_
        rw [hS2 i hi]
        refine am_Rq.blk (is := [(.iadd, 1)]) (q := (117, [some (.ref 212), some (.ref 3), some (.int (nI r)), some (.long (lN Lf)), none, some (.ref (217 + 1 * e)), some (.long (lN (sp_sm (dv_cl P (sl_R t) r) 5))), none, some (.int (nI 0)), some (.ref 214), some (.int (nI i))], [.int ((nI (D i)) + (nI (sp_sh 5 Lf (dv_cl P (sl_R t) r) i))), .int (nI i), .ref (217 + 1 * e)])) (by decide +kernel) rfl ?_
        dsimp only
        rw [show (nI (D i)) + (nI (sp_sh 5 Lf (dv_cl P (sl_R t) r) i)) = nI ((D i) + (sp_sh 5 Lf (dv_cl P (sl_R t) r) i)) from nI_add _ _]
        refine am_Rq.ias (k := i) (x := nI ((D i) + (sp_sh 5 Lf (dv_cl P (sl_R t) r) i))) (show decode (am_by 72) 117 = .ok (.iastore, 1) by decide +kernel) hD9 (by omega) (by omega) (by omega) ?_
        have hc4_212 := (am_sn (c' := (100, (am_ia (va_up f9 i (nI ((D i) + (sp_sh 5 Lf (dv_cl P (sl_R t) r) i)))) 6))) (show 217 + 1 * e ≠ 212 by omega)).trans k2
        have hc4_213 := (am_sn (c' := (100, (am_ia (va_up f9 i (nI ((D i) + (sp_sh 5 Lf (dv_cl P (sl_R t) r) i)))) 6))) (show 217 + 1 * e ≠ 213 by omega)).trans k3
        have hc4_214 := (am_sn (c' := (100, (am_ia (va_up f9 i (nI ((D i) + (sp_sh 5 Lf (dv_cl P (sl_R t) r) i)))) 6))) (show 217 + 1 * e ≠ 214 by omega)).trans k4
        have hc4_215 := (am_sn (c' := (100, (am_ia (va_up f9 i (nI ((D i) + (sp_sh 5 Lf (dv_cl P (sl_R t) r) i)))) 6))) (show 217 + 1 * e ≠ 215 by omega)).trans k5
        have hc4_234 := (am_sn (c' := (100, (am_ia (va_up f9 i (nI ((D i) + (sp_sh 5 Lf (dv_cl P (sl_R t) r) i)))) 6))) (show 217 + 1 * e ≠ 234 by omega)).trans k6
        have hc4_237 := (am_sn (c' := (100, (am_ia (va_up f9 i (nI ((D i) + (sp_sh 5 Lf (dv_cl P (sl_R t) r) i)))) 6))) (show 217 + 1 * e ≠ 237 by omega)).trans k7
        have hc4_2171e := am_ss (c' := (100, (am_ia (va_up f9 i (nI ((D i) + (sp_sh 5 Lf (dv_cl P (sl_R t) r) i)))) 6))) hD9
        have hf4 := (am_fr.rf (A := fun q => q = 217 + 1 * e)).set (c' := (100, (am_ia (va_up f9 i (nI ((D i) + (sp_sh 5 Lf (dv_cl P (sl_R t) r) i)))) 6))) rfl hD9 (by simp [am_ia_len, am_la_len])
        generalize hze4 : (List.set _ (217 + 1 * e) _ : am_H) = hz4 at hf4 hc4_212 hc4_213 hc4_214 hc4_215 hc4_234 hc4_237 hc4_2171e ⊢
        clear hze4
        refine am_Rq.blk (is := [(.iinc 10 1, 3)]) (q := (121, [some (.ref 212), some (.ref 3), some (.int (nI r)), some (.long (lN Lf)), none, some (.ref (217 + 1 * e)), some (.long (lN (sp_sm (dv_cl P (sl_R t) r) 5))), none, some (.int (nI 0)), some (.ref 214), some (.int ((nI i) + (nI 1)))], [])) (by decide +kernel) rfl ?_
        dsimp only
        rw [show (nI i) + (nI 1) = nI (i + 1) from nI_add _ _]
        refine am_Rq.blk (is := [(.goto (-22), 3)]) (q := (99, [some (.ref 212), some (.ref 3), some (.int (nI r)), some (.long (lN Lf)), none, some (.ref (217 + 1 * e)), some (.long (lN (sp_sm (dv_cl P (sl_R t) r) 5))), none, some (.int (nI 0)), some (.ref 214), some (.int (nI (i + 1)))], [])) (by decide +kernel) rfl ?_
        dsimp only
        refine ih _ _ ⟨rfl, ⟨_, hc4_2171e, fun q hq => ?_, fun q h1 h2 => ?_⟩, hc4_212, hc4_213, hc4_214, hc4_215, hc4_234, hc4_237, (hf9.trans (hf4.mono (A' := fun x => x = 237 ∨ x = 214 ∨ x = 215 ∨ x = 217 + 1 * e) (fun x q => by omega)))⟩
        · by_cases ee : q = i
          · rw [ee, va_up_self]
          · rw [va_up_ne _ _ ee]; exact hx9 q (by omega)
        · rw [va_up_ne _ _ (by omega)]; exact hy9 q (by omega) h2
      · rintro lo hp ⟨rfl, ⟨f9, hD9, hx9, hy9⟩, k2, k3, k4, k5, k6, k7, hf9⟩
        refine am_Rq.blk (is := [(.iload 10, 2), (.iconst 5, 1)]) (q := (102, [some (.ref 212), some (.ref 3), some (.int (nI r)), some (.long (lN Lf)), none, some (.ref (217 + 1 * e)), some (.long (lN (sp_sm (dv_cl P (sl_R t) r) 5))), none, some (.int (nI 0)), some (.ref 214), some (.int (nI 5))], [.int (nI 5), .int (nI 5)])) (by decide +kernel) rfl ?_
        dsimp only
        refine am_Rq.if2T (t := 124) (show decode (am_by 72) 102 = .ok (.if_icmp .ge 22, 3) by decide +kernel) (by decide) (by rw [nm_ge (by omega) (by omega)]; exact decide_eq_true (by omega)) ?_
        refine am_Rq.blk (is := [(.iload 8, 2)]) (q := (126, [some (.ref 212), some (.ref 3), some (.int (nI r)), some (.long (lN Lf)), none, some (.ref (217 + 1 * e)), some (.long (lN (sp_sm (dv_cl P (sl_R t) r) 5))), none, some (.int (nI 0)), some (.ref 214), some (.int (nI 5))], [.int (nI 0)])) (by decide +kernel) rfl ?_
        dsimp only
        refine am_Rq.if1T (t := 136) (show decode (am_by 72) 126 = .ok (.ifCond .eq 10, 3) by decide +kernel) (by decide) (rfl) ?_
        refine am_Rq.blk (is := [(.lconst 0, 1)]) (q := (137, [some (.ref 212), some (.ref 3), some (.int (nI r)), some (.long (lN Lf)), none, some (.ref (217 + 1 * e)), some (.long (lN (sp_sm (dv_cl P (sl_R t) r) 5))), none, some (.int (nI 0)), some (.ref 214), some (.int (nI 5))], [.long (lN 0)])) (by decide +kernel) rfl ?_
        dsimp only
        refine am_Rq.ret (v := some (.long (lN 0))) (show decode (am_by 72) 137 = .ok (.lreturn, 1) by decide +kernel) rfl rfl ?_
        refine ⟨_, rfl, by rw [show Lf - sp_sm (dv_cl P (sl_R t) r) 5 = 0 by omega], ?_, ⟨_, k4⟩, ⟨_, k5⟩, ⟨_, k7⟩, hf9⟩
        rw [hD9, c_ia_congr (fun q hq => ?_)]
        by_cases h5 : q < 5
        · rw [hx9 q h5, if_pos h5, if_neg (by omega)]
        · rw [hy9 q (by omega) hq, if_neg h5]
    ·
      have hge := of_decide_eq_false ((nm_clt _ _).symm.trans hge)
      rw [nm_llt (a := Lf) (b := (sp_sm (dv_cl P (sl_R t) r) 5)) (by omega) (by omega)] at hge
      refine am_Rq.blk (is := [(.iconst 1, 1), (.goto 4, 3)]) (q := (68, [some (.ref 212), some (.ref 3), some (.int (nI r)), some (.long (lN Lf)), none, some (.ref (217 + 1 * e)), some (.long (lN (sp_sm (dv_cl P (sl_R t) r) 5))), none, z8, z9, z10], [.int (nI 1)])) (by decide +kernel) rfl ?_
      dsimp only
      refine am_Rq.blk (is := [(.istore 8, 2), (.iload 8, 2)]) (q := (72, [some (.ref 212), some (.ref 3), some (.int (nI r)), some (.long (lN Lf)), none, some (.ref (217 + 1 * e)), some (.long (lN (sp_sm (dv_cl P (sl_R t) r) 5))), none, some (.int (nI 1)), z9, z10], [.int (nI 1)])) (by decide +kernel) rfl ?_
      dsimp only
      refine am_Rq.if1F (show decode (am_by 72) 72 = .ok (.ifCond .eq 10, 3) by decide +kernel) (by decide) (rfl) ?_
      refine am_Rq.blk (is := [(.aload_n 0, 1)]) (q := (76, [some (.ref 212), some (.ref 3), some (.int (nI r)), some (.long (lN Lf)), none, some (.ref (217 + 1 * e)), some (.long (lN (sp_sm (dv_cl P (sl_R t) r) 5))), none, some (.int (nI 1)), z9, z10], [.ref 212])) (by decide +kernel) rfl ?_
      dsimp only
      refine am_Rq.getf (v := .ref 237) (show decode (am_by 72) 76 = .ok (.getfield 38, 3) by decide +kernel) rfl hO rfl ?_
      refine am_Rq.blk (is := [(.goto 15, 3)]) (q := (94, [some (.ref 212), some (.ref 3), some (.int (nI r)), some (.long (lN Lf)), none, some (.ref (217 + 1 * e)), some (.long (lN (sp_sm (dv_cl P (sl_R t) r) 5))), none, some (.int (nI 1)), z9, z10], [.ref 237])) (by decide +kernel) rfl ?_
      dsimp only
      refine am_Rq.blk (is := [(.astore 9, 2), (.iconst 0, 1), (.istore 10, 2)]) (q := (99, [some (.ref 212), some (.ref 3), some (.int (nI r)), some (.long (lN Lf)), none, some (.ref (217 + 1 * e)), some (.long (lN (sp_sm (dv_cl P (sl_R t) r) 5))), none, some (.int (nI 1)), some (.ref 237), some (.int (nI 0))], [])) (by decide +kernel) rfl ?_
      dsimp only
      skip
      have hfT : am_fr (fun x => x = 237 ∨ x = 214 ∨ x = 215 ∨ x = 217 + 1 * e) hz _ := hf0
      refine am_for (n := 5) (fun i lo hp => lo = [some (.ref 212), some (.ref 3), some (.int (nI r)), some (.long (lN Lf)), none, some (.ref (217 + 1 * e)), some (.long (lN (sp_sm (dv_cl P (sl_R t) r) 5))), none, some (.int (nI 1)), some (.ref 237), some (.int (nI i))] ∧ (∃ f9 : Nat → Int32, hp[217 + 1 * e]? = some (100, am_ia f9 6) ∧ (∀ q, q < i → f9 q = nI (D q + dv_cl P (sl_R t) r q)) ∧ ∀ q, i ≤ q → q < 6 → f9 q = nI (D q)) ∧ hp[212]? = some (6, [.ref 213, .ref 216, .ref 233, .ref 234, .ref 235, .ref 236, .ref 237, .int (nI am)]) ∧ hp[213]? = some (5, [.ref 214, .ref 215]) ∧ hp[214]? = some (100, (am_ia fp 8)) ∧ hp[215]? = some (101, (am_la gr 8)) ∧ hp[234]? = some (100, (am_ia (fun c => nI (P c)) 5)) ∧ hp[237]? = some (100, (am_ia (fun c => nI (dv_cl P (sl_R t) r c)) 5)) ∧ am_fr (fun x => x = 237 ∨ x = 214 ∨ x = 215 ∨ x = 217 + 1 * e) hz hp) ?_ ?_ (i := 0) (by omega) ⟨rfl, ⟨_, hD, fun q hq => by omega, fun q _ _ => rfl⟩, hO, hSh, hPa, hRe, hP4, hC8, hfT⟩
      · rintro i lo hp hi ⟨rfl, ⟨f9, hD9, hx9, hy9⟩, k2, k3, k4, k5, k6, k7, hf9⟩ ih
        refine am_Rq.blk (is := [(.iload 10, 2), (.iconst 5, 1)]) (q := (102, [some (.ref 212), some (.ref 3), some (.int (nI r)), some (.long (lN Lf)), none, some (.ref (217 + 1 * e)), some (.long (lN (sp_sm (dv_cl P (sl_R t) r) 5))), none, some (.int (nI 1)), some (.ref 237), some (.int (nI i))], [.int (nI 5), .int (nI i)])) (by decide +kernel) rfl ?_
        dsimp only
        refine am_Rq.if2F (show decode (am_by 72) 102 = .ok (.if_icmp .ge 22, 3) by decide +kernel) (by decide) (by rw [nm_ge (by omega) (by omega)]; exact decide_eq_false (by omega)) ?_
        refine am_Rq.blk (is := [(.aload 5, 2), (.iload 10, 2), (.dup2, 1)]) (q := (110, [some (.ref 212), some (.ref 3), some (.int (nI r)), some (.long (lN Lf)), none, some (.ref (217 + 1 * e)), some (.long (lN (sp_sm (dv_cl P (sl_R t) r) 5))), none, some (.int (nI 1)), some (.ref 237), some (.int (nI i))], [.int (nI i), .ref (217 + 1 * e), .int (nI i), .ref (217 + 1 * e)])) (by decide +kernel) rfl ?_
        dsimp only
        refine am_Rq.ial (k := i) (show decode (am_by 72) 110 = .ok (.iaload, 1) by decide +kernel) hD9 (by omega) (by omega) ?_
        rw [hy9 i (by omega) (by omega)]
        refine am_Rq.blk (is := [(.aload 9, 2), (.iload 10, 2)]) (q := (115, [some (.ref 212), some (.ref 3), some (.int (nI r)), some (.long (lN Lf)), none, some (.ref (217 + 1 * e)), some (.long (lN (sp_sm (dv_cl P (sl_R t) r) 5))), none, some (.int (nI 1)), some (.ref 237), some (.int (nI i))], [.int (nI i), .ref 237, .int (nI (D i)), .int (nI i), .ref (217 + 1 * e)])) (by decide +kernel) rfl ?_
        dsimp only
        refine am_Rq.ial (k := i) (show decode (am_by 72) 115 = .ok (.iaload, 1) by decide +kernel) k7 (by omega) (by omega) ?_
        refine am_Rq.blk (is := [(.iadd, 1)]) (q := (117, [some (.ref 212), some (.ref 3), some (.int (nI r)), some (.long (lN Lf)), none, some (.ref (217 + 1 * e)), some (.long (lN (sp_sm (dv_cl P (sl_R t) r) 5))), none, some (.int (nI 1)), some (.ref 237), some (.int (nI i))], [.int ((nI (D i)) + (nI (dv_cl P (sl_R t) r i))), .int (nI i), .ref (217 + 1 * e)])) (by decide +kernel) rfl ?_
        dsimp only
        rw [show (nI (D i)) + (nI (dv_cl P (sl_R t) r i)) = nI ((D i) + (dv_cl P (sl_R t) r i)) from nI_add _ _]
        refine am_Rq.ias (k := i) (x := nI ((D i) + (dv_cl P (sl_R t) r i))) (show decode (am_by 72) 117 = .ok (.iastore, 1) by decide +kernel) hD9 (by omega) (by omega) (by omega) ?_
        have hc5_212 := (am_sn (c' := (100, (am_ia (va_up f9 i (nI ((D i) + (dv_cl P (sl_R t) r i)))) 6))) (show 217 + 1 * e ≠ 212 by omega)).trans k2
        have hc5_213 := (am_sn (c' := (100, (am_ia (va_up f9 i (nI ((D i) + (dv_cl P (sl_R t) r i)))) 6))) (show 217 + 1 * e ≠ 213 by omega)).trans k3
        have hc5_214 := (am_sn (c' := (100, (am_ia (va_up f9 i (nI ((D i) + (dv_cl P (sl_R t) r i)))) 6))) (show 217 + 1 * e ≠ 214 by omega)).trans k4
        have hc5_215 := (am_sn (c' := (100, (am_ia (va_up f9 i (nI ((D i) + (dv_cl P (sl_R t) r i)))) 6))) (show 217 + 1 * e ≠ 215 by omega)).trans k5
        have hc5_234 := (am_sn (c' := (100, (am_ia (va_up f9 i (nI ((D i) + (dv_cl P (sl_R t) r i)))) 6))) (show 217 + 1 * e ≠ 234 by omega)).trans k6
        have hc5_237 := (am_sn (c' := (100, (am_ia (va_up f9 i (nI ((D i) + (dv_cl P (sl_R t) r i)))) 6))) (show 217 + 1 * e ≠ 237 by omega)).trans k7
        have hc5_2171e := am_ss (c' := (100, (am_ia (va_up f9 i (nI ((D i) + (dv_cl P (sl_R t) r i)))) 6))) hD9
        have hf5 := (am_fr.rf (A := fun q => q = 217 + 1 * e)).set (c' := (100, (am_ia (va_up f9 i (nI ((D i) + (dv_cl P (sl_R t) r i)))) 6))) rfl hD9 (by simp [am_ia_len, am_la_len])
        generalize hze5 : (List.set _ (217 + 1 * e) _ : am_H) = hz5 at hf5 hc5_212 hc5_213 hc5_214 hc5_215 hc5_234 hc5_237 hc5_2171e ⊢
        clear hze5
        refine am_Rq.blk (is := [(.iinc 10 1, 3)]) (q := (121, [some (.ref 212), some (.ref 3), some (.int (nI r)), some (.long (lN Lf)), none, some (.ref (217 + 1 * e)), some (.long (lN (sp_sm (dv_cl P (sl_R t) r) 5))), none, some (.int (nI 1)), some (.ref 237), some (.int ((nI i) + (nI 1)))], [])) (by decide +kernel) rfl ?_
        dsimp only
        rw [show (nI i) + (nI 1) = nI (i + 1) from nI_add _ _]
        refine am_Rq.blk (is := [(.goto (-22), 3)]) (q := (99, [some (.ref 212), some (.ref 3), some (.int (nI r)), some (.long (lN Lf)), none, some (.ref (217 + 1 * e)), some (.long (lN (sp_sm (dv_cl P (sl_R t) r) 5))), none, some (.int (nI 1)), some (.ref 237), some (.int (nI (i + 1)))], [])) (by decide +kernel) rfl ?_
        dsimp only
        refine ih _ _ ⟨rfl, ⟨_, hc5_2171e, fun q hq => ?_, fun q h1 h2 => ?_⟩, hc5_212, hc5_213, hc5_214, hc5_215, hc5_234, hc5_237, (hf9.trans (hf5.mono (A' := fun x => x = 237 ∨ x = 214 ∨ x = 215 ∨ x = 217 + 1 * e) (fun x q => by omega)))⟩
        · by_cases ee : q = i
          · rw [ee, va_up_self]
          · rw [va_up_ne _ _ ee]; exact hx9 q (by omega)
        · rw [va_up_ne _ _ (by omega)]; exact hy9 q (by omega) h2
      · rintro lo hp ⟨rfl, ⟨f9, hD9, hx9, hy9⟩, k2, k3, k4, k5, k6, k7, hf9⟩
        refine am_Rq.blk (is := [(.iload 10, 2), (.iconst 5, 1)]) (q := (102, [some (.ref 212), some (.ref 3), some (.int (nI r)), some (.long (lN Lf)), none, some (.ref (217 + 1 * e)), some (.long (lN (sp_sm (dv_cl P (sl_R t) r) 5))), none, some (.int (nI 1)), some (.ref 237), some (.int (nI 5))], [.int (nI 5), .int (nI 5)])) (by decide +kernel) rfl ?_
        dsimp only
        refine am_Rq.if2T (t := 124) (show decode (am_by 72) 102 = .ok (.if_icmp .ge 22, 3) by decide +kernel) (by decide) (by rw [nm_ge (by omega) (by omega)]; exact decide_eq_true (by omega)) ?_
        refine am_Rq.blk (is := [(.iload 8, 2)]) (q := (126, [some (.ref 212), some (.ref 3), some (.int (nI r)), some (.long (lN Lf)), none, some (.ref (217 + 1 * e)), some (.long (lN (sp_sm (dv_cl P (sl_R t) r) 5))), none, some (.int (nI 1)), some (.ref 237), some (.int (nI 5))], [.int (nI 1)])) (by decide +kernel) rfl ?_
        dsimp only
        refine am_Rq.if1F (show decode (am_by 72) 126 = .ok (.ifCond .eq 10, 3) by decide +kernel) (by decide) (rfl) ?_
        refine am_Rq.blk (is := [(.lload_n 3, 1), (.lload 6, 2), (.lsub, 1)]) (q := (133, [some (.ref 212), some (.ref 3), some (.int (nI r)), some (.long (lN Lf)), none, some (.ref (217 + 1 * e)), some (.long (lN (sp_sm (dv_cl P (sl_R t) r) 5))), none, some (.int (nI 1)), some (.ref 237), some (.int (nI 5))], [.long ((lN Lf) - (lN (sp_sm (dv_cl P (sl_R t) r) 5)))])) (by decide +kernel) rfl ?_
        dsimp only
        rw [show (lN Lf) - (lN (sp_sm (dv_cl P (sl_R t) r) 5)) = lN (Lf - (sp_sm (dv_cl P (sl_R t) r) 5)) from lN_sub (by omega)]
        refine am_Rq.blk (is := [(.goto 4, 3)]) (q := (137, [some (.ref 212), some (.ref 3), some (.int (nI r)), some (.long (lN Lf)), none, some (.ref (217 + 1 * e)), some (.long (lN (sp_sm (dv_cl P (sl_R t) r) 5))), none, some (.int (nI 1)), some (.ref 237), some (.int (nI 5))], [.long (lN (Lf - (sp_sm (dv_cl P (sl_R t) r) 5)))])) (by decide +kernel) rfl ?_
        dsimp only
        refine am_Rq.ret (v := some (.long (lN (Lf - (sp_sm (dv_cl P (sl_R t) r) 5))))) (show decode (am_by 72) 137 = .ok (.lreturn, 1) by decide +kernel) rfl rfl ?_
        refine ⟨_, rfl, rfl, ?_, ⟨_, k4⟩, ⟨_, k5⟩, ⟨_, k7⟩, hf9⟩
        rw [hD9, c_ia_congr (fun q hq => ?_)]
        by_cases h5 : q < 5
        · rw [hx9 q h5, if_pos h5, if_pos (by omega)]
        · rw [hy9 q (by omega) hq, if_neg h5]
theorem c_firstAbove {am : Nat} (hO : hp[212]? = some (6, [.ref 213, .ref 216, .ref 233, .ref 234, .ref 235, .ref 236, .ref 237, .int (nI am)])) {W : Nat → Nat} (h5 : hp[235]? = some (100, am_ia (fun c => nI (W c)) 5)) (hW : ∀ c, c < 5 → W c ≤ 20000000) {M : Nat → Nat} (h6 : hp[236]? = some (101, am_la (fun c => lN (M c)) 5)) (hM : ∀ c, c < 5 → M c ≤ 18000000000) {Lf : Nat} (hL : Lf ≤ 2000000000)  : am_Rq (d + 1) 77 0 (am_en [.ref 212, .long (lN Lf)] 6) [] hp (am_Ret fun hp1 v => hp1 = hp ∧ v = some (.int (if dv_f (dv_up M W Lf) 5 < 5 then nI (dv_f (dv_up M W Lf) 5) else am_ic (-1)))) := by
  show am_Rq _ 77 0 [some (.ref 212), some (.long (lN Lf)), none, none, none, none] [] _ _
  have hsm := sp_sm_bd hW
  refine am_Rq.blk (is := [(.aload_n 0, 1)]) (q := (1, [some (.ref 212), some (.long (lN Lf)), none, none, none, none], [.ref 212])) (by decide +kernel) rfl ?_
  dsimp only
  refine am_Rq.getf (v := .ref 235) (show decode (am_by 77) 1 = .ok (.getfield 31, 3) by decide +kernel) rfl hO rfl ?_
  refine am_Rq.callS (show decode (am_by 77) 4 = .ok (.invokestatic 128, 3) by decide +kernel) rfl [.ref 235] [] rfl rfl (Nat.le_of_ble_eq_true rfl) rfl rfl (c_sumOf (u := W) h5 (by omega) (fun k hk => by have := hW k hk; omega)) ?_
  rintro hq _ ⟨e1, rfl⟩
  rw [e1]
  clear e1 hq
  show am_Rq _ 77 7 [some (.ref 212), some (.long (lN Lf)), none, none, none, none] [.long (lN (sp_sm W 5))] _ _
  refine am_Rq.blk (is := [(.lstore_n 3, 1), (.lload_n 3, 1), (.lconst 1, 1), (.lcmp, 1)]) (q := (11, [some (.ref 212), some (.long (lN Lf)), none, some (.long (lN (sp_sm W 5))), none, none], [.int (lg_cmp (lN (sp_sm W 5)) (lN 1))])) (by decide +kernel) rfl ?_
  dsimp only
  refine am_Rq.if1 (t := 16) (show decode (am_by 77) 11 = .ok (.ifCond .ge 5, 3) by decide +kernel) (by decide) (fun h1 => ?_) (fun h1 => ?_)
  ·
    have h1 := of_decide_eq_true ((nm_cge _ _).symm.trans h1)
    rw [nm_lle (a := 1) (b := (sp_sm W 5)) (by omega) (by omega)] at h1
    refine am_Rq.blk (is := [(.iconst 0, 1), (.istore 5, 2)]) (q := (19, [some (.ref 212), some (.long (lN Lf)), none, some (.long (lN (sp_sm W 5))), none, some (.int (nI 0))], [])) (by decide +kernel) rfl ?_
    dsimp only
    have key : ∀ hz, hz = hp → am_Rq (d + 1) 77 19 [some (.ref 212), some (.long (lN Lf)), none, some (.long (lN (sp_sm W 5))), none, some (.int (nI 0))] [] hz (am_Ret fun hp1 v => hp1 = hp ∧ v = some (.int (if dv_f (dv_up M W Lf) 5 < 5 then nI (dv_f (dv_up M W Lf) 5) else am_ic (-1)))) := ?_
    · exact key hp rfl
    intro hz hze
    subst hze
    refine am_for (n := 5) (fun i lo hp => lo = [some (.ref 212), some (.long (lN Lf)), none, some (.long (lN (sp_sm W 5))), none, some (.int (nI i))] ∧ hp = hz ∧ ∀ q, q < i → dv_up M W Lf q = false) ?_ ?_ (i := 0) (by omega) ⟨rfl, rfl, fun q hq => by omega⟩
    · rintro i lo hp hi ⟨rfl, rfl, hx⟩ ih
      refine am_Rq.blk (is := [(.iload 5, 2), (.iconst 5, 1)]) (q := (22, [some (.ref 212), some (.long (lN Lf)), none, some (.long (lN (sp_sm W 5))), none, some (.int (nI i))], [.int (nI 5), .int (nI i)])) (by decide +kernel) rfl ?_
      dsimp only
      refine am_Rq.if2F (show decode (am_by 77) 22 = .ok (.if_icmp .ge 35, 3) by decide +kernel) (by decide) (by rw [nm_ge (by omega) (by omega)]; exact decide_eq_false (by omega)) ?_
      have w1 := hW i hi
      have m1 := hM i hi
      have lw : Lf * W i ≤ 2000000000 * 20000000 := Nat.mul_le_mul hL w1
      have ld := Nat.div_le_self (Lf * W i) (sp_sm W 5)
      refine am_Rq.blk (is := [(.lload_n 1, 1), (.aload_n 0, 1)]) (q := (27, [some (.ref 212), some (.long (lN Lf)), none, some (.long (lN (sp_sm W 5))), none, some (.int (nI i))], [.ref 212, .long (lN Lf)])) (by decide +kernel) rfl ?_
      dsimp only
      refine am_Rq.getf (v := .ref 235) (show decode (am_by 77) 27 = .ok (.getfield 31, 3) by decide +kernel) rfl hO rfl ?_
      refine am_Rq.blk (is := [(.iload 5, 2)]) (q := (32, [some (.ref 212), some (.long (lN Lf)), none, some (.long (lN (sp_sm W 5))), none, some (.int (nI i))], [.int (nI i), .ref 235, .long (lN Lf)])) (by decide +kernel) rfl ?_
      dsimp only
      refine am_Rq.ial (k := i) (show decode (am_by 77) 32 = .ok (.iaload, 1) by decide +kernel) h5 (by omega) (by omega) ?_
      refine am_Rq.blk (is := [(.i2l, 1)]) (q := (34, [some (.ref 212), some (.long (lN Lf)), none, some (.long (lN (sp_sm W 5))), none, some (.int (nI i))], [.long ((nI (W i)).toInt64), .long (lN Lf)])) (by decide +kernel) rfl ?_
      dsimp only
      rw [show (nI (W i)).toInt64 = lN (W i) from nm_l (by omega)]
      refine am_Rq.blk (is := [(.lmul, 1)]) (q := (35, [some (.ref 212), some (.long (lN Lf)), none, some (.long (lN (sp_sm W 5))), none, some (.int (nI i))], [.long ((lN Lf) * (lN (W i)))])) (by decide +kernel) rfl ?_
      dsimp only
      rw [show (lN Lf) * (lN (W i)) = lN (Lf * (W i)) from lN_mul _ _]
      refine am_Rq.blk (is := [(.lload_n 3, 1)]) (q := (36, [some (.ref 212), some (.long (lN Lf)), none, some (.long (lN (sp_sm W 5))), none, some (.int (nI i))], [.long (lN (sp_sm W 5)), .long (lN (Lf * (W i)))])) (by decide +kernel) rfl ?_
      dsimp only
      refine am_Rq.ldivN (a := Lf * (W i)) (b := sp_sm W 5) (show decode (am_by 77) 36 = .ok (.ldiv, 1) by decide +kernel) (by omega) (by omega) (by omega) ?_
      refine am_Rq.blk (is := [(.aload_n 0, 1)]) (q := (38, [some (.ref 212), some (.long (lN Lf)), none, some (.long (lN (sp_sm W 5))), none, some (.int (nI i))], [.ref 212, .long (lN ((Lf * (W i)) / (sp_sm W 5)))])) (by decide +kernel) rfl ?_
      dsimp only
      refine am_Rq.getf (v := .ref 236) (show decode (am_by 77) 38 = .ok (.getfield 34, 3) by decide +kernel) rfl hO rfl ?_
      refine am_Rq.blk (is := [(.iload 5, 2)]) (q := (43, [some (.ref 212), some (.long (lN Lf)), none, some (.long (lN (sp_sm W 5))), none, some (.int (nI i))], [.int (nI i), .ref 236, .long (lN ((Lf * (W i)) / (sp_sm W 5)))])) (by decide +kernel) rfl ?_
      dsimp only
      refine am_Rq.lal (k := i) (show decode (am_by 77) 43 = .ok (.laload, 1) by decide +kernel) h6 (by omega) (by omega) ?_
      refine am_Rq.blk (is := [(.lcmp, 1)]) (q := (45, [some (.ref 212), some (.long (lN Lf)), none, some (.long (lN (sp_sm W 5))), none, some (.int (nI i))], [.int (lg_cmp (lN ((Lf * (W i)) / (sp_sm W 5))) (lN (M i)))])) (by decide +kernel) rfl ?_
      dsimp only
      refine am_Rq.if1 (t := 51) (show decode (am_by 77) 45 = .ok (.ifCond .le 6, 3) by decide +kernel) (by decide) (fun hc => ?_) (fun hc => ?_)
      ·
        have hc := of_decide_eq_true ((nm_cle _ _).symm.trans hc)
        rw [nm_lle (a := ((Lf * (W i)) / (sp_sm W 5))) (b := (M i)) (by omega) (by omega)] at hc
        refine am_Rq.blk (is := [(.iinc 5 1, 3)]) (q := (54, [some (.ref 212), some (.long (lN Lf)), none, some (.long (lN (sp_sm W 5))), none, some (.int ((nI i) + (nI 1)))], [])) (by decide +kernel) rfl ?_
        dsimp only
        rw [show (nI i) + (nI 1) = nI (i + 1) from nI_add _ _]
        refine am_Rq.blk (is := [(.goto (-35), 3)]) (q := (19, [some (.ref 212), some (.long (lN Lf)), none, some (.long (lN (sp_sm W 5))), none, some (.int (nI (i + 1)))], [])) (by decide +kernel) rfl ?_
        dsimp only
        refine ih _ _ ⟨rfl, rfl, fun q hq => ?_⟩
        by_cases ee : q = i
        · rw [ee]; exact decide_eq_false (by omega)
        · exact hx q (by omega)
      ·
        have hc := of_decide_eq_false ((nm_cle _ _).symm.trans hc)
        rw [nm_lle (a := ((Lf * (W i)) / (sp_sm W 5))) (b := (M i)) (by omega) (by omega)] at hc
        refine am_Rq.blk (is := [(.iload 5, 2)]) (q := (50, [some (.ref 212), some (.long (lN Lf)), none, some (.long (lN (sp_sm W 5))), none, some (.int (nI i))], [.int (nI i)])) (by decide +kernel) rfl ?_
        dsimp only
        refine am_Rq.ret (v := some (.int (nI i))) (show decode (am_by 77) 50 = .ok (.ireturn, 1) by decide +kernel) rfl rfl ?_
        refine ⟨_, rfl, rfl, ?_⟩
        rw [dv_f_some (decide_eq_true (by omega)) hx hi, if_pos hi]
    · rintro lo hp ⟨rfl, rfl, hx⟩
      refine am_Rq.blk (is := [(.iload 5, 2), (.iconst 5, 1)]) (q := (22, [some (.ref 212), some (.long (lN Lf)), none, some (.long (lN (sp_sm W 5))), none, some (.int (nI 5))], [.int (nI 5), .int (nI 5)])) (by decide +kernel) rfl ?_
      dsimp only
      refine am_Rq.if2T (t := 57) (show decode (am_by 77) 22 = .ok (.if_icmp .ge 35, 3) by decide +kernel) (by decide) (by rw [nm_ge (by omega) (by omega)]; exact decide_eq_true (by omega)) ?_
      refine am_Rq.blk (is := [(.iconst (-1), 1)]) (q := (58, [some (.ref 212), some (.long (lN Lf)), none, some (.long (lN (sp_sm W 5))), none, some (.int (nI 5))], [.int (am_ic (-1))])) (by decide +kernel) rfl ?_
      dsimp only
      refine am_Rq.ret (v := some (.int (am_ic (-1)))) (show decode (am_by 77) 58 = .ok (.ireturn, 1) by decide +kernel) rfl rfl ?_
      refine ⟨_, rfl, rfl, ?_⟩
      rw [dv_f_none hx, if_neg (by omega)]
  ·
    have h1 := of_decide_eq_false ((nm_cge _ _).symm.trans h1)
    rw [nm_lle (a := 1) (b := (sp_sm W 5)) (by omega) (by omega)] at h1
    refine am_Rq.blk (is := [(.iconst (-1), 1)]) (q := (15, [some (.ref 212), some (.long (lN Lf)), none, some (.long (lN (sp_sm W 5))), none, none], [.int (am_ic (-1))])) (by decide +kernel) rfl ?_
    dsimp only
    refine am_Rq.ret (v := some (.int (am_ic (-1)))) (show decode (am_by 77) 15 = .ok (.ireturn, 1) by decide +kernel) rfl rfl ?_
    refine ⟨_, rfl, rfl, ?_⟩
    rw [dv_f_none (p := dv_up M W Lf) (fun c hc => decide_eq_false (by rw [show sp_sm W 5 = 0 by omega, Nat.div_zero]; omega)), if_neg (by omega)]
end C14
