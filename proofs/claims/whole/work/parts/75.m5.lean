/-! The reference: pool, pass (rows by prog/m5.py). -/
section M5
variable {d : Nat} {hp : am_H}
theorem m_pool {th kn co : Nat} (hM : hp[238]? = some (7, [.int (nI th), .ref 239, .ref 240, .int (nI kn), .ref 241, .ref 242, .ref 243, .ref 244, .long (lN co), .ref 245])) {s : Nat → Nat} (hS : hp[239]? = some (100, am_ia (fun i => nI (s i)) 160)) {f : Nat → Int32} (hF : hp[240]? = some (100, am_ia f 1280)) (hkn : kn ≤ 8) {n : Nat} (hn : n ≤ 5000) (h82 : s 82 ≤ 10) (hg : sp_sm (fun g => s (83 + 7 * g + 1)) (s 82) ≤ n) : am_Rq (d + 2) 104 0 (am_en [.ref 238, .int (nI n)] 3) [] hp (am_Ret fun hp1 v => v = some (.int (nI (s 80))) ∧ m_Chg hp f kn co s (va_up s 80 n) hp1) := by
  show am_Rq _ 104 0 [some (.ref 238), some (.int (nI n)), none] [] _ _
  refine am_Rq.blk (is := [(.aload_n 0, 1), (.iload_n 1, 1), (.iconst 0, 1), (.sipush 5000, 3)]) (q := (6, [some (.ref 238), some (.int (nI n)), none], [.int (nI 5000), .int (nI 0), .int (nI n), .ref 238])) (by decide +kernel) rfl ?_
  dsimp only
  refine am_Rq.callS (show decode (am_by 104) 6 = .ok (.invokestatic 39, 3) by decide +kernel) rfl [.int (nI n), .int (nI 0), .int (nI 5000)] [.ref 238] rfl rfl (Nat.le_of_ble_eq_true rfl) rfl rfl (m_in (nI n) (nI 0) (nI 5000)) ?_
  rintro hq _ ⟨e1, rfl⟩
  rw [e1]
  clear e1 hq
  show am_Rq _ 104 9 [some (.ref 238), some (.int (nI n)), none] [.int (nI (am_b (rg_r (nI 0) (nI 5000) (nI n)))), .ref 238] _ _
  refine am_Rq.if1F (show decode (am_by 104) 9 = .ok (.ifCond .eq 11, 3) by decide +kernel) (by decide) (by rw [am_b_eq, rg_le (by omega) hn (by omega)]; rfl) ?_
  refine am_Rq.blk (is := [(.iload_n 1, 1), (.aload_n 0, 1)]) (q := (14, [some (.ref 238), some (.int (nI n)), none], [.ref 238, .int (nI n), .ref 238])) (by decide +kernel) rfl ?_
  dsimp only
  refine am_Rq.callV (show decode (am_by 104) 14 = .ok (.invokevirtual 80, 3) by decide +kernel) rfl [] [.int (nI n), .ref 238] rfl rfl (Nat.le_of_ble_eq_true rfl) rfl hM rfl (m_grantedNow hM hS h82) ?_
  rintro hq _ ⟨e1, rfl⟩
  rw [e1]
  clear e1 hq
  show am_Rq _ 104 17 [some (.ref 238), some (.int (nI n)), none] [.int (nI (sp_sm (fun g => s (83 + 7 * g + 1)) (s 82))), .int (nI n), .ref 238] _ _
  refine am_Rq.if2T (t := 24) (show decode (am_by 104) 17 = .ok (.if_icmp .ge 7, 3) by decide +kernel) (by decide) (by rw [nm_ge (by omega) (by omega)]; exact decide_eq_true hg) ?_
  refine am_Rq.blk (is := [(.iconst 0, 1), (.iconst 0, 1), (.iconst 0, 1)]) (q := (27, [some (.ref 238), some (.int (nI n)), none], [.int (nI 0), .int (nI 0), .int (nI 0), .ref 238])) (by decide +kernel) rfl ?_
  dsimp only
  refine am_Rq.callV (show decode (am_by 104) 27 = .ok (.invokevirtual 57, 3) by decide +kernel) rfl [.int (nI (am_b false)), .int (nI (am_b false)), .int (nI (am_b false))] [] rfl rfl (Nat.le_of_ble_eq_true rfl) rfl hM rfl (m_refused hM false false false) ?_
  rintro _ _ ⟨rfl, rfl⟩
  have hM1 := am_ss (c' := (7, m_ob 0 kn co)) hM
  have hS1 := (am_sn (c' := (7, m_ob 0 kn co)) (show 238 ≠ 239 by decide)).trans hS
  show am_Rq _ 104 30 [some (.ref 238), some (.int (nI n)), none] [.int (nI (am_b false))] _ _
  refine am_Rq.if1T (t := 35) (show decode (am_by 104) 30 = .ok (.ifCond .eq 5, 3) by decide +kernel) (by decide) (rfl) ?_
  refine am_Rq.blk (is := [(.aload_n 0, 1)]) (q := (36, [some (.ref 238), some (.int (nI n)), none], [.ref 238])) (by decide +kernel) rfl ?_
  dsimp only
  have hF1 := (am_sn (c' := (7, m_ob 0 kn co)) (show 238 ≠ 240 by decide)).trans hF
  refine am_Rq.callV (show decode (am_by 104) 36 = .ok (.invokevirtual 61, 3) by decide +kernel) rfl [] [] rfl rfl (Nat.le_of_ble_eq_true rfl) rfl hM1 rfl (m_remember hM1 hS1 hF1 hkn) ?_
  rintro hp2 _ ⟨rfl, hM2, ⟨f1, hF2, hF3, hF4⟩, hf2⟩
  have hS2 := (hf2.2.2 239 (fun q => by omega)).trans hS1
  have hfr : am_fr (fun x => 238 ≤ x ∧ x < 241) hp hp2 := ((am_fr.rf (A := fun x => 238 ≤ x ∧ x < 241)).set (c' := (7, m_ob 0 kn co)) ⟨by decide, by decide⟩ hM rfl).trans (hf2.mono (A' := fun x => 238 ≤ x ∧ x < 241) (fun x q => by rcases q with q | q <;> subst q <;> exact ⟨by decide, by decide⟩))
  show am_Rq _ 104 39 [some (.ref 238), some (.int (nI n)), none] [] _ _
  refine am_Rq.blk (is := [(.aload_n 0, 1)]) (q := (40, [some (.ref 238), some (.int (nI n)), none], [.ref 238])) (by decide +kernel) rfl ?_
  dsimp only
  refine am_Rq.getf (v := .ref 239) (show decode (am_by 104) 40 = .ok (.getfield 7, 3) by decide +kernel) rfl hM2 rfl ?_
  refine am_Rq.blk (is := [(.bipush 80, 2)]) (q := (45, [some (.ref 238), some (.int (nI n)), none], [.int (nI 80), .ref 239])) (by decide +kernel) rfl ?_
  dsimp only
  refine am_Rq.ial (k := 80) (show decode (am_by 104) 45 = .ok (.iaload, 1) by decide +kernel) hS2 (by omega) (by omega) ?_
  refine am_Rq.blk (is := [(.istore_n 2, 1), (.aload_n 0, 1)]) (q := (48, [some (.ref 238), some (.int (nI n)), some (.int (nI (s 80)))], [.ref 238])) (by decide +kernel) rfl ?_
  dsimp only
  refine am_Rq.getf (v := .ref 239) (show decode (am_by 104) 48 = .ok (.getfield 7, 3) by decide +kernel) rfl hM2 rfl ?_
  refine am_Rq.blk (is := [(.bipush 80, 2), (.iload_n 1, 1)]) (q := (54, [some (.ref 238), some (.int (nI n)), some (.int (nI (s 80)))], [.int (nI n), .int (nI 80), .ref 239])) (by decide +kernel) rfl ?_
  dsimp only
  refine am_Rq.ias (k := 80) (x := nI n) (show decode (am_by 104) 54 = .ok (.iastore, 1) by decide +kernel) hS2 (by omega) (by omega) (by omega) ?_
  refine am_Rq.blk (is := [(.iload_n 2, 1)]) (q := (56, [some (.ref 238), some (.int (nI n)), some (.int (nI (s 80)))], [.int (nI (s 80))])) (by decide +kernel) rfl ?_
  dsimp only
  refine am_Rq.ret (v := some (.int (nI (s 80)))) (show decode (am_by 104) 56 = .ok (.ireturn, 1) by decide +kernel) rfl rfl ?_
  refine ⟨_, rfl, rfl, ((am_sn (by decide)).trans hM2), ?_, ⟨f1, ((am_sn (by decide)).trans hF2), hF3, hF4⟩, (hfr.set ⟨by decide, by decide⟩ hS2 (by simp [am_ia_len]))⟩
  rw [← m_up]
  exact (am_ss hS2)
theorem m_pool_no1 {th kn co : Nat} (hM : hp[238]? = some (7, [.int (nI th), .ref 239, .ref 240, .int (nI kn), .ref 241, .ref 242, .ref 243, .ref 244, .long (lN co), .ref 245])) {s : Nat → Nat} (hS : hp[239]? = some (100, am_ia (fun i => nI (s i)) 160)) {x : Int32} (hx : rg_r (nI 0) (nI 5000) x = false) : am_Rq (d + 2) 104 0 (am_en [.ref 238, .int x] 3) [] hp (am_Ret fun hp1 v => hp1 = hp.set 238 (7, m_ob 1 kn co) ∧ v = some (.int (nI (0)))) := by
  show am_Rq _ 104 0 [some (.ref 238), some (.int x), none] [] _ _
  refine am_Rq.blk (is := [(.aload_n 0, 1), (.iload_n 1, 1), (.iconst 0, 1), (.sipush 5000, 3)]) (q := (6, [some (.ref 238), some (.int x), none], [.int (nI 5000), .int (nI 0), .int x, .ref 238])) (by decide +kernel) rfl ?_
  dsimp only
  refine am_Rq.callS (show decode (am_by 104) 6 = .ok (.invokestatic 39, 3) by decide +kernel) rfl [.int x, .int (nI 0), .int (nI 5000)] [.ref 238] rfl rfl (Nat.le_of_ble_eq_true rfl) rfl rfl (m_in (x) (nI 0) (nI 5000)) ?_
  rintro hq _ ⟨e1, rfl⟩
  rw [e1]
  clear e1 hq
  show am_Rq _ 104 9 [some (.ref 238), some (.int x), none] [.int (nI (am_b (rg_r (nI 0) (nI 5000) (x)))), .ref 238] _ _
  refine am_Rq.if1T (t := 20) (show decode (am_by 104) 9 = .ok (.ifCond .eq 11, 3) by decide +kernel) (by decide) (by rw [am_b_eq, hx]; rfl) ?_
  refine am_Rq.blk (is := [(.iconst 1, 1), (.goto 4, 3)]) (q := (25, [some (.ref 238), some (.int x), none], [.int (nI 1), .ref 238])) (by decide +kernel) rfl ?_
  dsimp only
  refine am_Rq.blk (is := [(.iconst 0, 1), (.iconst 0, 1)]) (q := (27, [some (.ref 238), some (.int x), none], [.int (nI 0), .int (nI 0), .int (nI 1), .ref 238])) (by decide +kernel) rfl ?_
  dsimp only
  refine am_Rq.callV (show decode (am_by 104) 27 = .ok (.invokevirtual 57, 3) by decide +kernel) rfl [.int (nI (am_b true)), .int (nI (am_b false)), .int (nI (am_b false))] [] rfl rfl (Nat.le_of_ble_eq_true rfl) rfl hM rfl (m_refused hM true false false) ?_
  rintro _ _ ⟨rfl, rfl⟩
  have hM1 := am_ss (c' := (7, m_ob 1 kn co)) hM
  have hS1 := (am_sn (c' := (7, m_ob 1 kn co)) (show 238 ≠ 239 by decide)).trans hS
  show am_Rq _ 104 30 [some (.ref 238), some (.int x), none] [.int (nI (am_b true))] _ _
  refine am_Rq.if1F (show decode (am_by 104) 30 = .ok (.ifCond .eq 5, 3) by decide +kernel) (by decide) (rfl) ?_
  refine am_Rq.blk (is := [(.iconst 0, 1)]) (q := (34, [some (.ref 238), some (.int x), none], [.int (nI 0)])) (by decide +kernel) rfl ?_
  dsimp only
  refine am_Rq.ret (v := some (.int (nI 0))) (show decode (am_by 104) 34 = .ok (.ireturn, 1) by decide +kernel) rfl rfl ?_
  exact ⟨_, rfl, rfl, rfl⟩
theorem m_pool_no2 {th kn co : Nat} (hM : hp[238]? = some (7, [.int (nI th), .ref 239, .ref 240, .int (nI kn), .ref 241, .ref 242, .ref 243, .ref 244, .long (lN co), .ref 245])) {s : Nat → Nat} (hS : hp[239]? = some (100, am_ia (fun i => nI (s i)) 160)) {n : Nat} (hn : n ≤ 5000) (h82 : s 82 ≤ 10) (hg : n < sp_sm (fun g => s (83 + 7 * g + 1)) (s 82)) (hg2 : sp_sm (fun g => s (83 + 7 * g + 1)) (s 82) < 2 ^ 31) : am_Rq (d + 2) 104 0 (am_en [.ref 238, .int (nI n)] 3) [] hp (am_Ret fun hp1 v => hp1 = hp.set 238 (7, m_ob 1 kn co) ∧ v = some (.int (nI (0)))) := by
  show am_Rq _ 104 0 [some (.ref 238), some (.int (nI n)), none] [] _ _
  refine am_Rq.blk (is := [(.aload_n 0, 1), (.iload_n 1, 1), (.iconst 0, 1), (.sipush 5000, 3)]) (q := (6, [some (.ref 238), some (.int (nI n)), none], [.int (nI 5000), .int (nI 0), .int (nI n), .ref 238])) (by decide +kernel) rfl ?_
  dsimp only
  refine am_Rq.callS (show decode (am_by 104) 6 = .ok (.invokestatic 39, 3) by decide +kernel) rfl [.int (nI n), .int (nI 0), .int (nI 5000)] [.ref 238] rfl rfl (Nat.le_of_ble_eq_true rfl) rfl rfl (m_in (nI n) (nI 0) (nI 5000)) ?_
  rintro hq _ ⟨e1, rfl⟩
  rw [e1]
  clear e1 hq
  show am_Rq _ 104 9 [some (.ref 238), some (.int (nI n)), none] [.int (nI (am_b (rg_r (nI 0) (nI 5000) (nI n)))), .ref 238] _ _
  refine am_Rq.if1F (show decode (am_by 104) 9 = .ok (.ifCond .eq 11, 3) by decide +kernel) (by decide) (by rw [am_b_eq, rg_le (by omega) hn (by omega)]; rfl) ?_
  refine am_Rq.blk (is := [(.iload_n 1, 1), (.aload_n 0, 1)]) (q := (14, [some (.ref 238), some (.int (nI n)), none], [.ref 238, .int (nI n), .ref 238])) (by decide +kernel) rfl ?_
  dsimp only
  refine am_Rq.callV (show decode (am_by 104) 14 = .ok (.invokevirtual 80, 3) by decide +kernel) rfl [] [.int (nI n), .ref 238] rfl rfl (Nat.le_of_ble_eq_true rfl) rfl hM rfl (m_grantedNow hM hS h82) ?_
  rintro hq _ ⟨e1, rfl⟩
  rw [e1]
  clear e1 hq
  show am_Rq _ 104 17 [some (.ref 238), some (.int (nI n)), none] [.int (nI (sp_sm (fun g => s (83 + 7 * g + 1)) (s 82))), .int (nI n), .ref 238] _ _
  refine am_Rq.if2F (show decode (am_by 104) 17 = .ok (.if_icmp .ge 7, 3) by decide +kernel) (by decide) (by rw [nm_ge (by omega) hg2]; exact decide_eq_false (by omega)) ?_
  refine am_Rq.blk (is := [(.iconst 1, 1), (.goto 4, 3)]) (q := (25, [some (.ref 238), some (.int (nI n)), none], [.int (nI 1), .ref 238])) (by decide +kernel) rfl ?_
  dsimp only
  refine am_Rq.blk (is := [(.iconst 0, 1), (.iconst 0, 1)]) (q := (27, [some (.ref 238), some (.int (nI n)), none], [.int (nI 0), .int (nI 0), .int (nI 1), .ref 238])) (by decide +kernel) rfl ?_
  dsimp only
  refine am_Rq.callV (show decode (am_by 104) 27 = .ok (.invokevirtual 57, 3) by decide +kernel) rfl [.int (nI (am_b true)), .int (nI (am_b false)), .int (nI (am_b false))] [] rfl rfl (Nat.le_of_ble_eq_true rfl) rfl hM rfl (m_refused hM true false false) ?_
  rintro _ _ ⟨rfl, rfl⟩
  have hM1 := am_ss (c' := (7, m_ob 1 kn co)) hM
  have hS1 := (am_sn (c' := (7, m_ob 1 kn co)) (show 238 ≠ 239 by decide)).trans hS
  show am_Rq _ 104 30 [some (.ref 238), some (.int (nI n)), none] [.int (nI (am_b true))] _ _
  refine am_Rq.if1F (show decode (am_by 104) 30 = .ok (.ifCond .eq 5, 3) by decide +kernel) (by decide) (rfl) ?_
  refine am_Rq.blk (is := [(.iconst 0, 1)]) (q := (34, [some (.ref 238), some (.int (nI n)), none], [.int (nI 0)])) (by decide +kernel) rfl ?_
  dsimp only
  refine am_Rq.ret (v := some (.int (nI 0))) (show decode (am_by 104) 34 = .ok (.ireturn, 1) by decide +kernel) rfl rfl ?_
  exact ⟨_, rfl, rfl, rfl⟩
theorem m_pass {th kn co : Nat} (hM : hp[238]? = some (7, [.int (nI th), .ref 239, .ref 240, .int (nI kn), .ref 241, .ref 242, .ref 243, .ref 244, .long (lN co), .ref 245])) {s : Nat → Nat} (hS : hp[239]? = some (100, am_ia (fun i => nI (s i)) 160)) {f : Nat → Int32} (hF : hp[240]? = some (100, am_ia f 1280)) (hkn : kn ≤ 8) {n : Nat} (hn : n ≤ 60) : am_Rq (d + 2) 108 0 (am_en [.ref 238, .int (nI n)] 2) [] hp (am_Ret fun hp1 v => v = some (.int (nI (s 81 + n))) ∧ m_Chg hp f kn co s (va_up s 81 (s 81 + n)) hp1) := by
  show am_Rq _ 108 0 [some (.ref 238), some (.int (nI n))] [] _ _
  refine am_Rq.blk (is := [(.aload_n 0, 1), (.iload_n 1, 1), (.iconst 0, 1), (.bipush 60, 2)]) (q := (5, [some (.ref 238), some (.int (nI n))], [.int (nI 60), .int (nI 0), .int (nI n), .ref 238])) (by decide +kernel) rfl ?_
  dsimp only
  refine am_Rq.callS (show decode (am_by 108) 5 = .ok (.invokestatic 39, 3) by decide +kernel) rfl [.int (nI n), .int (nI 0), .int (nI 60)] [.ref 238] rfl rfl (Nat.le_of_ble_eq_true rfl) rfl rfl (m_in (nI n) (nI 0) (nI 60)) ?_
  rintro hq _ ⟨e1, rfl⟩
  rw [e1]
  clear e1 hq
  show am_Rq _ 108 8 [some (.ref 238), some (.int (nI n))] [.int (nI (am_b (rg_r (nI 0) (nI 60) (nI n)))), .ref 238] _ _
  refine am_Rq.if1T (t := 15) (show decode (am_by 108) 8 = .ok (.ifCond .ne 7, 3) by decide +kernel) (by decide) (by rw [am_b_ne, rg_le (by omega) hn (by omega)]) ?_
  refine am_Rq.blk (is := [(.iconst 0, 1), (.iconst 0, 1), (.iconst 0, 1)]) (q := (18, [some (.ref 238), some (.int (nI n))], [.int (nI 0), .int (nI 0), .int (nI 0), .ref 238])) (by decide +kernel) rfl ?_
  dsimp only
  refine am_Rq.callV (show decode (am_by 108) 18 = .ok (.invokevirtual 57, 3) by decide +kernel) rfl [.int (nI (am_b false)), .int (nI (am_b false)), .int (nI (am_b false))] [] rfl rfl (Nat.le_of_ble_eq_true rfl) rfl hM rfl (m_refused hM false false false) ?_
  rintro _ _ ⟨rfl, rfl⟩
  have hM1 := am_ss (c' := (7, m_ob 0 kn co)) hM
  have hS1 := (am_sn (c' := (7, m_ob 0 kn co)) (show 238 ≠ 239 by decide)).trans hS
  show am_Rq _ 108 21 [some (.ref 238), some (.int (nI n))] [.int (nI (am_b false))] _ _
  refine am_Rq.if1T (t := 26) (show decode (am_by 108) 21 = .ok (.ifCond .eq 5, 3) by decide +kernel) (by decide) (rfl) ?_
  refine am_Rq.blk (is := [(.aload_n 0, 1)]) (q := (27, [some (.ref 238), some (.int (nI n))], [.ref 238])) (by decide +kernel) rfl ?_
  dsimp only
  have hF1 := (am_sn (c' := (7, m_ob 0 kn co)) (show 238 ≠ 240 by decide)).trans hF
  refine am_Rq.callV (show decode (am_by 108) 27 = .ok (.invokevirtual 61, 3) by decide +kernel) rfl [] [] rfl rfl (Nat.le_of_ble_eq_true rfl) rfl hM1 rfl (m_remember hM1 hS1 hF1 hkn) ?_
  rintro hp2 _ ⟨rfl, hM2, ⟨f1, hF2, hF3, hF4⟩, hf2⟩
  have hS2 := (hf2.2.2 239 (fun q => by omega)).trans hS1
  have hfr : am_fr (fun x => 238 ≤ x ∧ x < 241) hp hp2 := ((am_fr.rf (A := fun x => 238 ≤ x ∧ x < 241)).set (c' := (7, m_ob 0 kn co)) ⟨by decide, by decide⟩ hM rfl).trans (hf2.mono (A' := fun x => 238 ≤ x ∧ x < 241) (fun x q => by rcases q with q | q <;> subst q <;> exact ⟨by decide, by decide⟩))
  show am_Rq _ 108 30 [some (.ref 238), some (.int (nI n))] [] _ _
  refine am_Rq.blk (is := [(.aload_n 0, 1)]) (q := (31, [some (.ref 238), some (.int (nI n))], [.ref 238])) (by decide +kernel) rfl ?_
  dsimp only
  refine am_Rq.getf (v := .ref 239) (show decode (am_by 108) 31 = .ok (.getfield 7, 3) by decide +kernel) rfl hM2 rfl ?_
  refine am_Rq.blk (is := [(.bipush 81, 2), (.dup2, 1)]) (q := (37, [some (.ref 238), some (.int (nI n))], [.int (nI 81), .ref 239, .int (nI 81), .ref 239])) (by decide +kernel) rfl ?_
  dsimp only
  refine am_Rq.ial (k := 81) (show decode (am_by 108) 37 = .ok (.iaload, 1) by decide +kernel) hS2 (by omega) (by omega) ?_
  refine am_Rq.blk (is := [(.iload_n 1, 1), (.iadd, 1)]) (q := (40, [some (.ref 238), some (.int (nI n))], [.int ((nI (s 81)) + (nI n)), .int (nI 81), .ref 239])) (by decide +kernel) rfl ?_
  dsimp only
  rw [show (nI (s 81)) + (nI n) = nI ((s 81) + n) from nI_add _ _]
  refine am_Rq.ias (k := 81) (x := nI ((s 81) + n)) (show decode (am_by 108) 40 = .ok (.iastore, 1) by decide +kernel) hS2 (by omega) (by omega) (by omega) ?_
  refine am_Rq.blk (is := [(.aload_n 0, 1)]) (q := (42, [some (.ref 238), some (.int (nI n))], [.ref 238])) (by decide +kernel) rfl ?_
  dsimp only
  refine am_Rq.getf (v := .ref 239) (show decode (am_by 108) 42 = .ok (.getfield 7, 3) by decide +kernel) rfl ((am_sn (by decide)).trans hM2) rfl ?_
  refine am_Rq.blk (is := [(.bipush 81, 2)]) (q := (47, [some (.ref 238), some (.int (nI n))], [.int (nI 81), .ref 239])) (by decide +kernel) rfl ?_
  dsimp only
  refine am_Rq.ial (k := 81) (show decode (am_by 108) 47 = .ok (.iaload, 1) by decide +kernel) (am_ss hS2) (by omega) (by omega) ?_
  rw [va_up_self]
  refine am_Rq.ret (v := some (.int (nI (s 81 + n)))) (show decode (am_by 108) 48 = .ok (.ireturn, 1) by decide +kernel) rfl rfl ?_
  refine ⟨_, rfl, rfl, ((am_sn (by decide)).trans hM2), ?_, ⟨f1, ((am_sn (by decide)).trans hF2), hF3, hF4⟩, (hfr.set ⟨by decide, by decide⟩ hS2 (by simp [am_ia_len]))⟩
  rw [← m_up]
  exact (am_ss hS2)
theorem m_pass_no {th kn co : Nat} (hM : hp[238]? = some (7, [.int (nI th), .ref 239, .ref 240, .int (nI kn), .ref 241, .ref 242, .ref 243, .ref 244, .long (lN co), .ref 245])) {s : Nat → Nat} (hS : hp[239]? = some (100, am_ia (fun i => nI (s i)) 160)) {x : Int32} (hx : rg_r (nI 0) (nI 60) x = false) : am_Rq (d + 2) 108 0 (am_en [.ref 238, .int x] 2) [] hp (am_Ret fun hp1 v => hp1 = hp.set 238 (7, m_ob 1 kn co) ∧ v = some (.int (nI (0)))) := by
  show am_Rq _ 108 0 [some (.ref 238), some (.int x)] [] _ _
  refine am_Rq.blk (is := [(.aload_n 0, 1), (.iload_n 1, 1), (.iconst 0, 1), (.bipush 60, 2)]) (q := (5, [some (.ref 238), some (.int x)], [.int (nI 60), .int (nI 0), .int x, .ref 238])) (by decide +kernel) rfl ?_
  dsimp only
  refine am_Rq.callS (show decode (am_by 108) 5 = .ok (.invokestatic 39, 3) by decide +kernel) rfl [.int x, .int (nI 0), .int (nI 60)] [.ref 238] rfl rfl (Nat.le_of_ble_eq_true rfl) rfl rfl (m_in (x) (nI 0) (nI 60)) ?_
  rintro hq _ ⟨e1, rfl⟩
  rw [e1]
  clear e1 hq
  show am_Rq _ 108 8 [some (.ref 238), some (.int x)] [.int (nI (am_b (rg_r (nI 0) (nI 60) (x)))), .ref 238] _ _
  refine am_Rq.if1F (show decode (am_by 108) 8 = .ok (.ifCond .ne 7, 3) by decide +kernel) (by decide) (by rw [am_b_ne, hx]) ?_
  refine am_Rq.blk (is := [(.iconst 1, 1), (.goto 4, 3)]) (q := (16, [some (.ref 238), some (.int x)], [.int (nI 1), .ref 238])) (by decide +kernel) rfl ?_
  dsimp only
  refine am_Rq.blk (is := [(.iconst 0, 1), (.iconst 0, 1)]) (q := (18, [some (.ref 238), some (.int x)], [.int (nI 0), .int (nI 0), .int (nI 1), .ref 238])) (by decide +kernel) rfl ?_
  dsimp only
  refine am_Rq.callV (show decode (am_by 108) 18 = .ok (.invokevirtual 57, 3) by decide +kernel) rfl [.int (nI (am_b true)), .int (nI (am_b false)), .int (nI (am_b false))] [] rfl rfl (Nat.le_of_ble_eq_true rfl) rfl hM rfl (m_refused hM true false false) ?_
  rintro _ _ ⟨rfl, rfl⟩
  have hM1 := am_ss (c' := (7, m_ob 1 kn co)) hM
  have hS1 := (am_sn (c' := (7, m_ob 1 kn co)) (show 238 ≠ 239 by decide)).trans hS
  show am_Rq _ 108 21 [some (.ref 238), some (.int x)] [.int (nI (am_b true))] _ _
  refine am_Rq.if1F (show decode (am_by 108) 21 = .ok (.ifCond .eq 5, 3) by decide +kernel) (by decide) (rfl) ?_
  refine am_Rq.blk (is := [(.iconst 0, 1)]) (q := (25, [some (.ref 238), some (.int x)], [.int (nI 0)])) (by decide +kernel) rfl ?_
  dsimp only
  refine am_Rq.ret (v := some (.int (nI 0))) (show decode (am_by 108) 25 = .ok (.ireturn, 1) by decide +kernel) rfl rfl ?_
  exact ⟨_, rfl, rfl, rfl⟩
end M5
