/-! The reference: calls that read (rows by prog/m4.py). -/
section M4
variable {d : Nat} {hp : am_H}
theorem m_inIssue {th kn co : Nat} (hM : hp[238]? = some (7, [.int (nI th), .ref 239, .ref 240, .int (nI kn), .ref 241, .ref 242, .ref 243, .ref 244, .long (lN co), .ref 245])) {s : Nat → Nat} (hS : hp[239]? = some (100, am_ia (fun i => nI (s i)) 160)) {c : Nat} (hc : c ≤ s 0) (hc5 : c < 5) (h0 : s 0 < 2 ^ 31) : am_Rq (d + 2) 116 0 (am_en [.ref 238, .int (nI c)] 2) [] hp (am_Ret fun hp1 v => hp1 = hp.set 238 (7, m_ob 0 kn co) ∧ v = some (.int (nI (sp_sm (fun h => s (40 + 8 * c + h)) 8)))) := by
  show am_Rq _ 116 0 [some (.ref 238), some (.int (nI c))] [] _ _
  refine am_Rq.blk (is := [(.aload_n 0, 1), (.aload_n 0, 1), (.iload_n 1, 1)]) (q := (3, [some (.ref 238), some (.int (nI c))], [.int (nI c), .ref 238, .ref 238])) (by decide +kernel) rfl ?_
  dsimp only
  refine am_Rq.callV (show decode (am_by 116) 3 = .ok (.invokevirtual 64, 3) by decide +kernel) rfl [.int (nI c)] [.ref 238] rfl rfl (Nat.le_of_ble_eq_true rfl) rfl hM rfl (m_isClass hM hS (nI c)) ?_
  rintro hq _ ⟨e1, rfl⟩
  rw [e1]
  clear e1 hq
  show am_Rq _ 116 6 [some (.ref 238), some (.int (nI c))] [.int (nI (am_b (rg_r (nI 0) (nI (s 0)) (nI c)))), .ref 238] _ _
  refine am_Rq.if1T (t := 13) (show decode (am_by 116) 6 = .ok (.ifCond .ne 7, 3) by decide +kernel) (by decide) (by rw [am_b_ne, rg_le (by omega) hc h0]) ?_
  refine am_Rq.blk (is := [(.iconst 0, 1), (.iconst 0, 1), (.iconst 0, 1)]) (q := (16, [some (.ref 238), some (.int (nI c))], [.int (nI 0), .int (nI 0), .int (nI 0), .ref 238])) (by decide +kernel) rfl ?_
  dsimp only
  refine am_Rq.callV (show decode (am_by 116) 16 = .ok (.invokevirtual 57, 3) by decide +kernel) rfl [.int (nI (am_b false)), .int (nI (am_b false)), .int (nI (am_b false))] [] rfl rfl (Nat.le_of_ble_eq_true rfl) rfl hM rfl (m_refused hM false false false) ?_
  rintro _ _ ⟨rfl, rfl⟩
  have hM1 := am_ss (c' := (7, m_ob 0 kn co)) hM
  have hS1 := (am_sn (c' := (7, m_ob 0 kn co)) (show 238 ≠ 239 by decide)).trans hS
  show am_Rq _ 116 19 [some (.ref 238), some (.int (nI c))] [.int (nI (am_b false))] _ _
  refine am_Rq.if1T (t := 26) (show decode (am_by 116) 19 = .ok (.ifCond .eq 7, 3) by decide +kernel) (by decide) (rfl) ?_
  refine am_Rq.blk (is := [(.aload_n 0, 1), (.iload_n 1, 1)]) (q := (28, [some (.ref 238), some (.int (nI c))], [.int (nI c), .ref 238])) (by decide +kernel) rfl ?_
  dsimp only
  refine am_Rq.callV (show decode (am_by 116) 28 = .ok (.invokevirtual 49, 3) by decide +kernel) rfl [.int (nI c)] [] rfl rfl (Nat.le_of_ble_eq_true rfl) rfl hM1 rfl (m_issued hM1 hS1 hc5) ?_
  rintro hq _ ⟨e1, rfl⟩
  rw [e1]
  clear e1 hq
  show am_Rq _ 116 31 [some (.ref 238), some (.int (nI c))] [.int (nI (sp_sm (fun h => s (40 + 8 * c + h)) 8))] _ _
  refine am_Rq.ret (v := some (.int (nI (sp_sm (fun h => s (40 + 8 * c + h)) 8)))) (show decode (am_by 116) 31 = .ok (.ireturn, 1) by decide +kernel) rfl rfl ?_
  exact ⟨_, rfl, rfl, rfl⟩
theorem m_inIssue_no {th kn co : Nat} (hM : hp[238]? = some (7, [.int (nI th), .ref 239, .ref 240, .int (nI kn), .ref 241, .ref 242, .ref 243, .ref 244, .long (lN co), .ref 245])) {s : Nat → Nat} (hS : hp[239]? = some (100, am_ia (fun i => nI (s i)) 160)) {x : Int32} (hx : rg_r (nI 0) (nI (s 0)) x = false) : am_Rq (d + 2) 116 0 (am_en [.ref 238, .int x] 2) [] hp (am_Ret fun hp1 v => hp1 = hp.set 238 (7, m_ob 1 kn co) ∧ v = some (.int (nI (0)))) := by
  show am_Rq _ 116 0 [some (.ref 238), some (.int x)] [] _ _
  refine am_Rq.blk (is := [(.aload_n 0, 1), (.aload_n 0, 1), (.iload_n 1, 1)]) (q := (3, [some (.ref 238), some (.int x)], [.int x, .ref 238, .ref 238])) (by decide +kernel) rfl ?_
  dsimp only
  refine am_Rq.callV (show decode (am_by 116) 3 = .ok (.invokevirtual 64, 3) by decide +kernel) rfl [.int x] [.ref 238] rfl rfl (Nat.le_of_ble_eq_true rfl) rfl hM rfl (m_isClass hM hS (x)) ?_
  rintro hq _ ⟨e1, rfl⟩
  rw [e1]
  clear e1 hq
  show am_Rq _ 116 6 [some (.ref 238), some (.int x)] [.int (nI (am_b (rg_r (nI 0) (nI (s 0)) (x)))), .ref 238] _ _
  refine am_Rq.if1F (show decode (am_by 116) 6 = .ok (.ifCond .ne 7, 3) by decide +kernel) (by decide) (by rw [am_b_ne, hx]) ?_
  refine am_Rq.blk (is := [(.iconst 1, 1), (.goto 4, 3)]) (q := (14, [some (.ref 238), some (.int x)], [.int (nI 1), .ref 238])) (by decide +kernel) rfl ?_
  dsimp only
  refine am_Rq.blk (is := [(.iconst 0, 1), (.iconst 0, 1)]) (q := (16, [some (.ref 238), some (.int x)], [.int (nI 0), .int (nI 0), .int (nI 1), .ref 238])) (by decide +kernel) rfl ?_
  dsimp only
  refine am_Rq.callV (show decode (am_by 116) 16 = .ok (.invokevirtual 57, 3) by decide +kernel) rfl [.int (nI (am_b true)), .int (nI (am_b false)), .int (nI (am_b false))] [] rfl rfl (Nat.le_of_ble_eq_true rfl) rfl hM rfl (m_refused hM true false false) ?_
  rintro _ _ ⟨rfl, rfl⟩
  have hM1 := am_ss (c' := (7, m_ob 1 kn co)) hM
  have hS1 := (am_sn (c' := (7, m_ob 1 kn co)) (show 238 ≠ 239 by decide)).trans hS
  show am_Rq _ 116 19 [some (.ref 238), some (.int x)] [.int (nI (am_b true))] _ _
  refine am_Rq.if1F (show decode (am_by 116) 19 = .ok (.ifCond .eq 7, 3) by decide +kernel) (by decide) (rfl) ?_
  refine am_Rq.blk (is := [(.iconst 0, 1), (.goto 8, 3)]) (q := (31, [some (.ref 238), some (.int x)], [.int (nI 0)])) (by decide +kernel) rfl ?_
  dsimp only
  refine am_Rq.ret (v := some (.int (nI 0))) (show decode (am_by 116) 31 = .ok (.ireturn, 1) by decide +kernel) rfl rfl ?_
  exact ⟨_, rfl, rfl, rfl⟩
theorem m_held {th kn co : Nat} (hM : hp[238]? = some (7, [.int (nI th), .ref 239, .ref 240, .int (nI kn), .ref 241, .ref 242, .ref 243, .ref 244, .long (lN co), .ref 245])) {s : Nat → Nat} (hS : hp[239]? = some (100, am_ia (fun i => nI (s i)) 160)) {c k : Nat} (hc : c ≤ s 0) (hc5 : c < 5) (h0 : s 0 < 2 ^ 31) (hk : k < 8) : am_Rq (d + 2) 115 0 (am_en [.ref 238, .int (nI c), .int (nI k)] 3) [] hp (am_Ret fun hp1 v => hp1 = hp.set 238 (7, m_ob 0 kn co) ∧ v = some (.int (nI (s (40 + 8 * c + k))))) := by
  show am_Rq _ 115 0 [some (.ref 238), some (.int (nI c)), some (.int (nI k))] [] _ _
  refine am_Rq.blk (is := [(.aload_n 0, 1), (.aload_n 0, 1), (.iload_n 1, 1)]) (q := (3, [some (.ref 238), some (.int (nI c)), some (.int (nI k))], [.int (nI c), .ref 238, .ref 238])) (by decide +kernel) rfl ?_
  dsimp only
  refine am_Rq.callV (show decode (am_by 115) 3 = .ok (.invokevirtual 64, 3) by decide +kernel) rfl [.int (nI c)] [.ref 238] rfl rfl (Nat.le_of_ble_eq_true rfl) rfl hM rfl (m_isClass hM hS (nI c)) ?_
  rintro hq _ ⟨e1, rfl⟩
  rw [e1]
  clear e1 hq
  show am_Rq _ 115 6 [some (.ref 238), some (.int (nI c)), some (.int (nI k))] [.int (nI (am_b (rg_r (nI 0) (nI (s 0)) (nI c)))), .ref 238] _ _
  refine am_Rq.if1F (show decode (am_by 115) 6 = .ok (.ifCond .eq 10, 3) by decide +kernel) (by decide) (by rw [am_b_eq, rg_le (by omega) hc h0]; rfl) ?_
  refine am_Rq.blk (is := [(.iload_n 2, 1)]) (q := (10, [some (.ref 238), some (.int (nI c)), some (.int (nI k))], [.int (nI k), .ref 238])) (by decide +kernel) rfl ?_
  dsimp only
  refine am_Rq.callS (show decode (am_by 115) 10 = .ok (.invokestatic 68, 3) by decide +kernel) rfl [.int (nI k)] [.ref 238] rfl rfl (Nat.le_of_ble_eq_true rfl) rfl rfl (m_isHolder (nI k)) ?_
  rintro hq _ ⟨e1, rfl⟩
  rw [e1]
  clear e1 hq
  show am_Rq _ 115 13 [some (.ref 238), some (.int (nI c)), some (.int (nI k))] [.int (nI (am_b (rg_r (nI 0) (nI 7) (nI k)))), .ref 238] _ _
  refine am_Rq.if1T (t := 20) (show decode (am_by 115) 13 = .ok (.ifCond .ne 7, 3) by decide +kernel) (by decide) (by rw [am_b_ne, rg_le (by omega) (show k ≤ 7 by omega) (by omega)]) ?_
  refine am_Rq.blk (is := [(.iconst 0, 1), (.iconst 0, 1), (.iconst 0, 1)]) (q := (23, [some (.ref 238), some (.int (nI c)), some (.int (nI k))], [.int (nI 0), .int (nI 0), .int (nI 0), .ref 238])) (by decide +kernel) rfl ?_
  dsimp only
  refine am_Rq.callV (show decode (am_by 115) 23 = .ok (.invokevirtual 57, 3) by decide +kernel) rfl [.int (nI (am_b false)), .int (nI (am_b false)), .int (nI (am_b false))] [] rfl rfl (Nat.le_of_ble_eq_true rfl) rfl hM rfl (m_refused hM false false false) ?_
  rintro _ _ ⟨rfl, rfl⟩
  have hM1 := am_ss (c' := (7, m_ob 0 kn co)) hM
  have hS1 := (am_sn (c' := (7, m_ob 0 kn co)) (show 238 ≠ 239 by decide)).trans hS
  show am_Rq _ 115 26 [some (.ref 238), some (.int (nI c)), some (.int (nI k))] [.int (nI (am_b false))] _ _
  refine am_Rq.if1T (t := 33) (show decode (am_by 115) 26 = .ok (.ifCond .eq 7, 3) by decide +kernel) (by decide) (rfl) ?_
  refine am_Rq.blk (is := [(.aload_n 0, 1)]) (q := (34, [some (.ref 238), some (.int (nI c)), some (.int (nI k))], [.ref 238])) (by decide +kernel) rfl ?_
  dsimp only
  refine am_Rq.getf (v := .ref 239) (show decode (am_by 115) 34 = .ok (.getfield 7, 3) by decide +kernel) rfl hM1 rfl ?_
  refine am_Rq.blk (is := [(.bipush 40, 2), (.bipush 8, 2), (.iload_n 1, 1), (.imul, 1)]) (q := (43, [some (.ref 238), some (.int (nI c)), some (.int (nI k))], [.int ((nI 8) * (nI c)), .int (nI 40), .ref 239])) (by decide +kernel) rfl ?_
  dsimp only
  rw [show (nI 8) * (nI c) = nI (8 * c) from nm_imul _ _]
  refine am_Rq.blk (is := [(.iadd, 1)]) (q := (44, [some (.ref 238), some (.int (nI c)), some (.int (nI k))], [.int ((nI 40) + (nI (8 * c))), .ref 239])) (by decide +kernel) rfl ?_
  dsimp only
  rw [show (nI 40) + (nI (8 * c)) = nI (40 + (8 * c)) from nI_add _ _]
  refine am_Rq.blk (is := [(.iload_n 2, 1), (.iadd, 1)]) (q := (46, [some (.ref 238), some (.int (nI c)), some (.int (nI k))], [.int ((nI (40 + (8 * c))) + (nI k)), .ref 239])) (by decide +kernel) rfl ?_
  dsimp only
  rw [show (nI (40 + (8 * c))) + (nI k) = nI ((40 + (8 * c)) + k) from nI_add _ _]
  refine am_Rq.ial (k := (40 + (8 * c)) + k) (show decode (am_by 115) 46 = .ok (.iaload, 1) by decide +kernel) hS1 (by omega) (by omega) ?_
  refine am_Rq.ret (v := some (.int (nI (s ((40 + (8 * c)) + k))))) (show decode (am_by 115) 47 = .ok (.ireturn, 1) by decide +kernel) rfl rfl ?_
  exact ⟨_, rfl, rfl, rfl⟩
theorem m_held_no1 {th kn co : Nat} (hM : hp[238]? = some (7, [.int (nI th), .ref 239, .ref 240, .int (nI kn), .ref 241, .ref 242, .ref 243, .ref 244, .long (lN co), .ref 245])) {s : Nat → Nat} (hS : hp[239]? = some (100, am_ia (fun i => nI (s i)) 160)) {x y : Int32} (hx : rg_r (nI 0) (nI (s 0)) x = false) : am_Rq (d + 2) 115 0 (am_en [.ref 238, .int x, .int y] 3) [] hp (am_Ret fun hp1 v => hp1 = hp.set 238 (7, m_ob 1 kn co) ∧ v = some (.int (nI (0)))) := by
  show am_Rq _ 115 0 [some (.ref 238), some (.int x), some (.int y)] [] _ _
  refine am_Rq.blk (is := [(.aload_n 0, 1), (.aload_n 0, 1), (.iload_n 1, 1)]) (q := (3, [some (.ref 238), some (.int x), some (.int y)], [.int x, .ref 238, .ref 238])) (by decide +kernel) rfl ?_
  dsimp only
  refine am_Rq.callV (show decode (am_by 115) 3 = .ok (.invokevirtual 64, 3) by decide +kernel) rfl [.int x] [.ref 238] rfl rfl (Nat.le_of_ble_eq_true rfl) rfl hM rfl (m_isClass hM hS (x)) ?_
  rintro hq _ ⟨e1, rfl⟩
  rw [e1]
  clear e1 hq
  show am_Rq _ 115 6 [some (.ref 238), some (.int x), some (.int y)] [.int (nI (am_b (rg_r (nI 0) (nI (s 0)) (x)))), .ref 238] _ _
  refine am_Rq.if1T (t := 16) (show decode (am_by 115) 6 = .ok (.ifCond .eq 10, 3) by decide +kernel) (by decide) (by rw [am_b_eq, hx]; rfl) ?_
  refine am_Rq.blk (is := [(.iconst 1, 1), (.goto 4, 3)]) (q := (21, [some (.ref 238), some (.int x), some (.int y)], [.int (nI 1), .ref 238])) (by decide +kernel) rfl ?_
  dsimp only
  refine am_Rq.blk (is := [(.iconst 0, 1), (.iconst 0, 1)]) (q := (23, [some (.ref 238), some (.int x), some (.int y)], [.int (nI 0), .int (nI 0), .int (nI 1), .ref 238])) (by decide +kernel) rfl ?_
  dsimp only
  refine am_Rq.callV (show decode (am_by 115) 23 = .ok (.invokevirtual 57, 3) by decide +kernel) rfl [.int (nI (am_b true)), .int (nI (am_b false)), .int (nI (am_b false))] [] rfl rfl (Nat.le_of_ble_eq_true rfl) rfl hM rfl (m_refused hM true false false) ?_
  rintro _ _ ⟨rfl, rfl⟩
  have hM1 := am_ss (c' := (7, m_ob 1 kn co)) hM
  have hS1 := (am_sn (c' := (7, m_ob 1 kn co)) (show 238 ≠ 239 by decide)).trans hS
  show am_Rq _ 115 26 [some (.ref 238), some (.int x), some (.int y)] [.int (nI (am_b true))] _ _
  refine am_Rq.if1F (show decode (am_by 115) 26 = .ok (.ifCond .eq 7, 3) by decide +kernel) (by decide) (rfl) ?_
  refine am_Rq.blk (is := [(.iconst 0, 1), (.goto 17, 3)]) (q := (47, [some (.ref 238), some (.int x), some (.int y)], [.int (nI 0)])) (by decide +kernel) rfl ?_
  dsimp only
  refine am_Rq.ret (v := some (.int (nI 0))) (show decode (am_by 115) 47 = .ok (.ireturn, 1) by decide +kernel) rfl rfl ?_
  exact ⟨_, rfl, rfl, rfl⟩
theorem m_held_no2 {th kn co : Nat} (hM : hp[238]? = some (7, [.int (nI th), .ref 239, .ref 240, .int (nI kn), .ref 241, .ref 242, .ref 243, .ref 244, .long (lN co), .ref 245])) {s : Nat → Nat} (hS : hp[239]? = some (100, am_ia (fun i => nI (s i)) 160)) {c : Nat} {y : Int32} (hc : c ≤ s 0) (h0 : s 0 < 2 ^ 31) (hy : rg_r (nI 0) (nI 7) y = false) : am_Rq (d + 2) 115 0 (am_en [.ref 238, .int (nI c), .int y] 3) [] hp (am_Ret fun hp1 v => hp1 = hp.set 238 (7, m_ob 1 kn co) ∧ v = some (.int (nI (0)))) := by
  show am_Rq _ 115 0 [some (.ref 238), some (.int (nI c)), some (.int y)] [] _ _
  refine am_Rq.blk (is := [(.aload_n 0, 1), (.aload_n 0, 1), (.iload_n 1, 1)]) (q := (3, [some (.ref 238), some (.int (nI c)), some (.int y)], [.int (nI c), .ref 238, .ref 238])) (by decide +kernel) rfl ?_
  dsimp only
  refine am_Rq.callV (show decode (am_by 115) 3 = .ok (.invokevirtual 64, 3) by decide +kernel) rfl [.int (nI c)] [.ref 238] rfl rfl (Nat.le_of_ble_eq_true rfl) rfl hM rfl (m_isClass hM hS (nI c)) ?_
  rintro hq _ ⟨e1, rfl⟩
  rw [e1]
  clear e1 hq
  show am_Rq _ 115 6 [some (.ref 238), some (.int (nI c)), some (.int y)] [.int (nI (am_b (rg_r (nI 0) (nI (s 0)) (nI c)))), .ref 238] _ _
  refine am_Rq.if1F (show decode (am_by 115) 6 = .ok (.ifCond .eq 10, 3) by decide +kernel) (by decide) (by rw [am_b_eq, rg_le (by omega) hc h0]; rfl) ?_
  refine am_Rq.blk (is := [(.iload_n 2, 1)]) (q := (10, [some (.ref 238), some (.int (nI c)), some (.int y)], [.int y, .ref 238])) (by decide +kernel) rfl ?_
  dsimp only
  refine am_Rq.callS (show decode (am_by 115) 10 = .ok (.invokestatic 68, 3) by decide +kernel) rfl [.int y] [.ref 238] rfl rfl (Nat.le_of_ble_eq_true rfl) rfl rfl (m_isHolder (y)) ?_
  rintro hq _ ⟨e1, rfl⟩
  rw [e1]
  clear e1 hq
  show am_Rq _ 115 13 [some (.ref 238), some (.int (nI c)), some (.int y)] [.int (nI (am_b (rg_r (nI 0) (nI 7) (y)))), .ref 238] _ _
  refine am_Rq.if1F (show decode (am_by 115) 13 = .ok (.ifCond .ne 7, 3) by decide +kernel) (by decide) (by rw [am_b_ne, hy]) ?_
  refine am_Rq.blk (is := [(.iconst 1, 1), (.goto 4, 3)]) (q := (21, [some (.ref 238), some (.int (nI c)), some (.int y)], [.int (nI 1), .ref 238])) (by decide +kernel) rfl ?_
  dsimp only
  refine am_Rq.blk (is := [(.iconst 0, 1), (.iconst 0, 1)]) (q := (23, [some (.ref 238), some (.int (nI c)), some (.int y)], [.int (nI 0), .int (nI 0), .int (nI 1), .ref 238])) (by decide +kernel) rfl ?_
  dsimp only
  refine am_Rq.callV (show decode (am_by 115) 23 = .ok (.invokevirtual 57, 3) by decide +kernel) rfl [.int (nI (am_b true)), .int (nI (am_b false)), .int (nI (am_b false))] [] rfl rfl (Nat.le_of_ble_eq_true rfl) rfl hM rfl (m_refused hM true false false) ?_
  rintro _ _ ⟨rfl, rfl⟩
  have hM1 := am_ss (c' := (7, m_ob 1 kn co)) hM
  have hS1 := (am_sn (c' := (7, m_ob 1 kn co)) (show 238 ≠ 239 by decide)).trans hS
  show am_Rq _ 115 26 [some (.ref 238), some (.int (nI c)), some (.int y)] [.int (nI (am_b true))] _ _
  refine am_Rq.if1F (show decode (am_by 115) 26 = .ok (.ifCond .eq 7, 3) by decide +kernel) (by decide) (rfl) ?_
  refine am_Rq.blk (is := [(.iconst 0, 1), (.goto 17, 3)]) (q := (47, [some (.ref 238), some (.int (nI c)), some (.int y)], [.int (nI 0)])) (by decide +kernel) rfl ?_
  dsimp only
  refine am_Rq.ret (v := some (.int (nI 0))) (show decode (am_by 115) 47 = .ok (.ireturn, 1) by decide +kernel) rfl rfl ?_
  exact ⟨_, rfl, rfl, rfl⟩
theorem m_vested {th kn co : Nat} (hM : hp[238]? = some (7, [.int (nI th), .ref 239, .ref 240, .int (nI kn), .ref 241, .ref 242, .ref 243, .ref 244, .long (lN co), .ref 245])) {s : Nat → Nat} (hS : hp[239]? = some (100, am_ia (fun i => nI (s i)) 160)) {g : Nat} (hg : g < s 82) (h82 : s 82 ≤ 10) (hm : s 81 < 2 ^ 31) (hf : s (83 + 7 * g + 4) ≤ s 81) (hS2 : s (83 + 7 * g + 1) ≤ 2000) (hN : s (83 + 7 * g + 3) ≤ 60) (hC : s (83 + 7 * g + 2) ≤ 60) (hE : s (83 + 7 * g + 5) ≤ 1) : am_Rq (d + 2) 113 0 (am_en [.ref 238, .int (nI g)] 2) [] hp (am_Ret fun hp1 v => hp1 = hp.set 238 (7, m_ob 0 kn co) ∧ v = some (.int (nI (c_vg s g)))) := by
  show am_Rq _ 113 0 [some (.ref 238), some (.int (nI g))] [] _ _
  refine am_Rq.blk (is := [(.aload_n 0, 1), (.aload_n 0, 1), (.iload_n 1, 1)]) (q := (3, [some (.ref 238), some (.int (nI g))], [.int (nI g), .ref 238, .ref 238])) (by decide +kernel) rfl ?_
  dsimp only
  refine am_Rq.callV (show decode (am_by 113) 3 = .ok (.invokevirtual 87, 3) by decide +kernel) rfl [.int (nI g)] [.ref 238] rfl rfl (Nat.le_of_ble_eq_true rfl) rfl hM rfl (m_isGrant hM hS (nI g)) ?_
  rintro hq _ ⟨e1, rfl⟩
  rw [e1]
  clear e1 hq
  show am_Rq _ 113 6 [some (.ref 238), some (.int (nI g))] [.int (nI (am_b (rg_r (nI 0) (nI (s 82) - nI 1) (nI g)))), .ref 238] _ _
  refine am_Rq.if1T (t := 13) (show decode (am_by 113) 6 = .ok (.ifCond .ne 7, 3) by decide +kernel) (by decide) (by rw [am_b_ne, rg_lt hg (by omega)]) ?_
  refine am_Rq.blk (is := [(.iconst 0, 1), (.iconst 0, 1), (.iconst 0, 1)]) (q := (16, [some (.ref 238), some (.int (nI g))], [.int (nI 0), .int (nI 0), .int (nI 0), .ref 238])) (by decide +kernel) rfl ?_
  dsimp only
  refine am_Rq.callV (show decode (am_by 113) 16 = .ok (.invokevirtual 57, 3) by decide +kernel) rfl [.int (nI (am_b false)), .int (nI (am_b false)), .int (nI (am_b false))] [] rfl rfl (Nat.le_of_ble_eq_true rfl) rfl hM rfl (m_refused hM false false false) ?_
  rintro _ _ ⟨rfl, rfl⟩
  have hM1 := am_ss (c' := (7, m_ob 0 kn co)) hM
  have hS1 := (am_sn (c' := (7, m_ob 0 kn co)) (show 238 ≠ 239 by decide)).trans hS
  show am_Rq _ 113 19 [some (.ref 238), some (.int (nI g))] [.int (nI (am_b false))] _ _
  refine am_Rq.if1T (t := 26) (show decode (am_by 113) 19 = .ok (.ifCond .eq 7, 3) by decide +kernel) (by decide) (rfl) ?_
  refine am_Rq.blk (is := [(.aload_n 0, 1), (.iload_n 1, 1)]) (q := (28, [some (.ref 238), some (.int (nI g))], [.int (nI g), .ref 238])) (by decide +kernel) rfl ?_
  dsimp only
  refine am_Rq.callV (show decode (am_by 113) 28 = .ok (.invokevirtual 84, 3) by decide +kernel) rfl [.int (nI g)] [] rfl rfl (Nat.le_of_ble_eq_true rfl) rfl hM1 rfl (m_vestedOf hM1 hS1 (by omega) hm hf hS2 hN hC hE) ?_
  rintro hq _ ⟨e1, rfl⟩
  rw [e1]
  clear e1 hq
  show am_Rq _ 113 31 [some (.ref 238), some (.int (nI g))] [.int (nI (c_vg s g))] _ _
  refine am_Rq.ret (v := some (.int (nI (c_vg s g)))) (show decode (am_by 113) 31 = .ok (.ireturn, 1) by decide +kernel) rfl rfl ?_
  exact ⟨_, rfl, rfl, rfl⟩
theorem m_vested_no {th kn co : Nat} (hM : hp[238]? = some (7, [.int (nI th), .ref 239, .ref 240, .int (nI kn), .ref 241, .ref 242, .ref 243, .ref 244, .long (lN co), .ref 245])) {s : Nat → Nat} (hS : hp[239]? = some (100, am_ia (fun i => nI (s i)) 160)) {x : Int32} (hx : rg_r (nI 0) (nI (s 82) - nI 1) x = false) : am_Rq (d + 2) 113 0 (am_en [.ref 238, .int x] 2) [] hp (am_Ret fun hp1 v => hp1 = hp.set 238 (7, m_ob 1 kn co) ∧ v = some (.int (nI (0)))) := by
  show am_Rq _ 113 0 [some (.ref 238), some (.int x)] [] _ _
  refine am_Rq.blk (is := [(.aload_n 0, 1), (.aload_n 0, 1), (.iload_n 1, 1)]) (q := (3, [some (.ref 238), some (.int x)], [.int x, .ref 238, .ref 238])) (by decide +kernel) rfl ?_
  dsimp only
  refine am_Rq.callV (show decode (am_by 113) 3 = .ok (.invokevirtual 87, 3) by decide +kernel) rfl [.int x] [.ref 238] rfl rfl (Nat.le_of_ble_eq_true rfl) rfl hM rfl (m_isGrant hM hS (x)) ?_
  rintro hq _ ⟨e1, rfl⟩
  rw [e1]
  clear e1 hq
  show am_Rq _ 113 6 [some (.ref 238), some (.int x)] [.int (nI (am_b (rg_r (nI 0) (nI (s 82) - nI 1) (x)))), .ref 238] _ _
  refine am_Rq.if1F (show decode (am_by 113) 6 = .ok (.ifCond .ne 7, 3) by decide +kernel) (by decide) (by rw [am_b_ne, hx]) ?_
  refine am_Rq.blk (is := [(.iconst 1, 1), (.goto 4, 3)]) (q := (14, [some (.ref 238), some (.int x)], [.int (nI 1), .ref 238])) (by decide +kernel) rfl ?_
  dsimp only
  refine am_Rq.blk (is := [(.iconst 0, 1), (.iconst 0, 1)]) (q := (16, [some (.ref 238), some (.int x)], [.int (nI 0), .int (nI 0), .int (nI 1), .ref 238])) (by decide +kernel) rfl ?_
  dsimp only
  refine am_Rq.callV (show decode (am_by 113) 16 = .ok (.invokevirtual 57, 3) by decide +kernel) rfl [.int (nI (am_b true)), .int (nI (am_b false)), .int (nI (am_b false))] [] rfl rfl (Nat.le_of_ble_eq_true rfl) rfl hM rfl (m_refused hM true false false) ?_
  rintro _ _ ⟨rfl, rfl⟩
  have hM1 := am_ss (c' := (7, m_ob 1 kn co)) hM
  have hS1 := (am_sn (c' := (7, m_ob 1 kn co)) (show 238 ≠ 239 by decide)).trans hS
  show am_Rq _ 113 19 [some (.ref 238), some (.int x)] [.int (nI (am_b true))] _ _
  refine am_Rq.if1F (show decode (am_by 113) 19 = .ok (.ifCond .eq 7, 3) by decide +kernel) (by decide) (rfl) ?_
  refine am_Rq.blk (is := [(.iconst 0, 1), (.goto 8, 3)]) (q := (31, [some (.ref 238), some (.int x)], [.int (nI 0)])) (by decide +kernel) rfl ?_
  dsimp only
  refine am_Rq.ret (v := some (.int (nI 0))) (show decode (am_by 113) 31 = .ok (.ireturn, 1) by decide +kernel) rfl rfl ?_
  exact ⟨_, rfl, rfl, rfl⟩
end M4
