/-! The reference: refusals of transfer (rows by prog/m8.py). -/
section M8
variable {d : Nat} {hp : am_H}
theorem m_transfer_no1 {th kn co : Nat} (hM : hp[238]? = some (7, [.int (nI th), .ref 239, .ref 240, .int (nI kn), .ref 241, .ref 242, .ref 243, .ref 244, .long (lN co), .ref 245])) {s : Nat → Nat} (hS : hp[239]? = some (100, am_ia (fun i => nI (s i)) 160)) {x y z u : Int32} (hx : rg_r (nI 0) (nI (s 0)) x = false) : am_Rq (d + 2) 102 0 (am_en [.ref 238, .int x, .int y, .int z, .int u] 6) [] hp (am_Ret fun hp1 v => hp1 = hp.set 238 (7, m_ob 1 kn co) ∧ v = some (.int (nI (0)))) := by
  show am_Rq _ 102 0 [some (.ref 238), some (.int x), some (.int y), some (.int z), some (.int u), none] [] _ _
  refine am_Rq.blk (is := [(.aload_n 0, 1), (.iload_n 1, 1)]) (q := (2, [some (.ref 238), some (.int x), some (.int y), some (.int z), some (.int u), none], [.int x, .ref 238])) (by decide +kernel) rfl ?_
  dsimp only
  refine am_Rq.callV (show decode (am_by 102) 2 = .ok (.invokevirtual 64, 3) by decide +kernel) rfl [.int x] [] rfl rfl (Nat.le_of_ble_eq_true rfl) rfl hM rfl (m_isClass hM hS (x)) ?_
  rintro hq _ ⟨e1, rfl⟩
  rw [e1]
  clear e1 hq
  show am_Rq _ 102 5 [some (.ref 238), some (.int x), some (.int y), some (.int z), some (.int u), none] [.int (nI (am_b (rg_r (nI 0) (nI (s 0)) (x))))] _ _
  refine am_Rq.if1T (t := 26) (show decode (am_by 102) 5 = .ok (.ifCond .eq 21, 3) by decide +kernel) (by decide) (by rw [am_b_eq, hx]; rfl) ?_
  refine am_Rq.blk (is := [(.iconst 0, 1), (.istore 5, 2), (.aload_n 0, 1), (.iload 5, 2)]) (q := (32, [some (.ref 238), some (.int x), some (.int y), some (.int z), some (.int u), some (.int (nI 0))], [.int (nI 0), .ref 238])) (by decide +kernel) rfl ?_
  dsimp only
  refine am_Rq.if1F (show decode (am_by 102) 32 = .ok (.ifCond .ne 7, 3) by decide +kernel) (by decide) (rfl) ?_
  refine am_Rq.blk (is := [(.iconst 1, 1), (.goto 4, 3)]) (q := (40, [some (.ref 238), some (.int x), some (.int y), some (.int z), some (.int u), some (.int (nI 0))], [.int (nI 1), .ref 238])) (by decide +kernel) rfl ?_
  dsimp only
  refine am_Rq.blk (is := [(.iload_n 2, 1), (.iload_n 3, 1)]) (q := (42, [some (.ref 238), some (.int x), some (.int y), some (.int z), some (.int u), some (.int (nI 0))], [.int z, .int y, .int (nI 1), .ref 238])) (by decide +kernel) rfl ?_
  dsimp only
  refine am_Rq.if2 (t := 51) (show decode (am_by 102) 42 = .ok (.if_icmp .eq 9, 3) by decide +kernel) (by decide) (fun e1 => ?_) (fun e1 => ?_)
  ·
    refine am_Rq.blk (is := [(.iconst 1, 1), (.goto 4, 3)]) (q := (56, [some (.ref 238), some (.int x), some (.int y), some (.int z), some (.int u), some (.int (nI 0))], [.int (nI 1), .int (nI 1), .ref 238])) (by decide +kernel) rfl ?_
    dsimp only
    refine am_Rq.blk (is := [(.iload 5, 2)]) (q := (58, [some (.ref 238), some (.int x), some (.int y), some (.int z), some (.int u), some (.int (nI 0))], [.int (nI 0), .int (nI 1), .int (nI 1), .ref 238])) (by decide +kernel) rfl ?_
    dsimp only
    refine am_Rq.if1T (t := 84) (show decode (am_by 102) 58 = .ok (.ifCond .eq 26, 3) by decide +kernel) (by decide) (rfl) ?_
    refine am_Rq.blk (is := [(.iconst 0, 1)]) (q := (85, [some (.ref 238), some (.int x), some (.int y), some (.int z), some (.int u), some (.int (nI 0))], [.int (nI 0), .int (nI 1), .int (nI 1), .ref 238])) (by decide +kernel) rfl ?_
    dsimp only
    refine am_Rq.callV (show decode (am_by 102) 85 = .ok (.invokevirtual 57, 3) by decide +kernel) rfl [.int (nI (am_b true)), .int (nI (am_b true)), .int (nI (am_b false))] [] rfl rfl (Nat.le_of_ble_eq_true rfl) rfl hM rfl (m_refused hM true true false) ?_
    rintro _ _ ⟨rfl, rfl⟩
    have hM1 := am_ss (c' := (7, m_ob 1 kn co)) hM
    have hS1 := (am_sn (c' := (7, m_ob 1 kn co)) (show 238 ≠ 239 by decide)).trans hS
    show am_Rq _ 102 88 [some (.ref 238), some (.int x), some (.int y), some (.int z), some (.int u), some (.int (nI 0))] [.int (nI (am_b true))] _ _
    refine am_Rq.if1F (show decode (am_by 102) 88 = .ok (.ifCond .eq 5, 3) by decide +kernel) (by decide) (rfl) ?_
    refine am_Rq.blk (is := [(.iconst 0, 1)]) (q := (92, [some (.ref 238), some (.int x), some (.int y), some (.int z), some (.int u), some (.int (nI 0))], [.int (nI 0)])) (by decide +kernel) rfl ?_
    dsimp only
    refine am_Rq.ret (v := some (.int (nI 0))) (show decode (am_by 102) 92 = .ok (.ireturn, 1) by decide +kernel) rfl rfl ?_
    exact ⟨_, rfl, rfl, rfl⟩
  ·
    refine am_Rq.blk (is := [(.iload 4, 2), (.iconst 1, 1)]) (q := (48, [some (.ref 238), some (.int x), some (.int y), some (.int z), some (.int u), some (.int (nI 0))], [.int (nI 1), .int u, .int (nI 1), .ref 238])) (by decide +kernel) rfl ?_
    dsimp only
    refine am_Rq.if2 (t := 55) (show decode (am_by 102) 48 = .ok (.if_icmp .ge 7, 3) by decide +kernel) (by decide) (fun e2 => ?_) (fun e2 => ?_)
    ·
      refine am_Rq.blk (is := [(.iconst 0, 1), (.iload 5, 2)]) (q := (58, [some (.ref 238), some (.int x), some (.int y), some (.int z), some (.int u), some (.int (nI 0))], [.int (nI 0), .int (nI 0), .int (nI 1), .ref 238])) (by decide +kernel) rfl ?_
      dsimp only
      refine am_Rq.if1T (t := 84) (show decode (am_by 102) 58 = .ok (.ifCond .eq 26, 3) by decide +kernel) (by decide) (rfl) ?_
      refine am_Rq.blk (is := [(.iconst 0, 1)]) (q := (85, [some (.ref 238), some (.int x), some (.int y), some (.int z), some (.int u), some (.int (nI 0))], [.int (nI 0), .int (nI 0), .int (nI 1), .ref 238])) (by decide +kernel) rfl ?_
      dsimp only
      refine am_Rq.callV (show decode (am_by 102) 85 = .ok (.invokevirtual 57, 3) by decide +kernel) rfl [.int (nI (am_b true)), .int (nI (am_b false)), .int (nI (am_b false))] [] rfl rfl (Nat.le_of_ble_eq_true rfl) rfl hM rfl (m_refused hM true false false) ?_
      rintro _ _ ⟨rfl, rfl⟩
      have hM1 := am_ss (c' := (7, m_ob 1 kn co)) hM
      have hS1 := (am_sn (c' := (7, m_ob 1 kn co)) (show 238 ≠ 239 by decide)).trans hS
      show am_Rq _ 102 88 [some (.ref 238), some (.int x), some (.int y), some (.int z), some (.int u), some (.int (nI 0))] [.int (nI (am_b true))] _ _
      refine am_Rq.if1F (show decode (am_by 102) 88 = .ok (.ifCond .eq 5, 3) by decide +kernel) (by decide) (rfl) ?_
      refine am_Rq.blk (is := [(.iconst 0, 1)]) (q := (92, [some (.ref 238), some (.int x), some (.int y), some (.int z), some (.int u), some (.int (nI 0))], [.int (nI 0)])) (by decide +kernel) rfl ?_
      dsimp only
      refine am_Rq.ret (v := some (.int (nI 0))) (show decode (am_by 102) 92 = .ok (.ireturn, 1) by decide +kernel) rfl rfl ?_
      exact ⟨_, rfl, rfl, rfl⟩
    ·
      refine am_Rq.blk (is := [(.iconst 1, 1), (.goto 4, 3)]) (q := (56, [some (.ref 238), some (.int x), some (.int y), some (.int z), some (.int u), some (.int (nI 0))], [.int (nI 1), .int (nI 1), .ref 238])) (by decide +kernel) rfl ?_
      dsimp only
      refine am_Rq.blk (is := [(.iload 5, 2)]) (q := (58, [some (.ref 238), some (.int x), some (.int y), some (.int z), some (.int u), some (.int (nI 0))], [.int (nI 0), .int (nI 1), .int (nI 1), .ref 238])) (by decide +kernel) rfl ?_
      dsimp only
      refine am_Rq.if1T (t := 84) (show decode (am_by 102) 58 = .ok (.ifCond .eq 26, 3) by decide +kernel) (by decide) (rfl) ?_
      refine am_Rq.blk (is := [(.iconst 0, 1)]) (q := (85, [some (.ref 238), some (.int x), some (.int y), some (.int z), some (.int u), some (.int (nI 0))], [.int (nI 0), .int (nI 1), .int (nI 1), .ref 238])) (by decide +kernel) rfl ?_
      dsimp only
      refine am_Rq.callV (show decode (am_by 102) 85 = .ok (.invokevirtual 57, 3) by decide +kernel) rfl [.int (nI (am_b true)), .int (nI (am_b true)), .int (nI (am_b false))] [] rfl rfl (Nat.le_of_ble_eq_true rfl) rfl hM rfl (m_refused hM true true false) ?_
      rintro _ _ ⟨rfl, rfl⟩
      have hM1 := am_ss (c' := (7, m_ob 1 kn co)) hM
      have hS1 := (am_sn (c' := (7, m_ob 1 kn co)) (show 238 ≠ 239 by decide)).trans hS
      show am_Rq _ 102 88 [some (.ref 238), some (.int x), some (.int y), some (.int z), some (.int u), some (.int (nI 0))] [.int (nI (am_b true))] _ _
      refine am_Rq.if1F (show decode (am_by 102) 88 = .ok (.ifCond .eq 5, 3) by decide +kernel) (by decide) (rfl) ?_
      refine am_Rq.blk (is := [(.iconst 0, 1)]) (q := (92, [some (.ref 238), some (.int x), some (.int y), some (.int z), some (.int u), some (.int (nI 0))], [.int (nI 0)])) (by decide +kernel) rfl ?_
      dsimp only
      refine am_Rq.ret (v := some (.int (nI 0))) (show decode (am_by 102) 92 = .ok (.ireturn, 1) by decide +kernel) rfl rfl ?_
      exact ⟨_, rfl, rfl, rfl⟩
theorem m_transfer_no2 {th kn co : Nat} (hM : hp[238]? = some (7, [.int (nI th), .ref 239, .ref 240, .int (nI kn), .ref 241, .ref 242, .ref 243, .ref 244, .long (lN co), .ref 245])) {s : Nat → Nat} (hS : hp[239]? = some (100, am_ia (fun i => nI (s i)) 160)) {c : Nat} (hc : c ≤ s 0) (hc5 : c < 5) (h0 : s 0 < 2 ^ 31) {y z u : Int32} (hx : rg_r (nI 0) (nI 7) y = false) : am_Rq (d + 2) 102 0 (am_en [.ref 238, .int (nI c), .int y, .int z, .int u] 6) [] hp (am_Ret fun hp1 v => hp1 = hp.set 238 (7, m_ob 1 kn co) ∧ v = some (.int (nI (0)))) := by
  show am_Rq _ 102 0 [some (.ref 238), some (.int (nI c)), some (.int y), some (.int z), some (.int u), none] [] _ _
  refine am_Rq.blk (is := [(.aload_n 0, 1), (.iload_n 1, 1)]) (q := (2, [some (.ref 238), some (.int (nI c)), some (.int y), some (.int z), some (.int u), none], [.int (nI c), .ref 238])) (by decide +kernel) rfl ?_
  dsimp only
  refine am_Rq.callV (show decode (am_by 102) 2 = .ok (.invokevirtual 64, 3) by decide +kernel) rfl [.int (nI c)] [] rfl rfl (Nat.le_of_ble_eq_true rfl) rfl hM rfl (m_isClass hM hS (nI c)) ?_
  rintro hq _ ⟨e1, rfl⟩
  rw [e1]
  clear e1 hq
  show am_Rq _ 102 5 [some (.ref 238), some (.int (nI c)), some (.int y), some (.int z), some (.int u), none] [.int (nI (am_b (rg_r (nI 0) (nI (s 0)) (nI c))))] _ _
  refine am_Rq.if1F (show decode (am_by 102) 5 = .ok (.ifCond .eq 21, 3) by decide +kernel) (by decide) (by rw [am_b_eq, rg_le (by omega) hc h0]; rfl) ?_
  refine am_Rq.blk (is := [(.iload_n 2, 1)]) (q := (9, [some (.ref 238), some (.int (nI c)), some (.int y), some (.int z), some (.int u), none], [.int y])) (by decide +kernel) rfl ?_
  dsimp only
  refine am_Rq.callS (show decode (am_by 102) 9 = .ok (.invokestatic 68, 3) by decide +kernel) rfl [.int y] [] rfl rfl (Nat.le_of_ble_eq_true rfl) rfl rfl (m_isHolder (y)) ?_
  rintro hq _ ⟨e1, rfl⟩
  rw [e1]
  clear e1 hq
  show am_Rq _ 102 12 [some (.ref 238), some (.int (nI c)), some (.int y), some (.int z), some (.int u), none] [.int (nI (am_b (rg_r (nI 0) (nI 7) (y))))] _ _
  refine am_Rq.if1T (t := 26) (show decode (am_by 102) 12 = .ok (.ifCond .eq 14, 3) by decide +kernel) (by decide) (by rw [am_b_eq, hx]; rfl) ?_
  refine am_Rq.blk (is := [(.iconst 0, 1), (.istore 5, 2), (.aload_n 0, 1), (.iload 5, 2)]) (q := (32, [some (.ref 238), some (.int (nI c)), some (.int y), some (.int z), some (.int u), some (.int (nI 0))], [.int (nI 0), .ref 238])) (by decide +kernel) rfl ?_
  dsimp only
  refine am_Rq.if1F (show decode (am_by 102) 32 = .ok (.ifCond .ne 7, 3) by decide +kernel) (by decide) (rfl) ?_
  refine am_Rq.blk (is := [(.iconst 1, 1), (.goto 4, 3)]) (q := (40, [some (.ref 238), some (.int (nI c)), some (.int y), some (.int z), some (.int u), some (.int (nI 0))], [.int (nI 1), .ref 238])) (by decide +kernel) rfl ?_
  dsimp only
  refine am_Rq.blk (is := [(.iload_n 2, 1), (.iload_n 3, 1)]) (q := (42, [some (.ref 238), some (.int (nI c)), some (.int y), some (.int z), some (.int u), some (.int (nI 0))], [.int z, .int y, .int (nI 1), .ref 238])) (by decide +kernel) rfl ?_
  dsimp only
  refine am_Rq.if2 (t := 51) (show decode (am_by 102) 42 = .ok (.if_icmp .eq 9, 3) by decide +kernel) (by decide) (fun e1 => ?_) (fun e1 => ?_)
  ·
    refine am_Rq.blk (is := [(.iconst 1, 1), (.goto 4, 3)]) (q := (56, [some (.ref 238), some (.int (nI c)), some (.int y), some (.int z), some (.int u), some (.int (nI 0))], [.int (nI 1), .int (nI 1), .ref 238])) (by decide +kernel) rfl ?_
    dsimp only
    refine am_Rq.blk (is := [(.iload 5, 2)]) (q := (58, [some (.ref 238), some (.int (nI c)), some (.int y), some (.int z), some (.int u), some (.int (nI 0))], [.int (nI 0), .int (nI 1), .int (nI 1), .ref 238])) (by decide +kernel) rfl ?_
    dsimp only
    refine am_Rq.if1T (t := 84) (show decode (am_by 102) 58 = .ok (.ifCond .eq 26, 3) by decide +kernel) (by decide) (rfl) ?_
    refine am_Rq.blk (is := [(.iconst 0, 1)]) (q := (85, [some (.ref 238), some (.int (nI c)), some (.int y), some (.int z), some (.int u), some (.int (nI 0))], [.int (nI 0), .int (nI 1), .int (nI 1), .ref 238])) (by decide +kernel) rfl ?_
    dsimp only
    refine am_Rq.callV (show decode (am_by 102) 85 = .ok (.invokevirtual 57, 3) by decide +kernel) rfl [.int (nI (am_b true)), .int (nI (am_b true)), .int (nI (am_b false))] [] rfl rfl (Nat.le_of_ble_eq_true rfl) rfl hM rfl (m_refused hM true true false) ?_
    rintro _ _ ⟨rfl, rfl⟩
    have hM1 := am_ss (c' := (7, m_ob 1 kn co)) hM
    have hS1 := (am_sn (c' := (7, m_ob 1 kn co)) (show 238 ≠ 239 by decide)).trans hS
    show am_Rq _ 102 88 [some (.ref 238), some (.int (nI c)), some (.int y), some (.int z), some (.int u), some (.int (nI 0))] [.int (nI (am_b true))] _ _
    refine am_Rq.if1F (show decode (am_by 102) 88 = .ok (.ifCond .eq 5, 3) by decide +kernel) (by decide) (rfl) ?_
    refine am_Rq.blk (is := [(.iconst 0, 1)]) (q := (92, [some (.ref 238), some (.int (nI c)), some (.int y), some (.int z), some (.int u), some (.int (nI 0))], [.int (nI 0)])) (by decide +kernel) rfl ?_
    dsimp only
    refine am_Rq.ret (v := some (.int (nI 0))) (show decode (am_by 102) 92 = .ok (.ireturn, 1) by decide +kernel) rfl rfl ?_
    exact ⟨_, rfl, rfl, rfl⟩
  ·
    refine am_Rq.blk (is := [(.iload 4, 2), (.iconst 1, 1)]) (q := (48, [some (.ref 238), some (.int (nI c)), some (.int y), some (.int z), some (.int u), some (.int (nI 0))], [.int (nI 1), .int u, .int (nI 1), .ref 238])) (by decide +kernel) rfl ?_
    dsimp only
    refine am_Rq.if2 (t := 55) (show decode (am_by 102) 48 = .ok (.if_icmp .ge 7, 3) by decide +kernel) (by decide) (fun e2 => ?_) (fun e2 => ?_)
    ·
      refine am_Rq.blk (is := [(.iconst 0, 1), (.iload 5, 2)]) (q := (58, [some (.ref 238), some (.int (nI c)), some (.int y), some (.int z), some (.int u), some (.int (nI 0))], [.int (nI 0), .int (nI 0), .int (nI 1), .ref 238])) (by decide +kernel) rfl ?_
      dsimp only
      refine am_Rq.if1T (t := 84) (show decode (am_by 102) 58 = .ok (.ifCond .eq 26, 3) by decide +kernel) (by decide) (rfl) ?_
      refine am_Rq.blk (is := [(.iconst 0, 1)]) (q := (85, [some (.ref 238), some (.int (nI c)), some (.int y), some (.int z), some (.int u), some (.int (nI 0))], [.int (nI 0), .int (nI 0), .int (nI 1), .ref 238])) (by decide +kernel) rfl ?_
      dsimp only
      refine am_Rq.callV (show decode (am_by 102) 85 = .ok (.invokevirtual 57, 3) by decide +kernel) rfl [.int (nI (am_b true)), .int (nI (am_b false)), .int (nI (am_b false))] [] rfl rfl (Nat.le_of_ble_eq_true rfl) rfl hM rfl (m_refused hM true false false) ?_
      rintro _ _ ⟨rfl, rfl⟩
      have hM1 := am_ss (c' := (7, m_ob 1 kn co)) hM
      have hS1 := (am_sn (c' := (7, m_ob 1 kn co)) (show 238 ≠ 239 by decide)).trans hS
      show am_Rq _ 102 88 [some (.ref 238), some (.int (nI c)), some (.int y), some (.int z), some (.int u), some (.int (nI 0))] [.int (nI (am_b true))] _ _
      refine am_Rq.if1F (show decode (am_by 102) 88 = .ok (.ifCond .eq 5, 3) by decide +kernel) (by decide) (rfl) ?_
      refine am_Rq.blk (is := [(.iconst 0, 1)]) (q := (92, [some (.ref 238), some (.int (nI c)), some (.int y), some (.int z), some (.int u), some (.int (nI 0))], [.int (nI 0)])) (by decide +kernel) rfl ?_
      dsimp only
      refine am_Rq.ret (v := some (.int (nI 0))) (show decode (am_by 102) 92 = .ok (.ireturn, 1) by decide +kernel) rfl rfl ?_
      exact ⟨_, rfl, rfl, rfl⟩
    ·
      refine am_Rq.blk (is := [(.iconst 1, 1), (.goto 4, 3)]) (q := (56, [some (.ref 238), some (.int (nI c)), some (.int y), some (.int z), some (.int u), some (.int (nI 0))], [.int (nI 1), .int (nI 1), .ref 238])) (by decide +kernel) rfl ?_
      dsimp only
      refine am_Rq.blk (is := [(.iload 5, 2)]) (q := (58, [some (.ref 238), some (.int (nI c)), some (.int y), some (.int z), some (.int u), some (.int (nI 0))], [.int (nI 0), .int (nI 1), .int (nI 1), .ref 238])) (by decide +kernel) rfl ?_
      dsimp only
      refine am_Rq.if1T (t := 84) (show decode (am_by 102) 58 = .ok (.ifCond .eq 26, 3) by decide +kernel) (by decide) (rfl) ?_
      refine am_Rq.blk (is := [(.iconst 0, 1)]) (q := (85, [some (.ref 238), some (.int (nI c)), some (.int y), some (.int z), some (.int u), some (.int (nI 0))], [.int (nI 0), .int (nI 1), .int (nI 1), .ref 238])) (by decide +kernel) rfl ?_
      dsimp only
      refine am_Rq.callV (show decode (am_by 102) 85 = .ok (.invokevirtual 57, 3) by decide +kernel) rfl [.int (nI (am_b true)), .int (nI (am_b true)), .int (nI (am_b false))] [] rfl rfl (Nat.le_of_ble_eq_true rfl) rfl hM rfl (m_refused hM true true false) ?_
      rintro _ _ ⟨rfl, rfl⟩
      have hM1 := am_ss (c' := (7, m_ob 1 kn co)) hM
      have hS1 := (am_sn (c' := (7, m_ob 1 kn co)) (show 238 ≠ 239 by decide)).trans hS
      show am_Rq _ 102 88 [some (.ref 238), some (.int (nI c)), some (.int y), some (.int z), some (.int u), some (.int (nI 0))] [.int (nI (am_b true))] _ _
      refine am_Rq.if1F (show decode (am_by 102) 88 = .ok (.ifCond .eq 5, 3) by decide +kernel) (by decide) (rfl) ?_
      refine am_Rq.blk (is := [(.iconst 0, 1)]) (q := (92, [some (.ref 238), some (.int (nI c)), some (.int y), some (.int z), some (.int u), some (.int (nI 0))], [.int (nI 0)])) (by decide +kernel) rfl ?_
      dsimp only
      refine am_Rq.ret (v := some (.int (nI 0))) (show decode (am_by 102) 92 = .ok (.ireturn, 1) by decide +kernel) rfl rfl ?_
      exact ⟨_, rfl, rfl, rfl⟩
theorem m_transfer_no3 {th kn co : Nat} (hM : hp[238]? = some (7, [.int (nI th), .ref 239, .ref 240, .int (nI kn), .ref 241, .ref 242, .ref 243, .ref 244, .long (lN co), .ref 245])) {s : Nat → Nat} (hS : hp[239]? = some (100, am_ia (fun i => nI (s i)) 160)) {c : Nat} (hc : c ≤ s 0) (hc5 : c < 5) (h0 : s 0 < 2 ^ 31) {fr : Nat} (hf : fr < 8) {z u : Int32} (hx : rg_r (nI 0) (nI 7) z = false) : am_Rq (d + 2) 102 0 (am_en [.ref 238, .int (nI c), .int (nI fr), .int z, .int u] 6) [] hp (am_Ret fun hp1 v => hp1 = hp.set 238 (7, m_ob 1 kn co) ∧ v = some (.int (nI (0)))) := by
  show am_Rq _ 102 0 [some (.ref 238), some (.int (nI c)), some (.int (nI fr)), some (.int z), some (.int u), none] [] _ _
  refine am_Rq.blk (is := [(.aload_n 0, 1), (.iload_n 1, 1)]) (q := (2, [some (.ref 238), some (.int (nI c)), some (.int (nI fr)), some (.int z), some (.int u), none], [.int (nI c), .ref 238])) (by decide +kernel) rfl ?_
  dsimp only
  refine am_Rq.callV (show decode (am_by 102) 2 = .ok (.invokevirtual 64, 3) by decide +kernel) rfl [.int (nI c)] [] rfl rfl (Nat.le_of_ble_eq_true rfl) rfl hM rfl (m_isClass hM hS (nI c)) ?_
  rintro hq _ ⟨e1, rfl⟩
  rw [e1]
  clear e1 hq
  show am_Rq _ 102 5 [some (.ref 238), some (.int (nI c)), some (.int (nI fr)), some (.int z), some (.int u), none] [.int (nI (am_b (rg_r (nI 0) (nI (s 0)) (nI c))))] _ _
  refine am_Rq.if1F (show decode (am_by 102) 5 = .ok (.ifCond .eq 21, 3) by decide +kernel) (by decide) (by rw [am_b_eq, rg_le (by omega) hc h0]; rfl) ?_
  refine am_Rq.blk (is := [(.iload_n 2, 1)]) (q := (9, [some (.ref 238), some (.int (nI c)), some (.int (nI fr)), some (.int z), some (.int u), none], [.int (nI fr)])) (by decide +kernel) rfl ?_
  dsimp only
  refine am_Rq.callS (show decode (am_by 102) 9 = .ok (.invokestatic 68, 3) by decide +kernel) rfl [.int (nI fr)] [] rfl rfl (Nat.le_of_ble_eq_true rfl) rfl rfl (m_isHolder (nI fr)) ?_
  rintro hq _ ⟨e1, rfl⟩
  rw [e1]
  clear e1 hq
  show am_Rq _ 102 12 [some (.ref 238), some (.int (nI c)), some (.int (nI fr)), some (.int z), some (.int u), none] [.int (nI (am_b (rg_r (nI 0) (nI 7) (nI fr))))] _ _
  refine am_Rq.if1F (show decode (am_by 102) 12 = .ok (.ifCond .eq 14, 3) by decide +kernel) (by decide) (by rw [am_b_eq, rg_le (by omega) (show fr ≤ 7 by omega) (by omega)]; rfl) ?_
  refine am_Rq.blk (is := [(.iload_n 3, 1)]) (q := (16, [some (.ref 238), some (.int (nI c)), some (.int (nI fr)), some (.int z), some (.int u), none], [.int z])) (by decide +kernel) rfl ?_
  dsimp only
  refine am_Rq.callS (show decode (am_by 102) 16 = .ok (.invokestatic 68, 3) by decide +kernel) rfl [.int z] [] rfl rfl (Nat.le_of_ble_eq_true rfl) rfl rfl (m_isHolder (z)) ?_
  rintro hq _ ⟨e1, rfl⟩
  rw [e1]
  clear e1 hq
  show am_Rq _ 102 19 [some (.ref 238), some (.int (nI c)), some (.int (nI fr)), some (.int z), some (.int u), none] [.int (nI (am_b (rg_r (nI 0) (nI 7) (z))))] _ _
  refine am_Rq.if1T (t := 26) (show decode (am_by 102) 19 = .ok (.ifCond .eq 7, 3) by decide +kernel) (by decide) (by rw [am_b_eq, hx]; rfl) ?_
  refine am_Rq.blk (is := [(.iconst 0, 1), (.istore 5, 2), (.aload_n 0, 1), (.iload 5, 2)]) (q := (32, [some (.ref 238), some (.int (nI c)), some (.int (nI fr)), some (.int z), some (.int u), some (.int (nI 0))], [.int (nI 0), .ref 238])) (by decide +kernel) rfl ?_
  dsimp only
  refine am_Rq.if1F (show decode (am_by 102) 32 = .ok (.ifCond .ne 7, 3) by decide +kernel) (by decide) (rfl) ?_
  refine am_Rq.blk (is := [(.iconst 1, 1), (.goto 4, 3)]) (q := (40, [some (.ref 238), some (.int (nI c)), some (.int (nI fr)), some (.int z), some (.int u), some (.int (nI 0))], [.int (nI 1), .ref 238])) (by decide +kernel) rfl ?_
  dsimp only
  refine am_Rq.blk (is := [(.iload_n 2, 1), (.iload_n 3, 1)]) (q := (42, [some (.ref 238), some (.int (nI c)), some (.int (nI fr)), some (.int z), some (.int u), some (.int (nI 0))], [.int z, .int (nI fr), .int (nI 1), .ref 238])) (by decide +kernel) rfl ?_
  dsimp only
  refine am_Rq.if2 (t := 51) (show decode (am_by 102) 42 = .ok (.if_icmp .eq 9, 3) by decide +kernel) (by decide) (fun e1 => ?_) (fun e1 => ?_)
  ·
    refine am_Rq.blk (is := [(.iconst 1, 1), (.goto 4, 3)]) (q := (56, [some (.ref 238), some (.int (nI c)), some (.int (nI fr)), some (.int z), some (.int u), some (.int (nI 0))], [.int (nI 1), .int (nI 1), .ref 238])) (by decide +kernel) rfl ?_
    dsimp only
    refine am_Rq.blk (is := [(.iload 5, 2)]) (q := (58, [some (.ref 238), some (.int (nI c)), some (.int (nI fr)), some (.int z), some (.int u), some (.int (nI 0))], [.int (nI 0), .int (nI 1), .int (nI 1), .ref 238])) (by decide +kernel) rfl ?_
    dsimp only
    refine am_Rq.if1T (t := 84) (show decode (am_by 102) 58 = .ok (.ifCond .eq 26, 3) by decide +kernel) (by decide) (rfl) ?_
    refine am_Rq.blk (is := [(.iconst 0, 1)]) (q := (85, [some (.ref 238), some (.int (nI c)), some (.int (nI fr)), some (.int z), some (.int u), some (.int (nI 0))], [.int (nI 0), .int (nI 1), .int (nI 1), .ref 238])) (by decide +kernel) rfl ?_
    dsimp only
    refine am_Rq.callV (show decode (am_by 102) 85 = .ok (.invokevirtual 57, 3) by decide +kernel) rfl [.int (nI (am_b true)), .int (nI (am_b true)), .int (nI (am_b false))] [] rfl rfl (Nat.le_of_ble_eq_true rfl) rfl hM rfl (m_refused hM true true false) ?_
    rintro _ _ ⟨rfl, rfl⟩
    have hM1 := am_ss (c' := (7, m_ob 1 kn co)) hM
    have hS1 := (am_sn (c' := (7, m_ob 1 kn co)) (show 238 ≠ 239 by decide)).trans hS
    show am_Rq _ 102 88 [some (.ref 238), some (.int (nI c)), some (.int (nI fr)), some (.int z), some (.int u), some (.int (nI 0))] [.int (nI (am_b true))] _ _
    refine am_Rq.if1F (show decode (am_by 102) 88 = .ok (.ifCond .eq 5, 3) by decide +kernel) (by decide) (rfl) ?_
    refine am_Rq.blk (is := [(.iconst 0, 1)]) (q := (92, [some (.ref 238), some (.int (nI c)), some (.int (nI fr)), some (.int z), some (.int u), some (.int (nI 0))], [.int (nI 0)])) (by decide +kernel) rfl ?_
    dsimp only
    refine am_Rq.ret (v := some (.int (nI 0))) (show decode (am_by 102) 92 = .ok (.ireturn, 1) by decide +kernel) rfl rfl ?_
    exact ⟨_, rfl, rfl, rfl⟩
  ·
    refine am_Rq.blk (is := [(.iload 4, 2), (.iconst 1, 1)]) (q := (48, [some (.ref 238), some (.int (nI c)), some (.int (nI fr)), some (.int z), some (.int u), some (.int (nI 0))], [.int (nI 1), .int u, .int (nI 1), .ref 238])) (by decide +kernel) rfl ?_
    dsimp only
    refine am_Rq.if2 (t := 55) (show decode (am_by 102) 48 = .ok (.if_icmp .ge 7, 3) by decide +kernel) (by decide) (fun e2 => ?_) (fun e2 => ?_)
    ·
      refine am_Rq.blk (is := [(.iconst 0, 1), (.iload 5, 2)]) (q := (58, [some (.ref 238), some (.int (nI c)), some (.int (nI fr)), some (.int z), some (.int u), some (.int (nI 0))], [.int (nI 0), .int (nI 0), .int (nI 1), .ref 238])) (by decide +kernel) rfl ?_
      dsimp only
      refine am_Rq.if1T (t := 84) (show decode (am_by 102) 58 = .ok (.ifCond .eq 26, 3) by decide +kernel) (by decide) (rfl) ?_
      refine am_Rq.blk (is := [(.iconst 0, 1)]) (q := (85, [some (.ref 238), some (.int (nI c)), some (.int (nI fr)), some (.int z), some (.int u), some (.int (nI 0))], [.int (nI 0), .int (nI 0), .int (nI 1), .ref 238])) (by decide +kernel) rfl ?_
      dsimp only
      refine am_Rq.callV (show decode (am_by 102) 85 = .ok (.invokevirtual 57, 3) by decide +kernel) rfl [.int (nI (am_b true)), .int (nI (am_b false)), .int (nI (am_b false))] [] rfl rfl (Nat.le_of_ble_eq_true rfl) rfl hM rfl (m_refused hM true false false) ?_
      rintro _ _ ⟨rfl, rfl⟩
      have hM1 := am_ss (c' := (7, m_ob 1 kn co)) hM
      have hS1 := (am_sn (c' := (7, m_ob 1 kn co)) (show 238 ≠ 239 by decide)).trans hS
      show am_Rq _ 102 88 [some (.ref 238), some (.int (nI c)), some (.int (nI fr)), some (.int z), some (.int u), some (.int (nI 0))] [.int (nI (am_b true))] _ _
      refine am_Rq.if1F (show decode (am_by 102) 88 = .ok (.ifCond .eq 5, 3) by decide +kernel) (by decide) (rfl) ?_
      refine am_Rq.blk (is := [(.iconst 0, 1)]) (q := (92, [some (.ref 238), some (.int (nI c)), some (.int (nI fr)), some (.int z), some (.int u), some (.int (nI 0))], [.int (nI 0)])) (by decide +kernel) rfl ?_
      dsimp only
      refine am_Rq.ret (v := some (.int (nI 0))) (show decode (am_by 102) 92 = .ok (.ireturn, 1) by decide +kernel) rfl rfl ?_
      exact ⟨_, rfl, rfl, rfl⟩
    ·
      refine am_Rq.blk (is := [(.iconst 1, 1), (.goto 4, 3)]) (q := (56, [some (.ref 238), some (.int (nI c)), some (.int (nI fr)), some (.int z), some (.int u), some (.int (nI 0))], [.int (nI 1), .int (nI 1), .ref 238])) (by decide +kernel) rfl ?_
      dsimp only
      refine am_Rq.blk (is := [(.iload 5, 2)]) (q := (58, [some (.ref 238), some (.int (nI c)), some (.int (nI fr)), some (.int z), some (.int u), some (.int (nI 0))], [.int (nI 0), .int (nI 1), .int (nI 1), .ref 238])) (by decide +kernel) rfl ?_
      dsimp only
      refine am_Rq.if1T (t := 84) (show decode (am_by 102) 58 = .ok (.ifCond .eq 26, 3) by decide +kernel) (by decide) (rfl) ?_
      refine am_Rq.blk (is := [(.iconst 0, 1)]) (q := (85, [some (.ref 238), some (.int (nI c)), some (.int (nI fr)), some (.int z), some (.int u), some (.int (nI 0))], [.int (nI 0), .int (nI 1), .int (nI 1), .ref 238])) (by decide +kernel) rfl ?_
      dsimp only
      refine am_Rq.callV (show decode (am_by 102) 85 = .ok (.invokevirtual 57, 3) by decide +kernel) rfl [.int (nI (am_b true)), .int (nI (am_b true)), .int (nI (am_b false))] [] rfl rfl (Nat.le_of_ble_eq_true rfl) rfl hM rfl (m_refused hM true true false) ?_
      rintro _ _ ⟨rfl, rfl⟩
      have hM1 := am_ss (c' := (7, m_ob 1 kn co)) hM
      have hS1 := (am_sn (c' := (7, m_ob 1 kn co)) (show 238 ≠ 239 by decide)).trans hS
      show am_Rq _ 102 88 [some (.ref 238), some (.int (nI c)), some (.int (nI fr)), some (.int z), some (.int u), some (.int (nI 0))] [.int (nI (am_b true))] _ _
      refine am_Rq.if1F (show decode (am_by 102) 88 = .ok (.ifCond .eq 5, 3) by decide +kernel) (by decide) (rfl) ?_
      refine am_Rq.blk (is := [(.iconst 0, 1)]) (q := (92, [some (.ref 238), some (.int (nI c)), some (.int (nI fr)), some (.int z), some (.int u), some (.int (nI 0))], [.int (nI 0)])) (by decide +kernel) rfl ?_
      dsimp only
      refine am_Rq.ret (v := some (.int (nI 0))) (show decode (am_by 102) 92 = .ok (.ireturn, 1) by decide +kernel) rfl rfl ?_
      exact ⟨_, rfl, rfl, rfl⟩
theorem m_transfer_no4a {th kn co : Nat} (hM : hp[238]? = some (7, [.int (nI th), .ref 239, .ref 240, .int (nI kn), .ref 241, .ref 242, .ref 243, .ref 244, .long (lN co), .ref 245])) {s : Nat → Nat} (hS : hp[239]? = some (100, am_ia (fun i => nI (s i)) 160)) {c : Nat} (hc : c ≤ s 0) (hc5 : c < 5) (h0 : s 0 < 2 ^ 31) {fr to : Nat} (hf : fr < 8) (ht : to < 8) (hB : ∀ i, 40 ≤ i → i < 80 → s i < 2 ^ 31) {u : Int32} (he : fr = to) : am_Rq (d + 2) 102 0 (am_en [.ref 238, .int (nI c), .int (nI fr), .int (nI to), .int u] 6) [] hp (am_Ret fun hp1 v => hp1 = hp.set 238 (7, m_ob 2 kn co) ∧ v = some (.int (nI (0)))) := by
  show am_Rq _ 102 0 [some (.ref 238), some (.int (nI c)), some (.int (nI fr)), some (.int (nI to)), some (.int u), none] [] _ _
  refine am_Rq.blk (is := [(.aload_n 0, 1), (.iload_n 1, 1)]) (q := (2, [some (.ref 238), some (.int (nI c)), some (.int (nI fr)), some (.int (nI to)), some (.int u), none], [.int (nI c), .ref 238])) (by decide +kernel) rfl ?_
  dsimp only
  refine am_Rq.callV (show decode (am_by 102) 2 = .ok (.invokevirtual 64, 3) by decide +kernel) rfl [.int (nI c)] [] rfl rfl (Nat.le_of_ble_eq_true rfl) rfl hM rfl (m_isClass hM hS (nI c)) ?_
  rintro hq _ ⟨e1, rfl⟩
  rw [e1]
  clear e1 hq
  show am_Rq _ 102 5 [some (.ref 238), some (.int (nI c)), some (.int (nI fr)), some (.int (nI to)), some (.int u), none] [.int (nI (am_b (rg_r (nI 0) (nI (s 0)) (nI c))))] _ _
  refine am_Rq.if1F (show decode (am_by 102) 5 = .ok (.ifCond .eq 21, 3) by decide +kernel) (by decide) (by rw [am_b_eq, rg_le (by omega) hc h0]; rfl) ?_
  refine am_Rq.blk (is := [(.iload_n 2, 1)]) (q := (9, [some (.ref 238), some (.int (nI c)), some (.int (nI fr)), some (.int (nI to)), some (.int u), none], [.int (nI fr)])) (by decide +kernel) rfl ?_
  dsimp only
  refine am_Rq.callS (show decode (am_by 102) 9 = .ok (.invokestatic 68, 3) by decide +kernel) rfl [.int (nI fr)] [] rfl rfl (Nat.le_of_ble_eq_true rfl) rfl rfl (m_isHolder (nI fr)) ?_
  rintro hq _ ⟨e1, rfl⟩
  rw [e1]
  clear e1 hq
  show am_Rq _ 102 12 [some (.ref 238), some (.int (nI c)), some (.int (nI fr)), some (.int (nI to)), some (.int u), none] [.int (nI (am_b (rg_r (nI 0) (nI 7) (nI fr))))] _ _
  refine am_Rq.if1F (show decode (am_by 102) 12 = .ok (.ifCond .eq 14, 3) by decide +kernel) (by decide) (by rw [am_b_eq, rg_le (by omega) (show fr ≤ 7 by omega) (by omega)]; rfl) ?_
  refine am_Rq.blk (is := [(.iload_n 3, 1)]) (q := (16, [some (.ref 238), some (.int (nI c)), some (.int (nI fr)), some (.int (nI to)), some (.int u), none], [.int (nI to)])) (by decide +kernel) rfl ?_
  dsimp only
  refine am_Rq.callS (show decode (am_by 102) 16 = .ok (.invokestatic 68, 3) by decide +kernel) rfl [.int (nI to)] [] rfl rfl (Nat.le_of_ble_eq_true rfl) rfl rfl (m_isHolder (nI to)) ?_
  rintro hq _ ⟨e1, rfl⟩
  rw [e1]
  clear e1 hq
  show am_Rq _ 102 19 [some (.ref 238), some (.int (nI c)), some (.int (nI fr)), some (.int (nI to)), some (.int u), none] [.int (nI (am_b (rg_r (nI 0) (nI 7) (nI to))))] _ _
  refine am_Rq.if1F (show decode (am_by 102) 19 = .ok (.ifCond .eq 7, 3) by decide +kernel) (by decide) (by rw [am_b_eq, rg_le (by omega) (show to ≤ 7 by omega) (by omega)]; rfl) ?_
  refine am_Rq.blk (is := [(.iconst 1, 1), (.goto 4, 3)]) (q := (27, [some (.ref 238), some (.int (nI c)), some (.int (nI fr)), some (.int (nI to)), some (.int u), none], [.int (nI 1)])) (by decide +kernel) rfl ?_
  dsimp only
  refine am_Rq.blk (is := [(.istore 5, 2), (.aload_n 0, 1), (.iload 5, 2)]) (q := (32, [some (.ref 238), some (.int (nI c)), some (.int (nI fr)), some (.int (nI to)), some (.int u), some (.int (nI 1))], [.int (nI 1), .ref 238])) (by decide +kernel) rfl ?_
  dsimp only
  refine am_Rq.if1T (t := 39) (show decode (am_by 102) 32 = .ok (.ifCond .ne 7, 3) by decide +kernel) (by decide) (rfl) ?_
  refine am_Rq.blk (is := [(.iconst 0, 1), (.iload_n 2, 1), (.iload_n 3, 1)]) (q := (42, [some (.ref 238), some (.int (nI c)), some (.int (nI fr)), some (.int (nI to)), some (.int u), some (.int (nI 1))], [.int (nI to), .int (nI fr), .int (nI 0), .ref 238])) (by decide +kernel) rfl ?_
  dsimp only
  refine am_Rq.if2T (t := 51) (show decode (am_by 102) 42 = .ok (.if_icmp .eq 9, 3) by decide +kernel) (by decide) (by rw [nm_eq (by omega) (by omega)]; exact decide_eq_true he) ?_
  refine am_Rq.blk (is := [(.iconst 1, 1), (.goto 4, 3)]) (q := (56, [some (.ref 238), some (.int (nI c)), some (.int (nI fr)), some (.int (nI to)), some (.int u), some (.int (nI 1))], [.int (nI 1), .int (nI 0), .ref 238])) (by decide +kernel) rfl ?_
  dsimp only
  refine am_Rq.blk (is := [(.iload 5, 2)]) (q := (58, [some (.ref 238), some (.int (nI c)), some (.int (nI fr)), some (.int (nI to)), some (.int u), some (.int (nI 1))], [.int (nI 1), .int (nI 1), .int (nI 0), .ref 238])) (by decide +kernel) rfl ?_
  dsimp only
  refine am_Rq.if1F (show decode (am_by 102) 58 = .ok (.ifCond .eq 26, 3) by decide +kernel) (by decide) (rfl) ?_
  refine am_Rq.blk (is := [(.aload_n 0, 1)]) (q := (62, [some (.ref 238), some (.int (nI c)), some (.int (nI fr)), some (.int (nI to)), some (.int u), some (.int (nI 1))], [.ref 238, .int (nI 1), .int (nI 0), .ref 238])) (by decide +kernel) rfl ?_
  dsimp only
  refine am_Rq.getf (v := .ref 239) (show decode (am_by 102) 62 = .ok (.getfield 7, 3) by decide +kernel) rfl hM rfl ?_
  refine am_Rq.blk (is := [(.bipush 40, 2), (.bipush 8, 2), (.iload_n 1, 1), (.imul, 1)]) (q := (71, [some (.ref 238), some (.int (nI c)), some (.int (nI fr)), some (.int (nI to)), some (.int u), some (.int (nI 1))], [.int ((nI 8) * (nI c)), .int (nI 40), .ref 239, .int (nI 1), .int (nI 0), .ref 238])) (by decide +kernel) rfl ?_
  dsimp only
  rw [show (nI 8) * (nI c) = nI (8 * c) from nm_imul _ _]
  refine am_Rq.blk (is := [(.iadd, 1)]) (q := (72, [some (.ref 238), some (.int (nI c)), some (.int (nI fr)), some (.int (nI to)), some (.int u), some (.int (nI 1))], [.int ((nI 40) + (nI (8 * c))), .ref 239, .int (nI 1), .int (nI 0), .ref 238])) (by decide +kernel) rfl ?_
  dsimp only
  rw [show (nI 40) + (nI (8 * c)) = nI (40 + (8 * c)) from nI_add _ _]
  refine am_Rq.blk (is := [(.iload_n 2, 1), (.iadd, 1)]) (q := (74, [some (.ref 238), some (.int (nI c)), some (.int (nI fr)), some (.int (nI to)), some (.int u), some (.int (nI 1))], [.int ((nI (40 + (8 * c))) + (nI fr)), .ref 239, .int (nI 1), .int (nI 0), .ref 238])) (by decide +kernel) rfl ?_
  dsimp only
  rw [show (nI (40 + (8 * c))) + (nI fr) = nI ((40 + (8 * c)) + fr) from nI_add _ _]
  refine am_Rq.ial (k := (40 + (8 * c)) + fr) (show decode (am_by 102) 74 = .ok (.iaload, 1) by decide +kernel) hS (by omega) (by omega) ?_
  refine am_Rq.blk (is := [(.iload 4, 2)]) (q := (77, [some (.ref 238), some (.int (nI c)), some (.int (nI fr)), some (.int (nI to)), some (.int u), some (.int (nI 1))], [.int u, .int (nI (s ((40 + (8 * c)) + fr))), .int (nI 1), .int (nI 0), .ref 238])) (by decide +kernel) rfl ?_
  dsimp only
  refine am_Rq.if2 (t := 84) (show decode (am_by 102) 77 = .ok (.if_icmp .ge 7, 3) by decide +kernel) (by decide) (fun e1 => ?_) (fun e1 => ?_)
  ·
    refine am_Rq.blk (is := [(.iconst 0, 1)]) (q := (85, [some (.ref 238), some (.int (nI c)), some (.int (nI fr)), some (.int (nI to)), some (.int u), some (.int (nI 1))], [.int (nI 0), .int (nI 1), .int (nI 0), .ref 238])) (by decide +kernel) rfl ?_
    dsimp only
    refine am_Rq.callV (show decode (am_by 102) 85 = .ok (.invokevirtual 57, 3) by decide +kernel) rfl [.int (nI (am_b false)), .int (nI (am_b true)), .int (nI (am_b false))] [] rfl rfl (Nat.le_of_ble_eq_true rfl) rfl hM rfl (m_refused hM false true false) ?_
    rintro _ _ ⟨rfl, rfl⟩
    have hM1 := am_ss (c' := (7, m_ob 2 kn co)) hM
    have hS1 := (am_sn (c' := (7, m_ob 2 kn co)) (show 238 ≠ 239 by decide)).trans hS
    show am_Rq _ 102 88 [some (.ref 238), some (.int (nI c)), some (.int (nI fr)), some (.int (nI to)), some (.int u), some (.int (nI 1))] [.int (nI (am_b true))] _ _
    refine am_Rq.if1F (show decode (am_by 102) 88 = .ok (.ifCond .eq 5, 3) by decide +kernel) (by decide) (rfl) ?_
    refine am_Rq.blk (is := [(.iconst 0, 1)]) (q := (92, [some (.ref 238), some (.int (nI c)), some (.int (nI fr)), some (.int (nI to)), some (.int u), some (.int (nI 1))], [.int (nI 0)])) (by decide +kernel) rfl ?_
    dsimp only
    refine am_Rq.ret (v := some (.int (nI 0))) (show decode (am_by 102) 92 = .ok (.ireturn, 1) by decide +kernel) rfl rfl ?_
    exact ⟨_, rfl, rfl, rfl⟩
  ·
    refine am_Rq.blk (is := [(.iconst 1, 1), (.goto 4, 3)]) (q := (85, [some (.ref 238), some (.int (nI c)), some (.int (nI fr)), some (.int (nI to)), some (.int u), some (.int (nI 1))], [.int (nI 1), .int (nI 1), .int (nI 0), .ref 238])) (by decide +kernel) rfl ?_
    dsimp only
    refine am_Rq.callV (show decode (am_by 102) 85 = .ok (.invokevirtual 57, 3) by decide +kernel) rfl [.int (nI (am_b false)), .int (nI (am_b true)), .int (nI (am_b true))] [] rfl rfl (Nat.le_of_ble_eq_true rfl) rfl hM rfl (m_refused hM false true true) ?_
    rintro _ _ ⟨rfl, rfl⟩
    have hM1 := am_ss (c' := (7, m_ob 2 kn co)) hM
    have hS1 := (am_sn (c' := (7, m_ob 2 kn co)) (show 238 ≠ 239 by decide)).trans hS
    show am_Rq _ 102 88 [some (.ref 238), some (.int (nI c)), some (.int (nI fr)), some (.int (nI to)), some (.int u), some (.int (nI 1))] [.int (nI (am_b true))] _ _
    refine am_Rq.if1F (show decode (am_by 102) 88 = .ok (.ifCond .eq 5, 3) by decide +kernel) (by decide) (rfl) ?_
    refine am_Rq.blk (is := [(.iconst 0, 1)]) (q := (92, [some (.ref 238), some (.int (nI c)), some (.int (nI fr)), some (.int (nI to)), some (.int u), some (.int (nI 1))], [.int (nI 0)])) (by decide +kernel) rfl ?_
    dsimp only
    refine am_Rq.ret (v := some (.int (nI 0))) (show decode (am_by 102) 92 = .ok (.ireturn, 1) by decide +kernel) rfl rfl ?_
    exact ⟨_, rfl, rfl, rfl⟩
theorem m_transfer_no4b {th kn co : Nat} (hM : hp[238]? = some (7, [.int (nI th), .ref 239, .ref 240, .int (nI kn), .ref 241, .ref 242, .ref 243, .ref 244, .long (lN co), .ref 245])) {s : Nat → Nat} (hS : hp[239]? = some (100, am_ia (fun i => nI (s i)) 160)) {c : Nat} (hc : c ≤ s 0) (hc5 : c < 5) (h0 : s 0 < 2 ^ 31) {fr to : Nat} (hf : fr < 8) (ht : to < 8) (hB : ∀ i, 40 ≤ i → i < 80 → s i < 2 ^ 31) {u : Int32} (he : fr ≠ to) (hu : u < nI 1) : am_Rq (d + 2) 102 0 (am_en [.ref 238, .int (nI c), .int (nI fr), .int (nI to), .int u] 6) [] hp (am_Ret fun hp1 v => hp1 = hp.set 238 (7, m_ob 2 kn co) ∧ v = some (.int (nI (0)))) := by
  show am_Rq _ 102 0 [some (.ref 238), some (.int (nI c)), some (.int (nI fr)), some (.int (nI to)), some (.int u), none] [] _ _
  refine am_Rq.blk (is := [(.aload_n 0, 1), (.iload_n 1, 1)]) (q := (2, [some (.ref 238), some (.int (nI c)), some (.int (nI fr)), some (.int (nI to)), some (.int u), none], [.int (nI c), .ref 238])) (by decide +kernel) rfl ?_
  dsimp only
  refine am_Rq.callV (show decode (am_by 102) 2 = .ok (.invokevirtual 64, 3) by decide +kernel) rfl [.int (nI c)] [] rfl rfl (Nat.le_of_ble_eq_true rfl) rfl hM rfl (m_isClass hM hS (nI c)) ?_
  rintro hq _ ⟨e1, rfl⟩
  rw [e1]
  clear e1 hq
  show am_Rq _ 102 5 [some (.ref 238), some (.int (nI c)), some (.int (nI fr)), some (.int (nI to)), some (.int u), none] [.int (nI (am_b (rg_r (nI 0) (nI (s 0)) (nI c))))] _ _
  refine am_Rq.if1F (show decode (am_by 102) 5 = .ok (.ifCond .eq 21, 3) by decide +kernel) (by decide) (by rw [am_b_eq, rg_le (by omega) hc h0]; rfl) ?_
  refine am_Rq.blk (is := [(.iload_n 2, 1)]) (q := (9, [some (.ref 238), some (.int (nI c)), some (.int (nI fr)), some (.int (nI to)), some (.int u), none], [.int (nI fr)])) (by decide +kernel) rfl ?_
  dsimp only
  refine am_Rq.callS (show decode (am_by 102) 9 = .ok (.invokestatic 68, 3) by decide +kernel) rfl [.int (nI fr)] [] rfl rfl (Nat.le_of_ble_eq_true rfl) rfl rfl (m_isHolder (nI fr)) ?_
  rintro hq _ ⟨e1, rfl⟩
  rw [e1]
  clear e1 hq
  show am_Rq _ 102 12 [some (.ref 238), some (.int (nI c)), some (.int (nI fr)), some (.int (nI to)), some (.int u), none] [.int (nI (am_b (rg_r (nI 0) (nI 7) (nI fr))))] _ _
  refine am_Rq.if1F (show decode (am_by 102) 12 = .ok (.ifCond .eq 14, 3) by decide +kernel) (by decide) (by rw [am_b_eq, rg_le (by omega) (show fr ≤ 7 by omega) (by omega)]; rfl) ?_
  refine am_Rq.blk (is := [(.iload_n 3, 1)]) (q := (16, [some (.ref 238), some (.int (nI c)), some (.int (nI fr)), some (.int (nI to)), some (.int u), none], [.int (nI to)])) (by decide +kernel) rfl ?_
  dsimp only
  refine am_Rq.callS (show decode (am_by 102) 16 = .ok (.invokestatic 68, 3) by decide +kernel) rfl [.int (nI to)] [] rfl rfl (Nat.le_of_ble_eq_true rfl) rfl rfl (m_isHolder (nI to)) ?_
  rintro hq _ ⟨e1, rfl⟩
  rw [e1]
  clear e1 hq
  show am_Rq _ 102 19 [some (.ref 238), some (.int (nI c)), some (.int (nI fr)), some (.int (nI to)), some (.int u), none] [.int (nI (am_b (rg_r (nI 0) (nI 7) (nI to))))] _ _
  refine am_Rq.if1F (show decode (am_by 102) 19 = .ok (.ifCond .eq 7, 3) by decide +kernel) (by decide) (by rw [am_b_eq, rg_le (by omega) (show to ≤ 7 by omega) (by omega)]; rfl) ?_
  refine am_Rq.blk (is := [(.iconst 1, 1), (.goto 4, 3)]) (q := (27, [some (.ref 238), some (.int (nI c)), some (.int (nI fr)), some (.int (nI to)), some (.int u), none], [.int (nI 1)])) (by decide +kernel) rfl ?_
  dsimp only
  refine am_Rq.blk (is := [(.istore 5, 2), (.aload_n 0, 1), (.iload 5, 2)]) (q := (32, [some (.ref 238), some (.int (nI c)), some (.int (nI fr)), some (.int (nI to)), some (.int u), some (.int (nI 1))], [.int (nI 1), .ref 238])) (by decide +kernel) rfl ?_
  dsimp only
  refine am_Rq.if1T (t := 39) (show decode (am_by 102) 32 = .ok (.ifCond .ne 7, 3) by decide +kernel) (by decide) (rfl) ?_
  refine am_Rq.blk (is := [(.iconst 0, 1), (.iload_n 2, 1), (.iload_n 3, 1)]) (q := (42, [some (.ref 238), some (.int (nI c)), some (.int (nI fr)), some (.int (nI to)), some (.int u), some (.int (nI 1))], [.int (nI to), .int (nI fr), .int (nI 0), .ref 238])) (by decide +kernel) rfl ?_
  dsimp only
  refine am_Rq.if2F (show decode (am_by 102) 42 = .ok (.if_icmp .eq 9, 3) by decide +kernel) (by decide) (by rw [nm_eq (by omega) (by omega)]; exact decide_eq_false he) ?_
  refine am_Rq.blk (is := [(.iload 4, 2), (.iconst 1, 1)]) (q := (48, [some (.ref 238), some (.int (nI c)), some (.int (nI fr)), some (.int (nI to)), some (.int u), some (.int (nI 1))], [.int (nI 1), .int u, .int (nI 0), .ref 238])) (by decide +kernel) rfl ?_
  dsimp only
  refine am_Rq.if2F (show decode (am_by 102) 48 = .ok (.if_icmp .ge 7, 3) by decide +kernel) (by decide) (by exact decide_eq_false (by rw [Int32.not_le]; exact hu)) ?_
  refine am_Rq.blk (is := [(.iconst 1, 1), (.goto 4, 3)]) (q := (56, [some (.ref 238), some (.int (nI c)), some (.int (nI fr)), some (.int (nI to)), some (.int u), some (.int (nI 1))], [.int (nI 1), .int (nI 0), .ref 238])) (by decide +kernel) rfl ?_
  dsimp only
  refine am_Rq.blk (is := [(.iload 5, 2)]) (q := (58, [some (.ref 238), some (.int (nI c)), some (.int (nI fr)), some (.int (nI to)), some (.int u), some (.int (nI 1))], [.int (nI 1), .int (nI 1), .int (nI 0), .ref 238])) (by decide +kernel) rfl ?_
  dsimp only
  refine am_Rq.if1F (show decode (am_by 102) 58 = .ok (.ifCond .eq 26, 3) by decide +kernel) (by decide) (rfl) ?_
  refine am_Rq.blk (is := [(.aload_n 0, 1)]) (q := (62, [some (.ref 238), some (.int (nI c)), some (.int (nI fr)), some (.int (nI to)), some (.int u), some (.int (nI 1))], [.ref 238, .int (nI 1), .int (nI 0), .ref 238])) (by decide +kernel) rfl ?_
  dsimp only
  refine am_Rq.getf (v := .ref 239) (show decode (am_by 102) 62 = .ok (.getfield 7, 3) by decide +kernel) rfl hM rfl ?_
  refine am_Rq.blk (is := [(.bipush 40, 2), (.bipush 8, 2), (.iload_n 1, 1), (.imul, 1)]) (q := (71, [some (.ref 238), some (.int (nI c)), some (.int (nI fr)), some (.int (nI to)), some (.int u), some (.int (nI 1))], [.int ((nI 8) * (nI c)), .int (nI 40), .ref 239, .int (nI 1), .int (nI 0), .ref 238])) (by decide +kernel) rfl ?_
  dsimp only
  rw [show (nI 8) * (nI c) = nI (8 * c) from nm_imul _ _]
  refine am_Rq.blk (is := [(.iadd, 1)]) (q := (72, [some (.ref 238), some (.int (nI c)), some (.int (nI fr)), some (.int (nI to)), some (.int u), some (.int (nI 1))], [.int ((nI 40) + (nI (8 * c))), .ref 239, .int (nI 1), .int (nI 0), .ref 238])) (by decide +kernel) rfl ?_
  dsimp only
  rw [show (nI 40) + (nI (8 * c)) = nI (40 + (8 * c)) from nI_add _ _]
  refine am_Rq.blk (is := [(.iload_n 2, 1), (.iadd, 1)]) (q := (74, [some (.ref 238), some (.int (nI c)), some (.int (nI fr)), some (.int (nI to)), some (.int u), some (.int (nI 1))], [.int ((nI (40 + (8 * c))) + (nI fr)), .ref 239, .int (nI 1), .int (nI 0), .ref 238])) (by decide +kernel) rfl ?_
  dsimp only
  rw [show (nI (40 + (8 * c))) + (nI fr) = nI ((40 + (8 * c)) + fr) from nI_add _ _]
  refine am_Rq.ial (k := (40 + (8 * c)) + fr) (show decode (am_by 102) 74 = .ok (.iaload, 1) by decide +kernel) hS (by omega) (by omega) ?_
  refine am_Rq.blk (is := [(.iload 4, 2)]) (q := (77, [some (.ref 238), some (.int (nI c)), some (.int (nI fr)), some (.int (nI to)), some (.int u), some (.int (nI 1))], [.int u, .int (nI (s ((40 + (8 * c)) + fr))), .int (nI 1), .int (nI 0), .ref 238])) (by decide +kernel) rfl ?_
  dsimp only
  refine am_Rq.if2 (t := 84) (show decode (am_by 102) 77 = .ok (.if_icmp .ge 7, 3) by decide +kernel) (by decide) (fun e1 => ?_) (fun e1 => ?_)
  ·
    refine am_Rq.blk (is := [(.iconst 0, 1)]) (q := (85, [some (.ref 238), some (.int (nI c)), some (.int (nI fr)), some (.int (nI to)), some (.int u), some (.int (nI 1))], [.int (nI 0), .int (nI 1), .int (nI 0), .ref 238])) (by decide +kernel) rfl ?_
    dsimp only
    refine am_Rq.callV (show decode (am_by 102) 85 = .ok (.invokevirtual 57, 3) by decide +kernel) rfl [.int (nI (am_b false)), .int (nI (am_b true)), .int (nI (am_b false))] [] rfl rfl (Nat.le_of_ble_eq_true rfl) rfl hM rfl (m_refused hM false true false) ?_
    rintro _ _ ⟨rfl, rfl⟩
    have hM1 := am_ss (c' := (7, m_ob 2 kn co)) hM
    have hS1 := (am_sn (c' := (7, m_ob 2 kn co)) (show 238 ≠ 239 by decide)).trans hS
    show am_Rq _ 102 88 [some (.ref 238), some (.int (nI c)), some (.int (nI fr)), some (.int (nI to)), some (.int u), some (.int (nI 1))] [.int (nI (am_b true))] _ _
    refine am_Rq.if1F (show decode (am_by 102) 88 = .ok (.ifCond .eq 5, 3) by decide +kernel) (by decide) (rfl) ?_
    refine am_Rq.blk (is := [(.iconst 0, 1)]) (q := (92, [some (.ref 238), some (.int (nI c)), some (.int (nI fr)), some (.int (nI to)), some (.int u), some (.int (nI 1))], [.int (nI 0)])) (by decide +kernel) rfl ?_
    dsimp only
    refine am_Rq.ret (v := some (.int (nI 0))) (show decode (am_by 102) 92 = .ok (.ireturn, 1) by decide +kernel) rfl rfl ?_
    exact ⟨_, rfl, rfl, rfl⟩
  ·
    refine am_Rq.blk (is := [(.iconst 1, 1), (.goto 4, 3)]) (q := (85, [some (.ref 238), some (.int (nI c)), some (.int (nI fr)), some (.int (nI to)), some (.int u), some (.int (nI 1))], [.int (nI 1), .int (nI 1), .int (nI 0), .ref 238])) (by decide +kernel) rfl ?_
    dsimp only
    refine am_Rq.callV (show decode (am_by 102) 85 = .ok (.invokevirtual 57, 3) by decide +kernel) rfl [.int (nI (am_b false)), .int (nI (am_b true)), .int (nI (am_b true))] [] rfl rfl (Nat.le_of_ble_eq_true rfl) rfl hM rfl (m_refused hM false true true) ?_
    rintro _ _ ⟨rfl, rfl⟩
    have hM1 := am_ss (c' := (7, m_ob 2 kn co)) hM
    have hS1 := (am_sn (c' := (7, m_ob 2 kn co)) (show 238 ≠ 239 by decide)).trans hS
    show am_Rq _ 102 88 [some (.ref 238), some (.int (nI c)), some (.int (nI fr)), some (.int (nI to)), some (.int u), some (.int (nI 1))] [.int (nI (am_b true))] _ _
    refine am_Rq.if1F (show decode (am_by 102) 88 = .ok (.ifCond .eq 5, 3) by decide +kernel) (by decide) (rfl) ?_
    refine am_Rq.blk (is := [(.iconst 0, 1)]) (q := (92, [some (.ref 238), some (.int (nI c)), some (.int (nI fr)), some (.int (nI to)), some (.int u), some (.int (nI 1))], [.int (nI 0)])) (by decide +kernel) rfl ?_
    dsimp only
    refine am_Rq.ret (v := some (.int (nI 0))) (show decode (am_by 102) 92 = .ok (.ireturn, 1) by decide +kernel) rfl rfl ?_
    exact ⟨_, rfl, rfl, rfl⟩
theorem m_transfer_no5 {th kn co : Nat} (hM : hp[238]? = some (7, [.int (nI th), .ref 239, .ref 240, .int (nI kn), .ref 241, .ref 242, .ref 243, .ref 244, .long (lN co), .ref 245])) {s : Nat → Nat} (hS : hp[239]? = some (100, am_ia (fun i => nI (s i)) 160)) {c : Nat} (hc : c ≤ s 0) (hc5 : c < 5) (h0 : s 0 < 2 ^ 31) {fr to : Nat} (hf : fr < 8) (ht : to < 8) (hB : ∀ i, 40 ≤ i → i < 80 → s i < 2 ^ 31) {n : Nat} (he : fr ≠ to) (h1 : 1 ≤ n) (hn2 : n < 2 ^ 31) (hn : s (40 + 8 * c + fr) < n) : am_Rq (d + 2) 102 0 (am_en [.ref 238, .int (nI c), .int (nI fr), .int (nI to), .int (nI n)] 6) [] hp (am_Ret fun hp1 v => hp1 = hp.set 238 (7, m_ob 3 kn co) ∧ v = some (.int (nI (0)))) := by
  show am_Rq _ 102 0 [some (.ref 238), some (.int (nI c)), some (.int (nI fr)), some (.int (nI to)), some (.int (nI n)), none] [] _ _
  have hnB := hB (40 + 8 * c + fr) (by omega) (by omega)
  refine am_Rq.blk (is := [(.aload_n 0, 1), (.iload_n 1, 1)]) (q := (2, [some (.ref 238), some (.int (nI c)), some (.int (nI fr)), some (.int (nI to)), some (.int (nI n)), none], [.int (nI c), .ref 238])) (by decide +kernel) rfl ?_
  dsimp only
  refine am_Rq.callV (show decode (am_by 102) 2 = .ok (.invokevirtual 64, 3) by decide +kernel) rfl [.int (nI c)] [] rfl rfl (Nat.le_of_ble_eq_true rfl) rfl hM rfl (m_isClass hM hS (nI c)) ?_
  rintro hq _ ⟨e1, rfl⟩
  rw [e1]
  clear e1 hq
  show am_Rq _ 102 5 [some (.ref 238), some (.int (nI c)), some (.int (nI fr)), some (.int (nI to)), some (.int (nI n)), none] [.int (nI (am_b (rg_r (nI 0) (nI (s 0)) (nI c))))] _ _
  refine am_Rq.if1F (show decode (am_by 102) 5 = .ok (.ifCond .eq 21, 3) by decide +kernel) (by decide) (by rw [am_b_eq, rg_le (by omega) hc h0]; rfl) ?_
  refine am_Rq.blk (is := [(.iload_n 2, 1)]) (q := (9, [some (.ref 238), some (.int (nI c)), some (.int (nI fr)), some (.int (nI to)), some (.int (nI n)), none], [.int (nI fr)])) (by decide +kernel) rfl ?_
  dsimp only
  refine am_Rq.callS (show decode (am_by 102) 9 = .ok (.invokestatic 68, 3) by decide +kernel) rfl [.int (nI fr)] [] rfl rfl (Nat.le_of_ble_eq_true rfl) rfl rfl (m_isHolder (nI fr)) ?_
  rintro hq _ ⟨e1, rfl⟩
  rw [e1]
  clear e1 hq
  show am_Rq _ 102 12 [some (.ref 238), some (.int (nI c)), some (.int (nI fr)), some (.int (nI to)), some (.int (nI n)), none] [.int (nI (am_b (rg_r (nI 0) (nI 7) (nI fr))))] _ _
  refine am_Rq.if1F (show decode (am_by 102) 12 = .ok (.ifCond .eq 14, 3) by decide +kernel) (by decide) (by rw [am_b_eq, rg_le (by omega) (show fr ≤ 7 by omega) (by omega)]; rfl) ?_
  refine am_Rq.blk (is := [(.iload_n 3, 1)]) (q := (16, [some (.ref 238), some (.int (nI c)), some (.int (nI fr)), some (.int (nI to)), some (.int (nI n)), none], [.int (nI to)])) (by decide +kernel) rfl ?_
  dsimp only
  refine am_Rq.callS (show decode (am_by 102) 16 = .ok (.invokestatic 68, 3) by decide +kernel) rfl [.int (nI to)] [] rfl rfl (Nat.le_of_ble_eq_true rfl) rfl rfl (m_isHolder (nI to)) ?_
  rintro hq _ ⟨e1, rfl⟩
  rw [e1]
  clear e1 hq
  show am_Rq _ 102 19 [some (.ref 238), some (.int (nI c)), some (.int (nI fr)), some (.int (nI to)), some (.int (nI n)), none] [.int (nI (am_b (rg_r (nI 0) (nI 7) (nI to))))] _ _
  refine am_Rq.if1F (show decode (am_by 102) 19 = .ok (.ifCond .eq 7, 3) by decide +kernel) (by decide) (by rw [am_b_eq, rg_le (by omega) (show to ≤ 7 by omega) (by omega)]; rfl) ?_
  refine am_Rq.blk (is := [(.iconst 1, 1), (.goto 4, 3)]) (q := (27, [some (.ref 238), some (.int (nI c)), some (.int (nI fr)), some (.int (nI to)), some (.int (nI n)), none], [.int (nI 1)])) (by decide +kernel) rfl ?_
  dsimp only
  refine am_Rq.blk (is := [(.istore 5, 2), (.aload_n 0, 1), (.iload 5, 2)]) (q := (32, [some (.ref 238), some (.int (nI c)), some (.int (nI fr)), some (.int (nI to)), some (.int (nI n)), some (.int (nI 1))], [.int (nI 1), .ref 238])) (by decide +kernel) rfl ?_
  dsimp only
  refine am_Rq.if1T (t := 39) (show decode (am_by 102) 32 = .ok (.ifCond .ne 7, 3) by decide +kernel) (by decide) (rfl) ?_
  refine am_Rq.blk (is := [(.iconst 0, 1), (.iload_n 2, 1), (.iload_n 3, 1)]) (q := (42, [some (.ref 238), some (.int (nI c)), some (.int (nI fr)), some (.int (nI to)), some (.int (nI n)), some (.int (nI 1))], [.int (nI to), .int (nI fr), .int (nI 0), .ref 238])) (by decide +kernel) rfl ?_
  dsimp only
  refine am_Rq.if2F (show decode (am_by 102) 42 = .ok (.if_icmp .eq 9, 3) by decide +kernel) (by decide) (by rw [nm_eq (by omega) (by omega)]; exact decide_eq_false he) ?_
  refine am_Rq.blk (is := [(.iload 4, 2), (.iconst 1, 1)]) (q := (48, [some (.ref 238), some (.int (nI c)), some (.int (nI fr)), some (.int (nI to)), some (.int (nI n)), some (.int (nI 1))], [.int (nI 1), .int (nI n), .int (nI 0), .ref 238])) (by decide +kernel) rfl ?_
  dsimp only
  refine am_Rq.if2T (t := 55) (show decode (am_by 102) 48 = .ok (.if_icmp .ge 7, 3) by decide +kernel) (by decide) (by rw [nm_ge (by omega) (by omega)]; exact decide_eq_true h1) ?_
  refine am_Rq.blk (is := [(.iconst 0, 1), (.iload 5, 2)]) (q := (58, [some (.ref 238), some (.int (nI c)), some (.int (nI fr)), some (.int (nI to)), some (.int (nI n)), some (.int (nI 1))], [.int (nI 1), .int (nI 0), .int (nI 0), .ref 238])) (by decide +kernel) rfl ?_
  dsimp only
  refine am_Rq.if1F (show decode (am_by 102) 58 = .ok (.ifCond .eq 26, 3) by decide +kernel) (by decide) (rfl) ?_
  refine am_Rq.blk (is := [(.aload_n 0, 1)]) (q := (62, [some (.ref 238), some (.int (nI c)), some (.int (nI fr)), some (.int (nI to)), some (.int (nI n)), some (.int (nI 1))], [.ref 238, .int (nI 0), .int (nI 0), .ref 238])) (by decide +kernel) rfl ?_
  dsimp only
  refine am_Rq.getf (v := .ref 239) (show decode (am_by 102) 62 = .ok (.getfield 7, 3) by decide +kernel) rfl hM rfl ?_
  refine am_Rq.blk (is := [(.bipush 40, 2), (.bipush 8, 2), (.iload_n 1, 1), (.imul, 1)]) (q := (71, [some (.ref 238), some (.int (nI c)), some (.int (nI fr)), some (.int (nI to)), some (.int (nI n)), some (.int (nI 1))], [.int ((nI 8) * (nI c)), .int (nI 40), .ref 239, .int (nI 0), .int (nI 0), .ref 238])) (by decide +kernel) rfl ?_
  dsimp only
  rw [show (nI 8) * (nI c) = nI (8 * c) from nm_imul _ _]
  refine am_Rq.blk (is := [(.iadd, 1)]) (q := (72, [some (.ref 238), some (.int (nI c)), some (.int (nI fr)), some (.int (nI to)), some (.int (nI n)), some (.int (nI 1))], [.int ((nI 40) + (nI (8 * c))), .ref 239, .int (nI 0), .int (nI 0), .ref 238])) (by decide +kernel) rfl ?_
  dsimp only
  rw [show (nI 40) + (nI (8 * c)) = nI (40 + (8 * c)) from nI_add _ _]
  refine am_Rq.blk (is := [(.iload_n 2, 1), (.iadd, 1)]) (q := (74, [some (.ref 238), some (.int (nI c)), some (.int (nI fr)), some (.int (nI to)), some (.int (nI n)), some (.int (nI 1))], [.int ((nI (40 + (8 * c))) + (nI fr)), .ref 239, .int (nI 0), .int (nI 0), .ref 238])) (by decide +kernel) rfl ?_
  dsimp only
  rw [show (nI (40 + (8 * c))) + (nI fr) = nI ((40 + (8 * c)) + fr) from nI_add _ _]
  refine am_Rq.ial (k := (40 + (8 * c)) + fr) (show decode (am_by 102) 74 = .ok (.iaload, 1) by decide +kernel) hS (by omega) (by omega) ?_
  refine am_Rq.blk (is := [(.iload 4, 2)]) (q := (77, [some (.ref 238), some (.int (nI c)), some (.int (nI fr)), some (.int (nI to)), some (.int (nI n)), some (.int (nI 1))], [.int (nI n), .int (nI (s ((40 + (8 * c)) + fr))), .int (nI 0), .int (nI 0), .ref 238])) (by decide +kernel) rfl ?_
  dsimp only
  refine am_Rq.if2F (show decode (am_by 102) 77 = .ok (.if_icmp .ge 7, 3) by decide +kernel) (by decide) (by rw [nm_ge (by omega) (by omega)]; exact decide_eq_false (by omega)) ?_
  refine am_Rq.blk (is := [(.iconst 1, 1), (.goto 4, 3)]) (q := (85, [some (.ref 238), some (.int (nI c)), some (.int (nI fr)), some (.int (nI to)), some (.int (nI n)), some (.int (nI 1))], [.int (nI 1), .int (nI 0), .int (nI 0), .ref 238])) (by decide +kernel) rfl ?_
  dsimp only
  refine am_Rq.callV (show decode (am_by 102) 85 = .ok (.invokevirtual 57, 3) by decide +kernel) rfl [.int (nI (am_b false)), .int (nI (am_b false)), .int (nI (am_b true))] [] rfl rfl (Nat.le_of_ble_eq_true rfl) rfl hM rfl (m_refused hM false false true) ?_
  rintro _ _ ⟨rfl, rfl⟩
  have hM1 := am_ss (c' := (7, m_ob 3 kn co)) hM
  have hS1 := (am_sn (c' := (7, m_ob 3 kn co)) (show 238 ≠ 239 by decide)).trans hS
  show am_Rq _ 102 88 [some (.ref 238), some (.int (nI c)), some (.int (nI fr)), some (.int (nI to)), some (.int (nI n)), some (.int (nI 1))] [.int (nI (am_b true))] _ _
  refine am_Rq.if1F (show decode (am_by 102) 88 = .ok (.ifCond .eq 5, 3) by decide +kernel) (by decide) (rfl) ?_
  refine am_Rq.blk (is := [(.iconst 0, 1)]) (q := (92, [some (.ref 238), some (.int (nI c)), some (.int (nI fr)), some (.int (nI to)), some (.int (nI n)), some (.int (nI 1))], [.int (nI 0)])) (by decide +kernel) rfl ?_
  dsimp only
  refine am_Rq.ret (v := some (.int (nI 0))) (show decode (am_by 102) 92 = .ok (.ireturn, 1) by decide +kernel) rfl rfl ?_
  exact ⟨_, rfl, rfl, rfl⟩
end M8
