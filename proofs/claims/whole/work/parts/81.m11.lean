/-! The reference: refusals (rows by prog/m11.py). -/
section M11
variable {d : Nat} {hp : am_H}
theorem m_convert_no1 {th kn co : Nat} (hM : hp[238]? = some (7, [.int (nI th), .ref 239, .ref 240, .int (nI kn), .ref 241, .ref 242, .ref 243, .ref 244, .long (lN co), .ref 245])) {s : Nat → Nat} (hS : hp[239]? = some (100, am_ia (fun i => nI (s i)) 160)) {x y u : Int32} (hx : rg_r (nI 0) (nI (s 0)) x = false) : am_Rq (d + 3) 103 0 (am_en [.ref 238, .int x, .int y, .int u] 7) [] hp (am_Ret fun hp1 v => hp1 = hp.set 238 (7, m_ob 1 kn co) ∧ v = some (.int (nI (0)))) := by
  show am_Rq _ 103 0 [some (.ref 238), some (.int x), some (.int y), some (.int u), none, none, none] [] _ _
  refine am_Rq.blk (is := [(.aload_n 0, 1), (.iload_n 1, 1)]) (q := (2, [some (.ref 238), some (.int x), some (.int y), some (.int u), none, none, none], [.int x, .ref 238])) (by decide +kernel) rfl ?_
  dsimp only
  refine am_Rq.callV (show decode (am_by 103) 2 = .ok (.invokevirtual 64, 3) by decide +kernel) rfl [.int x] [] rfl rfl (Nat.le_of_ble_eq_true rfl) rfl hM rfl (m_isClass hM hS (x)) ?_
  rintro hq _ ⟨e1, rfl⟩
  rw [e1]
  clear e1 hq
  show am_Rq _ 103 5 [some (.ref 238), some (.int x), some (.int y), some (.int u), none, none, none] [.int (nI (am_b (rg_r (nI 0) (nI (s 0)) (x))))] _ _
  refine am_Rq.if1T (t := 23) (show decode (am_by 103) 5 = .ok (.ifCond .eq 18, 3) by decide +kernel) (by decide) (by rw [am_b_eq, hx]; rfl) ?_
  refine am_Rq.blk (is := [(.iconst 0, 1), (.istore 4, 2), (.iload 4, 2)]) (q := (28, [some (.ref 238), some (.int x), some (.int y), some (.int u), some (.int (nI 0)), none, none], [.int (nI 0)])) (by decide +kernel) rfl ?_
  dsimp only
  refine am_Rq.if1T (t := 58) (show decode (am_by 103) 28 = .ok (.ifCond .eq 30, 3) by decide +kernel) (by decide) (rfl) ?_
  refine am_Rq.blk (is := [(.iconst 0, 1), (.istore 5, 2), (.aload_n 0, 1), (.iload 4, 2)]) (q := (64, [some (.ref 238), some (.int x), some (.int y), some (.int u), some (.int (nI 0)), some (.int (nI 0)), none], [.int (nI 0), .ref 238])) (by decide +kernel) rfl ?_
  dsimp only
  refine am_Rq.if1F (show decode (am_by 103) 64 = .ok (.ifCond .ne 7, 3) by decide +kernel) (by decide) (rfl) ?_
  refine am_Rq.blk (is := [(.iconst 1, 1), (.goto 4, 3)]) (q := (72, [some (.ref 238), some (.int x), some (.int y), some (.int u), some (.int (nI 0)), some (.int (nI 0)), none], [.int (nI 1), .ref 238])) (by decide +kernel) rfl ?_
  dsimp only
  refine am_Rq.blk (is := [(.iload_n 3, 1), (.iconst 1, 1)]) (q := (74, [some (.ref 238), some (.int x), some (.int y), some (.int u), some (.int (nI 0)), some (.int (nI 0)), none], [.int (nI 1), .int u, .int (nI 1), .ref 238])) (by decide +kernel) rfl ?_
  dsimp only
  refine am_Rq.if2 (t := 81) (show decode (am_by 103) 74 = .ok (.if_icmp .ge 7, 3) by decide +kernel) (by decide) (fun e1 => ?_) (fun e1 => ?_)
  ·
    refine am_Rq.blk (is := [(.iconst 0, 1), (.iload 5, 2)]) (q := (84, [some (.ref 238), some (.int x), some (.int y), some (.int u), some (.int (nI 0)), some (.int (nI 0)), none], [.int (nI 0), .int (nI 0), .int (nI 1), .ref 238])) (by decide +kernel) rfl ?_
    dsimp only
    refine am_Rq.if1T (t := 107) (show decode (am_by 103) 84 = .ok (.ifCond .eq 23, 3) by decide +kernel) (by decide) (rfl) ?_
    refine am_Rq.blk (is := [(.iconst 1, 1), (.goto 4, 3)]) (q := (112, [some (.ref 238), some (.int x), some (.int y), some (.int u), some (.int (nI 0)), some (.int (nI 0)), none], [.int (nI 1), .int (nI 0), .int (nI 1), .ref 238])) (by decide +kernel) rfl ?_
    dsimp only
    refine am_Rq.callV (show decode (am_by 103) 112 = .ok (.invokevirtual 57, 3) by decide +kernel) rfl [.int (nI (am_b true)), .int (nI (am_b false)), .int (nI (am_b true))] [] rfl rfl (Nat.le_of_ble_eq_true rfl) rfl hM rfl (m_refused hM true false true) ?_
    rintro _ _ ⟨rfl, rfl⟩
    have hM1 := am_ss (c' := (7, m_ob 1 kn co)) hM
    have hS1 := (am_sn (c' := (7, m_ob 1 kn co)) (show 238 ≠ 239 by decide)).trans hS
    show am_Rq _ 103 115 [some (.ref 238), some (.int x), some (.int y), some (.int u), some (.int (nI 0)), some (.int (nI 0)), none] [.int (nI (am_b true))] _ _
    refine am_Rq.if1F (show decode (am_by 103) 115 = .ok (.ifCond .eq 5, 3) by decide +kernel) (by decide) (rfl) ?_
    refine am_Rq.blk (is := [(.iconst 0, 1)]) (q := (119, [some (.ref 238), some (.int x), some (.int y), some (.int u), some (.int (nI 0)), some (.int (nI 0)), none], [.int (nI 0)])) (by decide +kernel) rfl ?_
    dsimp only
    refine am_Rq.ret (v := some (.int (nI 0))) (show decode (am_by 103) 119 = .ok (.ireturn, 1) by decide +kernel) rfl rfl ?_
    exact ⟨_, rfl, rfl, rfl⟩
  ·
    refine am_Rq.blk (is := [(.iconst 1, 1), (.goto 4, 3)]) (q := (82, [some (.ref 238), some (.int x), some (.int y), some (.int u), some (.int (nI 0)), some (.int (nI 0)), none], [.int (nI 1), .int (nI 1), .ref 238])) (by decide +kernel) rfl ?_
    dsimp only
    refine am_Rq.blk (is := [(.iload 5, 2)]) (q := (84, [some (.ref 238), some (.int x), some (.int y), some (.int u), some (.int (nI 0)), some (.int (nI 0)), none], [.int (nI 0), .int (nI 1), .int (nI 1), .ref 238])) (by decide +kernel) rfl ?_
    dsimp only
    refine am_Rq.if1T (t := 107) (show decode (am_by 103) 84 = .ok (.ifCond .eq 23, 3) by decide +kernel) (by decide) (rfl) ?_
    refine am_Rq.blk (is := [(.iconst 1, 1), (.goto 4, 3)]) (q := (112, [some (.ref 238), some (.int x), some (.int y), some (.int u), some (.int (nI 0)), some (.int (nI 0)), none], [.int (nI 1), .int (nI 1), .int (nI 1), .ref 238])) (by decide +kernel) rfl ?_
    dsimp only
    refine am_Rq.callV (show decode (am_by 103) 112 = .ok (.invokevirtual 57, 3) by decide +kernel) rfl [.int (nI (am_b true)), .int (nI (am_b true)), .int (nI (am_b true))] [] rfl rfl (Nat.le_of_ble_eq_true rfl) rfl hM rfl (m_refused hM true true true) ?_
    rintro _ _ ⟨rfl, rfl⟩
    have hM1 := am_ss (c' := (7, m_ob 1 kn co)) hM
    have hS1 := (am_sn (c' := (7, m_ob 1 kn co)) (show 238 ≠ 239 by decide)).trans hS
    show am_Rq _ 103 115 [some (.ref 238), some (.int x), some (.int y), some (.int u), some (.int (nI 0)), some (.int (nI 0)), none] [.int (nI (am_b true))] _ _
    refine am_Rq.if1F (show decode (am_by 103) 115 = .ok (.ifCond .eq 5, 3) by decide +kernel) (by decide) (rfl) ?_
    refine am_Rq.blk (is := [(.iconst 0, 1)]) (q := (119, [some (.ref 238), some (.int x), some (.int y), some (.int u), some (.int (nI 0)), some (.int (nI 0)), none], [.int (nI 0)])) (by decide +kernel) rfl ?_
    dsimp only
    refine am_Rq.ret (v := some (.int (nI 0))) (show decode (am_by 103) 119 = .ok (.ireturn, 1) by decide +kernel) rfl rfl ?_
    exact ⟨_, rfl, rfl, rfl⟩
theorem m_convert_no1b {th kn co : Nat} (hM : hp[238]? = some (7, [.int (nI th), .ref 239, .ref 240, .int (nI kn), .ref 241, .ref 242, .ref 243, .ref 244, .long (lN co), .ref 245])) {s : Nat → Nat} (hS : hp[239]? = some (100, am_ia (fun i => nI (s i)) 160)) (h0 : s 0 < 2 ^ 31) {y u : Int32} : am_Rq (d + 3) 103 0 (am_en [.ref 238, .int (nI 0), .int y, .int u] 7) [] hp (am_Ret fun hp1 v => hp1 = hp.set 238 (7, m_ob 1 kn co) ∧ v = some (.int (nI (0)))) := by
  show am_Rq _ 103 0 [some (.ref 238), some (.int (nI 0)), some (.int y), some (.int u), none, none, none] [] _ _
  refine am_Rq.blk (is := [(.aload_n 0, 1), (.iload_n 1, 1)]) (q := (2, [some (.ref 238), some (.int (nI 0)), some (.int y), some (.int u), none, none, none], [.int (nI 0), .ref 238])) (by decide +kernel) rfl ?_
  dsimp only
  refine am_Rq.callV (show decode (am_by 103) 2 = .ok (.invokevirtual 64, 3) by decide +kernel) rfl [.int (nI 0)] [] rfl rfl (Nat.le_of_ble_eq_true rfl) rfl hM rfl (m_isClass hM hS (nI 0)) ?_
  rintro hq _ ⟨e1, rfl⟩
  rw [e1]
  clear e1 hq
  show am_Rq _ 103 5 [some (.ref 238), some (.int (nI 0)), some (.int y), some (.int u), none, none, none] [.int (nI (am_b (rg_r (nI 0) (nI (s 0)) (nI 0))))] _ _
  refine am_Rq.if1F (show decode (am_by 103) 5 = .ok (.ifCond .eq 18, 3) by decide +kernel) (by decide) (by rw [am_b_eq, rg_le (by omega) (Nat.zero_le _) h0]; rfl) ?_
  refine am_Rq.blk (is := [(.iload_n 1, 1)]) (q := (9, [some (.ref 238), some (.int (nI 0)), some (.int y), some (.int u), none, none, none], [.int (nI 0)])) (by decide +kernel) rfl ?_
  dsimp only
  refine am_Rq.if1T (t := 23) (show decode (am_by 103) 9 = .ok (.ifCond .le 14, 3) by decide +kernel) (by decide) (rfl) ?_
  refine am_Rq.blk (is := [(.iconst 0, 1), (.istore 4, 2), (.iload 4, 2)]) (q := (28, [some (.ref 238), some (.int (nI 0)), some (.int y), some (.int u), some (.int (nI 0)), none, none], [.int (nI 0)])) (by decide +kernel) rfl ?_
  dsimp only
  refine am_Rq.if1T (t := 58) (show decode (am_by 103) 28 = .ok (.ifCond .eq 30, 3) by decide +kernel) (by decide) (rfl) ?_
  refine am_Rq.blk (is := [(.iconst 0, 1), (.istore 5, 2), (.aload_n 0, 1), (.iload 4, 2)]) (q := (64, [some (.ref 238), some (.int (nI 0)), some (.int y), some (.int u), some (.int (nI 0)), some (.int (nI 0)), none], [.int (nI 0), .ref 238])) (by decide +kernel) rfl ?_
  dsimp only
  refine am_Rq.if1F (show decode (am_by 103) 64 = .ok (.ifCond .ne 7, 3) by decide +kernel) (by decide) (rfl) ?_
  refine am_Rq.blk (is := [(.iconst 1, 1), (.goto 4, 3)]) (q := (72, [some (.ref 238), some (.int (nI 0)), some (.int y), some (.int u), some (.int (nI 0)), some (.int (nI 0)), none], [.int (nI 1), .ref 238])) (by decide +kernel) rfl ?_
  dsimp only
  refine am_Rq.blk (is := [(.iload_n 3, 1), (.iconst 1, 1)]) (q := (74, [some (.ref 238), some (.int (nI 0)), some (.int y), some (.int u), some (.int (nI 0)), some (.int (nI 0)), none], [.int (nI 1), .int u, .int (nI 1), .ref 238])) (by decide +kernel) rfl ?_
  dsimp only
  refine am_Rq.if2 (t := 81) (show decode (am_by 103) 74 = .ok (.if_icmp .ge 7, 3) by decide +kernel) (by decide) (fun e1 => ?_) (fun e1 => ?_)
  ·
    refine am_Rq.blk (is := [(.iconst 0, 1), (.iload 5, 2)]) (q := (84, [some (.ref 238), some (.int (nI 0)), some (.int y), some (.int u), some (.int (nI 0)), some (.int (nI 0)), none], [.int (nI 0), .int (nI 0), .int (nI 1), .ref 238])) (by decide +kernel) rfl ?_
    dsimp only
    refine am_Rq.if1T (t := 107) (show decode (am_by 103) 84 = .ok (.ifCond .eq 23, 3) by decide +kernel) (by decide) (rfl) ?_
    refine am_Rq.blk (is := [(.iconst 1, 1), (.goto 4, 3)]) (q := (112, [some (.ref 238), some (.int (nI 0)), some (.int y), some (.int u), some (.int (nI 0)), some (.int (nI 0)), none], [.int (nI 1), .int (nI 0), .int (nI 1), .ref 238])) (by decide +kernel) rfl ?_
    dsimp only
    refine am_Rq.callV (show decode (am_by 103) 112 = .ok (.invokevirtual 57, 3) by decide +kernel) rfl [.int (nI (am_b true)), .int (nI (am_b false)), .int (nI (am_b true))] [] rfl rfl (Nat.le_of_ble_eq_true rfl) rfl hM rfl (m_refused hM true false true) ?_
    rintro _ _ ⟨rfl, rfl⟩
    have hM1 := am_ss (c' := (7, m_ob 1 kn co)) hM
    have hS1 := (am_sn (c' := (7, m_ob 1 kn co)) (show 238 ≠ 239 by decide)).trans hS
    show am_Rq _ 103 115 [some (.ref 238), some (.int (nI 0)), some (.int y), some (.int u), some (.int (nI 0)), some (.int (nI 0)), none] [.int (nI (am_b true))] _ _
    refine am_Rq.if1F (show decode (am_by 103) 115 = .ok (.ifCond .eq 5, 3) by decide +kernel) (by decide) (rfl) ?_
    refine am_Rq.blk (is := [(.iconst 0, 1)]) (q := (119, [some (.ref 238), some (.int (nI 0)), some (.int y), some (.int u), some (.int (nI 0)), some (.int (nI 0)), none], [.int (nI 0)])) (by decide +kernel) rfl ?_
    dsimp only
    refine am_Rq.ret (v := some (.int (nI 0))) (show decode (am_by 103) 119 = .ok (.ireturn, 1) by decide +kernel) rfl rfl ?_
    exact ⟨_, rfl, rfl, rfl⟩
  ·
    refine am_Rq.blk (is := [(.iconst 1, 1), (.goto 4, 3)]) (q := (82, [some (.ref 238), some (.int (nI 0)), some (.int y), some (.int u), some (.int (nI 0)), some (.int (nI 0)), none], [.int (nI 1), .int (nI 1), .ref 238])) (by decide +kernel) rfl ?_
    dsimp only
    refine am_Rq.blk (is := [(.iload 5, 2)]) (q := (84, [some (.ref 238), some (.int (nI 0)), some (.int y), some (.int u), some (.int (nI 0)), some (.int (nI 0)), none], [.int (nI 0), .int (nI 1), .int (nI 1), .ref 238])) (by decide +kernel) rfl ?_
    dsimp only
    refine am_Rq.if1T (t := 107) (show decode (am_by 103) 84 = .ok (.ifCond .eq 23, 3) by decide +kernel) (by decide) (rfl) ?_
    refine am_Rq.blk (is := [(.iconst 1, 1), (.goto 4, 3)]) (q := (112, [some (.ref 238), some (.int (nI 0)), some (.int y), some (.int u), some (.int (nI 0)), some (.int (nI 0)), none], [.int (nI 1), .int (nI 1), .int (nI 1), .ref 238])) (by decide +kernel) rfl ?_
    dsimp only
    refine am_Rq.callV (show decode (am_by 103) 112 = .ok (.invokevirtual 57, 3) by decide +kernel) rfl [.int (nI (am_b true)), .int (nI (am_b true)), .int (nI (am_b true))] [] rfl rfl (Nat.le_of_ble_eq_true rfl) rfl hM rfl (m_refused hM true true true) ?_
    rintro _ _ ⟨rfl, rfl⟩
    have hM1 := am_ss (c' := (7, m_ob 1 kn co)) hM
    have hS1 := (am_sn (c' := (7, m_ob 1 kn co)) (show 238 ≠ 239 by decide)).trans hS
    show am_Rq _ 103 115 [some (.ref 238), some (.int (nI 0)), some (.int y), some (.int u), some (.int (nI 0)), some (.int (nI 0)), none] [.int (nI (am_b true))] _ _
    refine am_Rq.if1F (show decode (am_by 103) 115 = .ok (.ifCond .eq 5, 3) by decide +kernel) (by decide) (rfl) ?_
    refine am_Rq.blk (is := [(.iconst 0, 1)]) (q := (119, [some (.ref 238), some (.int (nI 0)), some (.int y), some (.int u), some (.int (nI 0)), some (.int (nI 0)), none], [.int (nI 0)])) (by decide +kernel) rfl ?_
    dsimp only
    refine am_Rq.ret (v := some (.int (nI 0))) (show decode (am_by 103) 119 = .ok (.ireturn, 1) by decide +kernel) rfl rfl ?_
    exact ⟨_, rfl, rfl, rfl⟩
theorem m_convert_no2 {th kn co : Nat} (hM : hp[238]? = some (7, [.int (nI th), .ref 239, .ref 240, .int (nI kn), .ref 241, .ref 242, .ref 243, .ref 244, .long (lN co), .ref 245])) {s : Nat → Nat} (hS : hp[239]? = some (100, am_ia (fun i => nI (s i)) 160)) {c : Nat} (h1c : 1 ≤ c) (hc : c ≤ s 0) (hc5 : c < 5) (h0 : s 0 < 2 ^ 31) {y u : Int32} (hy : rg_r (nI 0) (nI 7) y = false) : am_Rq (d + 3) 103 0 (am_en [.ref 238, .int (nI c), .int y, .int u] 7) [] hp (am_Ret fun hp1 v => hp1 = hp.set 238 (7, m_ob 1 kn co) ∧ v = some (.int (nI (0)))) := by
  show am_Rq _ 103 0 [some (.ref 238), some (.int (nI c)), some (.int y), some (.int u), none, none, none] [] _ _
  refine am_Rq.blk (is := [(.aload_n 0, 1), (.iload_n 1, 1)]) (q := (2, [some (.ref 238), some (.int (nI c)), some (.int y), some (.int u), none, none, none], [.int (nI c), .ref 238])) (by decide +kernel) rfl ?_
  dsimp only
  refine am_Rq.callV (show decode (am_by 103) 2 = .ok (.invokevirtual 64, 3) by decide +kernel) rfl [.int (nI c)] [] rfl rfl (Nat.le_of_ble_eq_true rfl) rfl hM rfl (m_isClass hM hS (nI c)) ?_
  rintro hq _ ⟨e1, rfl⟩
  rw [e1]
  clear e1 hq
  show am_Rq _ 103 5 [some (.ref 238), some (.int (nI c)), some (.int y), some (.int u), none, none, none] [.int (nI (am_b (rg_r (nI 0) (nI (s 0)) (nI c))))] _ _
  refine am_Rq.if1F (show decode (am_by 103) 5 = .ok (.ifCond .eq 18, 3) by decide +kernel) (by decide) (by rw [am_b_eq, rg_le (by omega) hc h0]; rfl) ?_
  refine am_Rq.blk (is := [(.iload_n 1, 1)]) (q := (9, [some (.ref 238), some (.int (nI c)), some (.int y), some (.int u), none, none, none], [.int (nI c)])) (by decide +kernel) rfl ?_
  dsimp only
  refine am_Rq.if1F (show decode (am_by 103) 9 = .ok (.ifCond .le 14, 3) by decide +kernel) (by decide) (by rw [nm_le0 (by omega)]; exact decide_eq_false (by omega)) ?_
  refine am_Rq.blk (is := [(.iload_n 2, 1)]) (q := (13, [some (.ref 238), some (.int (nI c)), some (.int y), some (.int u), none, none, none], [.int y])) (by decide +kernel) rfl ?_
  dsimp only
  refine am_Rq.callS (show decode (am_by 103) 13 = .ok (.invokestatic 68, 3) by decide +kernel) rfl [.int y] [] rfl rfl (Nat.le_of_ble_eq_true rfl) rfl rfl (m_isHolder (y)) ?_
  rintro hq _ ⟨e1, rfl⟩
  rw [e1]
  clear e1 hq
  show am_Rq _ 103 16 [some (.ref 238), some (.int (nI c)), some (.int y), some (.int u), none, none, none] [.int (nI (am_b (rg_r (nI 0) (nI 7) (y))))] _ _
  refine am_Rq.if1T (t := 23) (show decode (am_by 103) 16 = .ok (.ifCond .eq 7, 3) by decide +kernel) (by decide) (by rw [am_b_eq, hy]; rfl) ?_
  refine am_Rq.blk (is := [(.iconst 0, 1), (.istore 4, 2), (.iload 4, 2)]) (q := (28, [some (.ref 238), some (.int (nI c)), some (.int y), some (.int u), some (.int (nI 0)), none, none], [.int (nI 0)])) (by decide +kernel) rfl ?_
  dsimp only
  refine am_Rq.if1T (t := 58) (show decode (am_by 103) 28 = .ok (.ifCond .eq 30, 3) by decide +kernel) (by decide) (rfl) ?_
  refine am_Rq.blk (is := [(.iconst 0, 1), (.istore 5, 2), (.aload_n 0, 1), (.iload 4, 2)]) (q := (64, [some (.ref 238), some (.int (nI c)), some (.int y), some (.int u), some (.int (nI 0)), some (.int (nI 0)), none], [.int (nI 0), .ref 238])) (by decide +kernel) rfl ?_
  dsimp only
  refine am_Rq.if1F (show decode (am_by 103) 64 = .ok (.ifCond .ne 7, 3) by decide +kernel) (by decide) (rfl) ?_
  refine am_Rq.blk (is := [(.iconst 1, 1), (.goto 4, 3)]) (q := (72, [some (.ref 238), some (.int (nI c)), some (.int y), some (.int u), some (.int (nI 0)), some (.int (nI 0)), none], [.int (nI 1), .ref 238])) (by decide +kernel) rfl ?_
  dsimp only
  refine am_Rq.blk (is := [(.iload_n 3, 1), (.iconst 1, 1)]) (q := (74, [some (.ref 238), some (.int (nI c)), some (.int y), some (.int u), some (.int (nI 0)), some (.int (nI 0)), none], [.int (nI 1), .int u, .int (nI 1), .ref 238])) (by decide +kernel) rfl ?_
  dsimp only
  refine am_Rq.if2 (t := 81) (show decode (am_by 103) 74 = .ok (.if_icmp .ge 7, 3) by decide +kernel) (by decide) (fun e1 => ?_) (fun e1 => ?_)
  ·
    refine am_Rq.blk (is := [(.iconst 0, 1), (.iload 5, 2)]) (q := (84, [some (.ref 238), some (.int (nI c)), some (.int y), some (.int u), some (.int (nI 0)), some (.int (nI 0)), none], [.int (nI 0), .int (nI 0), .int (nI 1), .ref 238])) (by decide +kernel) rfl ?_
    dsimp only
    refine am_Rq.if1T (t := 107) (show decode (am_by 103) 84 = .ok (.ifCond .eq 23, 3) by decide +kernel) (by decide) (rfl) ?_
    refine am_Rq.blk (is := [(.iconst 1, 1), (.goto 4, 3)]) (q := (112, [some (.ref 238), some (.int (nI c)), some (.int y), some (.int u), some (.int (nI 0)), some (.int (nI 0)), none], [.int (nI 1), .int (nI 0), .int (nI 1), .ref 238])) (by decide +kernel) rfl ?_
    dsimp only
    refine am_Rq.callV (show decode (am_by 103) 112 = .ok (.invokevirtual 57, 3) by decide +kernel) rfl [.int (nI (am_b true)), .int (nI (am_b false)), .int (nI (am_b true))] [] rfl rfl (Nat.le_of_ble_eq_true rfl) rfl hM rfl (m_refused hM true false true) ?_
    rintro _ _ ⟨rfl, rfl⟩
    have hM1 := am_ss (c' := (7, m_ob 1 kn co)) hM
    have hS1 := (am_sn (c' := (7, m_ob 1 kn co)) (show 238 ≠ 239 by decide)).trans hS
    show am_Rq _ 103 115 [some (.ref 238), some (.int (nI c)), some (.int y), some (.int u), some (.int (nI 0)), some (.int (nI 0)), none] [.int (nI (am_b true))] _ _
    refine am_Rq.if1F (show decode (am_by 103) 115 = .ok (.ifCond .eq 5, 3) by decide +kernel) (by decide) (rfl) ?_
    refine am_Rq.blk (is := [(.iconst 0, 1)]) (q := (119, [some (.ref 238), some (.int (nI c)), some (.int y), some (.int u), some (.int (nI 0)), some (.int (nI 0)), none], [.int (nI 0)])) (by decide +kernel) rfl ?_
    dsimp only
    refine am_Rq.ret (v := some (.int (nI 0))) (show decode (am_by 103) 119 = .ok (.ireturn, 1) by decide +kernel) rfl rfl ?_
    exact ⟨_, rfl, rfl, rfl⟩
  ·
    refine am_Rq.blk (is := [(.iconst 1, 1), (.goto 4, 3)]) (q := (82, [some (.ref 238), some (.int (nI c)), some (.int y), some (.int u), some (.int (nI 0)), some (.int (nI 0)), none], [.int (nI 1), .int (nI 1), .ref 238])) (by decide +kernel) rfl ?_
    dsimp only
    refine am_Rq.blk (is := [(.iload 5, 2)]) (q := (84, [some (.ref 238), some (.int (nI c)), some (.int y), some (.int u), some (.int (nI 0)), some (.int (nI 0)), none], [.int (nI 0), .int (nI 1), .int (nI 1), .ref 238])) (by decide +kernel) rfl ?_
    dsimp only
    refine am_Rq.if1T (t := 107) (show decode (am_by 103) 84 = .ok (.ifCond .eq 23, 3) by decide +kernel) (by decide) (rfl) ?_
    refine am_Rq.blk (is := [(.iconst 1, 1), (.goto 4, 3)]) (q := (112, [some (.ref 238), some (.int (nI c)), some (.int y), some (.int u), some (.int (nI 0)), some (.int (nI 0)), none], [.int (nI 1), .int (nI 1), .int (nI 1), .ref 238])) (by decide +kernel) rfl ?_
    dsimp only
    refine am_Rq.callV (show decode (am_by 103) 112 = .ok (.invokevirtual 57, 3) by decide +kernel) rfl [.int (nI (am_b true)), .int (nI (am_b true)), .int (nI (am_b true))] [] rfl rfl (Nat.le_of_ble_eq_true rfl) rfl hM rfl (m_refused hM true true true) ?_
    rintro _ _ ⟨rfl, rfl⟩
    have hM1 := am_ss (c' := (7, m_ob 1 kn co)) hM
    have hS1 := (am_sn (c' := (7, m_ob 1 kn co)) (show 238 ≠ 239 by decide)).trans hS
    show am_Rq _ 103 115 [some (.ref 238), some (.int (nI c)), some (.int y), some (.int u), some (.int (nI 0)), some (.int (nI 0)), none] [.int (nI (am_b true))] _ _
    refine am_Rq.if1F (show decode (am_by 103) 115 = .ok (.ifCond .eq 5, 3) by decide +kernel) (by decide) (rfl) ?_
    refine am_Rq.blk (is := [(.iconst 0, 1)]) (q := (119, [some (.ref 238), some (.int (nI c)), some (.int y), some (.int u), some (.int (nI 0)), some (.int (nI 0)), none], [.int (nI 0)])) (by decide +kernel) rfl ?_
    dsimp only
    refine am_Rq.ret (v := some (.int (nI 0))) (show decode (am_by 103) 119 = .ok (.ireturn, 1) by decide +kernel) rfl rfl ?_
    exact ⟨_, rfl, rfl, rfl⟩
theorem m_convert_no3 {th kn co : Nat} (hM : hp[238]? = some (7, [.int (nI th), .ref 239, .ref 240, .int (nI kn), .ref 241, .ref 242, .ref 243, .ref 244, .long (lN co), .ref 245])) {s : Nat → Nat} (hS : hp[239]? = some (100, am_ia (fun i => nI (s i)) 160)) {c : Nat} (h1c : 1 ≤ c) (hc : c ≤ s 0) (hc5 : c < 5) (h0 : s 0 < 2 ^ 31) {k : Nat} (hk : k < 8) {u : Int32} (hu : u < nI 1) : am_Rq (d + 3) 103 0 (am_en [.ref 238, .int (nI c), .int (nI k), .int u] 7) [] hp (am_Ret fun hp1 v => hp1 = hp.set 238 (7, m_ob 2 kn co) ∧ v = some (.int (nI (0)))) := by
  show am_Rq _ 103 0 [some (.ref 238), some (.int (nI c)), some (.int (nI k)), some (.int u), none, none, none] [] _ _
  refine am_Rq.blk (is := [(.aload_n 0, 1), (.iload_n 1, 1)]) (q := (2, [some (.ref 238), some (.int (nI c)), some (.int (nI k)), some (.int u), none, none, none], [.int (nI c), .ref 238])) (by decide +kernel) rfl ?_
  dsimp only
  refine am_Rq.callV (show decode (am_by 103) 2 = .ok (.invokevirtual 64, 3) by decide +kernel) rfl [.int (nI c)] [] rfl rfl (Nat.le_of_ble_eq_true rfl) rfl hM rfl (m_isClass hM hS (nI c)) ?_
  rintro hq _ ⟨e1, rfl⟩
  rw [e1]
  clear e1 hq
  show am_Rq _ 103 5 [some (.ref 238), some (.int (nI c)), some (.int (nI k)), some (.int u), none, none, none] [.int (nI (am_b (rg_r (nI 0) (nI (s 0)) (nI c))))] _ _
  refine am_Rq.if1F (show decode (am_by 103) 5 = .ok (.ifCond .eq 18, 3) by decide +kernel) (by decide) (by rw [am_b_eq, rg_le (by omega) hc h0]; rfl) ?_
  refine am_Rq.blk (is := [(.iload_n 1, 1)]) (q := (9, [some (.ref 238), some (.int (nI c)), some (.int (nI k)), some (.int u), none, none, none], [.int (nI c)])) (by decide +kernel) rfl ?_
  dsimp only
  refine am_Rq.if1F (show decode (am_by 103) 9 = .ok (.ifCond .le 14, 3) by decide +kernel) (by decide) (by rw [nm_le0 (by omega)]; exact decide_eq_false (by omega)) ?_
  refine am_Rq.blk (is := [(.iload_n 2, 1)]) (q := (13, [some (.ref 238), some (.int (nI c)), some (.int (nI k)), some (.int u), none, none, none], [.int (nI k)])) (by decide +kernel) rfl ?_
  dsimp only
  refine am_Rq.callS (show decode (am_by 103) 13 = .ok (.invokestatic 68, 3) by decide +kernel) rfl [.int (nI k)] [] rfl rfl (Nat.le_of_ble_eq_true rfl) rfl rfl (m_isHolder (nI k)) ?_
  rintro hq _ ⟨e1, rfl⟩
  rw [e1]
  clear e1 hq
  show am_Rq _ 103 16 [some (.ref 238), some (.int (nI c)), some (.int (nI k)), some (.int u), none, none, none] [.int (nI (am_b (rg_r (nI 0) (nI 7) (nI k))))] _ _
  refine am_Rq.if1F (show decode (am_by 103) 16 = .ok (.ifCond .eq 7, 3) by decide +kernel) (by decide) (by rw [am_b_eq, rg_le (by omega) (show k ≤ 7 by omega) (by omega)]; rfl) ?_
  refine am_Rq.blk (is := [(.iconst 1, 1), (.goto 4, 3)]) (q := (24, [some (.ref 238), some (.int (nI c)), some (.int (nI k)), some (.int u), none, none, none], [.int (nI 1)])) (by decide +kernel) rfl ?_
  dsimp only
  refine am_Rq.blk (is := [(.istore 4, 2), (.iload 4, 2)]) (q := (28, [some (.ref 238), some (.int (nI c)), some (.int (nI k)), some (.int u), some (.int (nI 1)), none, none], [.int (nI 1)])) (by decide +kernel) rfl ?_
  dsimp only
  refine am_Rq.if1F (show decode (am_by 103) 28 = .ok (.ifCond .eq 30, 3) by decide +kernel) (by decide) (rfl) ?_
  refine am_Rq.blk (is := [(.iload_n 3, 1), (.iconst 1, 1)]) (q := (33, [some (.ref 238), some (.int (nI c)), some (.int (nI k)), some (.int u), some (.int (nI 1)), none, none], [.int (nI 1), .int u])) (by decide +kernel) rfl ?_
  dsimp only
  refine am_Rq.if2T (t := 58) (show decode (am_by 103) 33 = .ok (.if_icmp .lt 25, 3) by decide +kernel) (by decide) (by exact decide_eq_true hu) ?_
  refine am_Rq.blk (is := [(.iconst 0, 1), (.istore 5, 2), (.aload_n 0, 1), (.iload 4, 2)]) (q := (64, [some (.ref 238), some (.int (nI c)), some (.int (nI k)), some (.int u), some (.int (nI 1)), some (.int (nI 0)), none], [.int (nI 1), .ref 238])) (by decide +kernel) rfl ?_
  dsimp only
  refine am_Rq.if1T (t := 71) (show decode (am_by 103) 64 = .ok (.ifCond .ne 7, 3) by decide +kernel) (by decide) (rfl) ?_
  refine am_Rq.blk (is := [(.iconst 0, 1), (.iload_n 3, 1), (.iconst 1, 1)]) (q := (74, [some (.ref 238), some (.int (nI c)), some (.int (nI k)), some (.int u), some (.int (nI 1)), some (.int (nI 0)), none], [.int (nI 1), .int u, .int (nI 0), .ref 238])) (by decide +kernel) rfl ?_
  dsimp only
  refine am_Rq.if2F (show decode (am_by 103) 74 = .ok (.if_icmp .ge 7, 3) by decide +kernel) (by decide) (by exact decide_eq_false (by rw [Int32.not_le]; exact hu)) ?_
  refine am_Rq.blk (is := [(.iconst 1, 1), (.goto 4, 3)]) (q := (82, [some (.ref 238), some (.int (nI c)), some (.int (nI k)), some (.int u), some (.int (nI 1)), some (.int (nI 0)), none], [.int (nI 1), .int (nI 0), .ref 238])) (by decide +kernel) rfl ?_
  dsimp only
  refine am_Rq.blk (is := [(.iload 5, 2)]) (q := (84, [some (.ref 238), some (.int (nI c)), some (.int (nI k)), some (.int u), some (.int (nI 1)), some (.int (nI 0)), none], [.int (nI 0), .int (nI 1), .int (nI 0), .ref 238])) (by decide +kernel) rfl ?_
  dsimp only
  refine am_Rq.if1T (t := 107) (show decode (am_by 103) 84 = .ok (.ifCond .eq 23, 3) by decide +kernel) (by decide) (rfl) ?_
  refine am_Rq.blk (is := [(.iconst 1, 1), (.goto 4, 3)]) (q := (112, [some (.ref 238), some (.int (nI c)), some (.int (nI k)), some (.int u), some (.int (nI 1)), some (.int (nI 0)), none], [.int (nI 1), .int (nI 1), .int (nI 0), .ref 238])) (by decide +kernel) rfl ?_
  dsimp only
  refine am_Rq.callV (show decode (am_by 103) 112 = .ok (.invokevirtual 57, 3) by decide +kernel) rfl [.int (nI (am_b false)), .int (nI (am_b true)), .int (nI (am_b true))] [] rfl rfl (Nat.le_of_ble_eq_true rfl) rfl hM rfl (m_refused hM false true true) ?_
  rintro _ _ ⟨rfl, rfl⟩
  have hM1 := am_ss (c' := (7, m_ob 2 kn co)) hM
  have hS1 := (am_sn (c' := (7, m_ob 2 kn co)) (show 238 ≠ 239 by decide)).trans hS
  show am_Rq _ 103 115 [some (.ref 238), some (.int (nI c)), some (.int (nI k)), some (.int u), some (.int (nI 1)), some (.int (nI 0)), none] [.int (nI (am_b true))] _ _
  refine am_Rq.if1F (show decode (am_by 103) 115 = .ok (.ifCond .eq 5, 3) by decide +kernel) (by decide) (rfl) ?_
  refine am_Rq.blk (is := [(.iconst 0, 1)]) (q := (119, [some (.ref 238), some (.int (nI c)), some (.int (nI k)), some (.int u), some (.int (nI 1)), some (.int (nI 0)), none], [.int (nI 0)])) (by decide +kernel) rfl ?_
  dsimp only
  refine am_Rq.ret (v := some (.int (nI 0))) (show decode (am_by 103) 119 = .ok (.ireturn, 1) by decide +kernel) rfl rfl ?_
  exact ⟨_, rfl, rfl, rfl⟩
theorem m_convert_no4 {th kn co : Nat} (hM : hp[238]? = some (7, [.int (nI th), .ref 239, .ref 240, .int (nI kn), .ref 241, .ref 242, .ref 243, .ref 244, .long (lN co), .ref 245])) {s : Nat → Nat} (hS : hp[239]? = some (100, am_ia (fun i => nI (s i)) 160)) {c : Nat} (h1c : 1 ≤ c) (hc : c ≤ s 0) (hc5 : c < 5) (h0 : s 0 < 2 ^ 31) {k n : Nat} (hk : k < 8) (h1 : 1 ≤ n) (hn2 : n < 2 ^ 31) (hB : s (40 + 8 * c + k) < 2 ^ 31) (hn : s (40 + 8 * c + k) < n) : am_Rq (d + 3) 103 0 (am_en [.ref 238, .int (nI c), .int (nI k), .int (nI n)] 7) [] hp (am_Ret fun hp1 v => hp1 = hp.set 238 (7, m_ob 3 kn co) ∧ v = some (.int (nI (0)))) := by
  show am_Rq _ 103 0 [some (.ref 238), some (.int (nI c)), some (.int (nI k)), some (.int (nI n)), none, none, none] [] _ _
  refine am_Rq.blk (is := [(.aload_n 0, 1), (.iload_n 1, 1)]) (q := (2, [some (.ref 238), some (.int (nI c)), some (.int (nI k)), some (.int (nI n)), none, none, none], [.int (nI c), .ref 238])) (by decide +kernel) rfl ?_
  dsimp only
  refine am_Rq.callV (show decode (am_by 103) 2 = .ok (.invokevirtual 64, 3) by decide +kernel) rfl [.int (nI c)] [] rfl rfl (Nat.le_of_ble_eq_true rfl) rfl hM rfl (m_isClass hM hS (nI c)) ?_
  rintro hq _ ⟨e1, rfl⟩
  rw [e1]
  clear e1 hq
  show am_Rq _ 103 5 [some (.ref 238), some (.int (nI c)), some (.int (nI k)), some (.int (nI n)), none, none, none] [.int (nI (am_b (rg_r (nI 0) (nI (s 0)) (nI c))))] _ _
  refine am_Rq.if1F (show decode (am_by 103) 5 = .ok (.ifCond .eq 18, 3) by decide +kernel) (by decide) (by rw [am_b_eq, rg_le (by omega) hc h0]; rfl) ?_
  refine am_Rq.blk (is := [(.iload_n 1, 1)]) (q := (9, [some (.ref 238), some (.int (nI c)), some (.int (nI k)), some (.int (nI n)), none, none, none], [.int (nI c)])) (by decide +kernel) rfl ?_
  dsimp only
  refine am_Rq.if1F (show decode (am_by 103) 9 = .ok (.ifCond .le 14, 3) by decide +kernel) (by decide) (by rw [nm_le0 (by omega)]; exact decide_eq_false (by omega)) ?_
  refine am_Rq.blk (is := [(.iload_n 2, 1)]) (q := (13, [some (.ref 238), some (.int (nI c)), some (.int (nI k)), some (.int (nI n)), none, none, none], [.int (nI k)])) (by decide +kernel) rfl ?_
  dsimp only
  refine am_Rq.callS (show decode (am_by 103) 13 = .ok (.invokestatic 68, 3) by decide +kernel) rfl [.int (nI k)] [] rfl rfl (Nat.le_of_ble_eq_true rfl) rfl rfl (m_isHolder (nI k)) ?_
  rintro hq _ ⟨e1, rfl⟩
  rw [e1]
  clear e1 hq
  show am_Rq _ 103 16 [some (.ref 238), some (.int (nI c)), some (.int (nI k)), some (.int (nI n)), none, none, none] [.int (nI (am_b (rg_r (nI 0) (nI 7) (nI k))))] _ _
  refine am_Rq.if1F (show decode (am_by 103) 16 = .ok (.ifCond .eq 7, 3) by decide +kernel) (by decide) (by rw [am_b_eq, rg_le (by omega) (show k ≤ 7 by omega) (by omega)]; rfl) ?_
  refine am_Rq.blk (is := [(.iconst 1, 1), (.goto 4, 3)]) (q := (24, [some (.ref 238), some (.int (nI c)), some (.int (nI k)), some (.int (nI n)), none, none, none], [.int (nI 1)])) (by decide +kernel) rfl ?_
  dsimp only
  refine am_Rq.blk (is := [(.istore 4, 2), (.iload 4, 2)]) (q := (28, [some (.ref 238), some (.int (nI c)), some (.int (nI k)), some (.int (nI n)), some (.int (nI 1)), none, none], [.int (nI 1)])) (by decide +kernel) rfl ?_
  dsimp only
  refine am_Rq.if1F (show decode (am_by 103) 28 = .ok (.ifCond .eq 30, 3) by decide +kernel) (by decide) (rfl) ?_
  refine am_Rq.blk (is := [(.iload_n 3, 1), (.iconst 1, 1)]) (q := (33, [some (.ref 238), some (.int (nI c)), some (.int (nI k)), some (.int (nI n)), some (.int (nI 1)), none, none], [.int (nI 1), .int (nI n)])) (by decide +kernel) rfl ?_
  dsimp only
  refine am_Rq.if2F (show decode (am_by 103) 33 = .ok (.if_icmp .lt 25, 3) by decide +kernel) (by decide) (by rw [nm_lt (by omega) (by omega)]; exact decide_eq_false (by omega)) ?_
  refine am_Rq.blk (is := [(.aload_n 0, 1)]) (q := (37, [some (.ref 238), some (.int (nI c)), some (.int (nI k)), some (.int (nI n)), some (.int (nI 1)), none, none], [.ref 238])) (by decide +kernel) rfl ?_
  dsimp only
  refine am_Rq.getf (v := .ref 239) (show decode (am_by 103) 37 = .ok (.getfield 7, 3) by decide +kernel) rfl hM rfl ?_
  refine am_Rq.blk (is := [(.bipush 40, 2), (.bipush 8, 2), (.iload_n 1, 1), (.imul, 1)]) (q := (46, [some (.ref 238), some (.int (nI c)), some (.int (nI k)), some (.int (nI n)), some (.int (nI 1)), none, none], [.int ((nI 8) * (nI c)), .int (nI 40), .ref 239])) (by decide +kernel) rfl ?_
  dsimp only
  rw [show (nI 8) * (nI c) = nI (8 * c) from nm_imul _ _]
  refine am_Rq.blk (is := [(.iadd, 1)]) (q := (47, [some (.ref 238), some (.int (nI c)), some (.int (nI k)), some (.int (nI n)), some (.int (nI 1)), none, none], [.int ((nI 40) + (nI (8 * c))), .ref 239])) (by decide +kernel) rfl ?_
  dsimp only
  rw [show (nI 40) + (nI (8 * c)) = nI (40 + (8 * c)) from nI_add _ _]
  refine am_Rq.blk (is := [(.iload_n 2, 1), (.iadd, 1)]) (q := (49, [some (.ref 238), some (.int (nI c)), some (.int (nI k)), some (.int (nI n)), some (.int (nI 1)), none, none], [.int ((nI (40 + (8 * c))) + (nI k)), .ref 239])) (by decide +kernel) rfl ?_
  dsimp only
  rw [show (nI (40 + (8 * c))) + (nI k) = nI ((40 + (8 * c)) + k) from nI_add _ _]
  refine am_Rq.ial (k := (40 + (8 * c)) + k) (show decode (am_by 103) 49 = .ok (.iaload, 1) by decide +kernel) hS (by omega) (by omega) ?_
  refine am_Rq.blk (is := [(.iload_n 3, 1)]) (q := (51, [some (.ref 238), some (.int (nI c)), some (.int (nI k)), some (.int (nI n)), some (.int (nI 1)), none, none], [.int (nI n), .int (nI (s ((40 + (8 * c)) + k)))])) (by decide +kernel) rfl ?_
  dsimp only
  refine am_Rq.if2T (t := 58) (show decode (am_by 103) 51 = .ok (.if_icmp .lt 7, 3) by decide +kernel) (by decide) (by rw [nm_lt (by omega) (by omega)]; exact decide_eq_true (by omega)) ?_
  refine am_Rq.blk (is := [(.iconst 0, 1), (.istore 5, 2), (.aload_n 0, 1), (.iload 4, 2)]) (q := (64, [some (.ref 238), some (.int (nI c)), some (.int (nI k)), some (.int (nI n)), some (.int (nI 1)), some (.int (nI 0)), none], [.int (nI 1), .ref 238])) (by decide +kernel) rfl ?_
  dsimp only
  refine am_Rq.if1T (t := 71) (show decode (am_by 103) 64 = .ok (.ifCond .ne 7, 3) by decide +kernel) (by decide) (rfl) ?_
  refine am_Rq.blk (is := [(.iconst 0, 1), (.iload_n 3, 1), (.iconst 1, 1)]) (q := (74, [some (.ref 238), some (.int (nI c)), some (.int (nI k)), some (.int (nI n)), some (.int (nI 1)), some (.int (nI 0)), none], [.int (nI 1), .int (nI n), .int (nI 0), .ref 238])) (by decide +kernel) rfl ?_
  dsimp only
  refine am_Rq.if2T (t := 81) (show decode (am_by 103) 74 = .ok (.if_icmp .ge 7, 3) by decide +kernel) (by decide) (by rw [nm_ge (by omega) (by omega)]; exact decide_eq_true (by omega)) ?_
  refine am_Rq.blk (is := [(.iconst 0, 1), (.iload 5, 2)]) (q := (84, [some (.ref 238), some (.int (nI c)), some (.int (nI k)), some (.int (nI n)), some (.int (nI 1)), some (.int (nI 0)), none], [.int (nI 0), .int (nI 0), .int (nI 0), .ref 238])) (by decide +kernel) rfl ?_
  dsimp only
  refine am_Rq.if1T (t := 107) (show decode (am_by 103) 84 = .ok (.ifCond .eq 23, 3) by decide +kernel) (by decide) (rfl) ?_
  refine am_Rq.blk (is := [(.iconst 1, 1), (.goto 4, 3)]) (q := (112, [some (.ref 238), some (.int (nI c)), some (.int (nI k)), some (.int (nI n)), some (.int (nI 1)), some (.int (nI 0)), none], [.int (nI 1), .int (nI 0), .int (nI 0), .ref 238])) (by decide +kernel) rfl ?_
  dsimp only
  refine am_Rq.callV (show decode (am_by 103) 112 = .ok (.invokevirtual 57, 3) by decide +kernel) rfl [.int (nI (am_b false)), .int (nI (am_b false)), .int (nI (am_b true))] [] rfl rfl (Nat.le_of_ble_eq_true rfl) rfl hM rfl (m_refused hM false false true) ?_
  rintro _ _ ⟨rfl, rfl⟩
  have hM1 := am_ss (c' := (7, m_ob 3 kn co)) hM
  have hS1 := (am_sn (c' := (7, m_ob 3 kn co)) (show 238 ≠ 239 by decide)).trans hS
  show am_Rq _ 103 115 [some (.ref 238), some (.int (nI c)), some (.int (nI k)), some (.int (nI n)), some (.int (nI 1)), some (.int (nI 0)), none] [.int (nI (am_b true))] _ _
  refine am_Rq.if1F (show decode (am_by 103) 115 = .ok (.ifCond .eq 5, 3) by decide +kernel) (by decide) (rfl) ?_
  refine am_Rq.blk (is := [(.iconst 0, 1)]) (q := (119, [some (.ref 238), some (.int (nI c)), some (.int (nI k)), some (.int (nI n)), some (.int (nI 1)), some (.int (nI 0)), none], [.int (nI 0)])) (by decide +kernel) rfl ?_
  dsimp only
  refine am_Rq.ret (v := some (.int (nI 0))) (show decode (am_by 103) 119 = .ok (.ireturn, 1) by decide +kernel) rfl rfl ?_
  exact ⟨_, rfl, rfl, rfl⟩
theorem m_convert_no5 {th kn co : Nat} (hM : hp[238]? = some (7, [.int (nI th), .ref 239, .ref 240, .int (nI kn), .ref 241, .ref 242, .ref 243, .ref 244, .long (lN co), .ref 245])) {s : Nat → Nat} (hS : hp[239]? = some (100, am_ia (fun i => nI (s i)) 160)) (hb : m_bd s) {c : Nat} (h1c : 1 ≤ c) (hc : c ≤ s 0) (hc5 : c < 5) (h0 : s 0 < 2 ^ 31) {k n : Nat} (hk : k < 8) (h1 : 1 ≤ n) (hn : n ≤ s (40 + 8 * c + k)) (hn2 : s (40 + 8 * c + k) ≤ 20000) (h20 : 20000 < m_iss s 0 + m_cv s c n) (hcv : m_cv s c n < 2 ^ 40) : am_Rq (d + 3) 103 0 (am_en [.ref 238, .int (nI c), .int (nI k), .int (nI n)] 7) [] hp (am_Ret fun hp1 v => hp1 = hp.set 238 (7, m_ob 3 kn co) ∧ v = some (.int (nI (0)))) := by
  show am_Rq _ 103 0 [some (.ref 238), some (.int (nI c)), some (.int (nI k)), some (.int (nI n)), none, none, none] [] _ _
  have hi0 := hb.2.1 0 (by omega)
  refine am_Rq.blk (is := [(.aload_n 0, 1), (.iload_n 1, 1)]) (q := (2, [some (.ref 238), some (.int (nI c)), some (.int (nI k)), some (.int (nI n)), none, none, none], [.int (nI c), .ref 238])) (by decide +kernel) rfl ?_
  dsimp only
  refine am_Rq.callV (show decode (am_by 103) 2 = .ok (.invokevirtual 64, 3) by decide +kernel) rfl [.int (nI c)] [] rfl rfl (Nat.le_of_ble_eq_true rfl) rfl hM rfl (m_isClass hM hS (nI c)) ?_
  rintro hq _ ⟨e1, rfl⟩
  rw [e1]
  clear e1 hq
  show am_Rq _ 103 5 [some (.ref 238), some (.int (nI c)), some (.int (nI k)), some (.int (nI n)), none, none, none] [.int (nI (am_b (rg_r (nI 0) (nI (s 0)) (nI c))))] _ _
  refine am_Rq.if1F (show decode (am_by 103) 5 = .ok (.ifCond .eq 18, 3) by decide +kernel) (by decide) (by rw [am_b_eq, rg_le (by omega) hc h0]; rfl) ?_
  refine am_Rq.blk (is := [(.iload_n 1, 1)]) (q := (9, [some (.ref 238), some (.int (nI c)), some (.int (nI k)), some (.int (nI n)), none, none, none], [.int (nI c)])) (by decide +kernel) rfl ?_
  dsimp only
  refine am_Rq.if1F (show decode (am_by 103) 9 = .ok (.ifCond .le 14, 3) by decide +kernel) (by decide) (by rw [nm_le0 (by omega)]; exact decide_eq_false (by omega)) ?_
  refine am_Rq.blk (is := [(.iload_n 2, 1)]) (q := (13, [some (.ref 238), some (.int (nI c)), some (.int (nI k)), some (.int (nI n)), none, none, none], [.int (nI k)])) (by decide +kernel) rfl ?_
  dsimp only
  refine am_Rq.callS (show decode (am_by 103) 13 = .ok (.invokestatic 68, 3) by decide +kernel) rfl [.int (nI k)] [] rfl rfl (Nat.le_of_ble_eq_true rfl) rfl rfl (m_isHolder (nI k)) ?_
  rintro hq _ ⟨e1, rfl⟩
  rw [e1]
  clear e1 hq
  show am_Rq _ 103 16 [some (.ref 238), some (.int (nI c)), some (.int (nI k)), some (.int (nI n)), none, none, none] [.int (nI (am_b (rg_r (nI 0) (nI 7) (nI k))))] _ _
  refine am_Rq.if1F (show decode (am_by 103) 16 = .ok (.ifCond .eq 7, 3) by decide +kernel) (by decide) (by rw [am_b_eq, rg_le (by omega) (show k ≤ 7 by omega) (by omega)]; rfl) ?_
  refine am_Rq.blk (is := [(.iconst 1, 1), (.goto 4, 3)]) (q := (24, [some (.ref 238), some (.int (nI c)), some (.int (nI k)), some (.int (nI n)), none, none, none], [.int (nI 1)])) (by decide +kernel) rfl ?_
  dsimp only
  refine am_Rq.blk (is := [(.istore 4, 2), (.iload 4, 2)]) (q := (28, [some (.ref 238), some (.int (nI c)), some (.int (nI k)), some (.int (nI n)), some (.int (nI 1)), none, none], [.int (nI 1)])) (by decide +kernel) rfl ?_
  dsimp only
  refine am_Rq.if1F (show decode (am_by 103) 28 = .ok (.ifCond .eq 30, 3) by decide +kernel) (by decide) (rfl) ?_
  refine am_Rq.blk (is := [(.iload_n 3, 1), (.iconst 1, 1)]) (q := (33, [some (.ref 238), some (.int (nI c)), some (.int (nI k)), some (.int (nI n)), some (.int (nI 1)), none, none], [.int (nI 1), .int (nI n)])) (by decide +kernel) rfl ?_
  dsimp only
  refine am_Rq.if2F (show decode (am_by 103) 33 = .ok (.if_icmp .lt 25, 3) by decide +kernel) (by decide) (by rw [nm_lt (by omega) (by omega)]; exact decide_eq_false (by omega)) ?_
  refine am_Rq.blk (is := [(.aload_n 0, 1)]) (q := (37, [some (.ref 238), some (.int (nI c)), some (.int (nI k)), some (.int (nI n)), some (.int (nI 1)), none, none], [.ref 238])) (by decide +kernel) rfl ?_
  dsimp only
  refine am_Rq.getf (v := .ref 239) (show decode (am_by 103) 37 = .ok (.getfield 7, 3) by decide +kernel) rfl hM rfl ?_
  refine am_Rq.blk (is := [(.bipush 40, 2), (.bipush 8, 2), (.iload_n 1, 1), (.imul, 1)]) (q := (46, [some (.ref 238), some (.int (nI c)), some (.int (nI k)), some (.int (nI n)), some (.int (nI 1)), none, none], [.int ((nI 8) * (nI c)), .int (nI 40), .ref 239])) (by decide +kernel) rfl ?_
  dsimp only
  rw [show (nI 8) * (nI c) = nI (8 * c) from nm_imul _ _]
  refine am_Rq.blk (is := [(.iadd, 1)]) (q := (47, [some (.ref 238), some (.int (nI c)), some (.int (nI k)), some (.int (nI n)), some (.int (nI 1)), none, none], [.int ((nI 40) + (nI (8 * c))), .ref 239])) (by decide +kernel) rfl ?_
  dsimp only
  rw [show (nI 40) + (nI (8 * c)) = nI (40 + (8 * c)) from nI_add _ _]
  refine am_Rq.blk (is := [(.iload_n 2, 1), (.iadd, 1)]) (q := (49, [some (.ref 238), some (.int (nI c)), some (.int (nI k)), some (.int (nI n)), some (.int (nI 1)), none, none], [.int ((nI (40 + (8 * c))) + (nI k)), .ref 239])) (by decide +kernel) rfl ?_
  dsimp only
  rw [show (nI (40 + (8 * c))) + (nI k) = nI ((40 + (8 * c)) + k) from nI_add _ _]
  refine am_Rq.ial (k := (40 + (8 * c)) + k) (show decode (am_by 103) 49 = .ok (.iaload, 1) by decide +kernel) hS (by omega) (by omega) ?_
  refine am_Rq.blk (is := [(.iload_n 3, 1)]) (q := (51, [some (.ref 238), some (.int (nI c)), some (.int (nI k)), some (.int (nI n)), some (.int (nI 1)), none, none], [.int (nI n), .int (nI (s ((40 + (8 * c)) + k)))])) (by decide +kernel) rfl ?_
  dsimp only
  refine am_Rq.if2F (show decode (am_by 103) 51 = .ok (.if_icmp .lt 7, 3) by decide +kernel) (by decide) (by rw [nm_lt (by omega) (by omega)]; exact decide_eq_false (by omega)) ?_
  refine am_Rq.blk (is := [(.iconst 1, 1), (.goto 4, 3)]) (q := (59, [some (.ref 238), some (.int (nI c)), some (.int (nI k)), some (.int (nI n)), some (.int (nI 1)), none, none], [.int (nI 1)])) (by decide +kernel) rfl ?_
  dsimp only
  refine am_Rq.blk (is := [(.istore 5, 2), (.aload_n 0, 1), (.iload 4, 2)]) (q := (64, [some (.ref 238), some (.int (nI c)), some (.int (nI k)), some (.int (nI n)), some (.int (nI 1)), some (.int (nI 1)), none], [.int (nI 1), .ref 238])) (by decide +kernel) rfl ?_
  dsimp only
  refine am_Rq.if1T (t := 71) (show decode (am_by 103) 64 = .ok (.ifCond .ne 7, 3) by decide +kernel) (by decide) (rfl) ?_
  refine am_Rq.blk (is := [(.iconst 0, 1), (.iload_n 3, 1), (.iconst 1, 1)]) (q := (74, [some (.ref 238), some (.int (nI c)), some (.int (nI k)), some (.int (nI n)), some (.int (nI 1)), some (.int (nI 1)), none], [.int (nI 1), .int (nI n), .int (nI 0), .ref 238])) (by decide +kernel) rfl ?_
  dsimp only
  refine am_Rq.if2T (t := 81) (show decode (am_by 103) 74 = .ok (.if_icmp .ge 7, 3) by decide +kernel) (by decide) (by rw [nm_ge (by omega) (by omega)]; exact decide_eq_true (by omega)) ?_
  refine am_Rq.blk (is := [(.iconst 0, 1), (.iload 5, 2)]) (q := (84, [some (.ref 238), some (.int (nI c)), some (.int (nI k)), some (.int (nI n)), some (.int (nI 1)), some (.int (nI 1)), none], [.int (nI 1), .int (nI 0), .int (nI 0), .ref 238])) (by decide +kernel) rfl ?_
  dsimp only
  refine am_Rq.if1F (show decode (am_by 103) 84 = .ok (.ifCond .eq 23, 3) by decide +kernel) (by decide) (rfl) ?_
  refine am_Rq.blk (is := [(.aload_n 0, 1), (.iconst 0, 1)]) (q := (89, [some (.ref 238), some (.int (nI c)), some (.int (nI k)), some (.int (nI n)), some (.int (nI 1)), some (.int (nI 1)), none], [.int (nI 0), .ref 238, .int (nI 0), .int (nI 0), .ref 238])) (by decide +kernel) rfl ?_
  dsimp only
  refine am_Rq.callV (show decode (am_by 103) 89 = .ok (.invokevirtual 49, 3) by decide +kernel) rfl [.int (nI 0)] [.int (nI 0), .int (nI 0), .ref 238] rfl rfl (Nat.le_of_ble_eq_true rfl) rfl hM rfl (m_issued hM hS (c := 0) (by omega)) ?_
  rintro hq _ ⟨e1, rfl⟩
  rw [e1]
  clear e1 hq
  show am_Rq _ 103 92 [some (.ref 238), some (.int (nI c)), some (.int (nI k)), some (.int (nI n)), some (.int (nI 1)), some (.int (nI 1)), none] [.int (nI (m_iss s 0)), .int (nI 0), .int (nI 0), .ref 238] _ _
  refine am_Rq.blk (is := [(.i2l, 1)]) (q := (93, [some (.ref 238), some (.int (nI c)), some (.int (nI k)), some (.int (nI n)), some (.int (nI 1)), some (.int (nI 1)), none], [.long ((nI (m_iss s 0)).toInt64), .int (nI 0), .int (nI 0), .ref 238])) (by decide +kernel) rfl ?_
  dsimp only
  rw [show (nI (m_iss s 0)).toInt64 = lN (m_iss s 0) from nm_l (by omega)]
  refine am_Rq.blk (is := [(.aload_n 0, 1), (.iload_n 1, 1), (.iload_n 3, 1)]) (q := (96, [some (.ref 238), some (.int (nI c)), some (.int (nI k)), some (.int (nI n)), some (.int (nI 1)), some (.int (nI 1)), none], [.int (nI n), .int (nI c), .ref 238, .long (lN (m_iss s 0)), .int (nI 0), .int (nI 0), .ref 238])) (by decide +kernel) rfl ?_
  dsimp only
  refine am_Rq.callV (show decode (am_by 103) 96 = .ok (.invokevirtual 53, 3) by decide +kernel) rfl [.int (nI c), .int (nI n)] [.long (lN (m_iss s 0)), .int (nI 0), .int (nI 0), .ref 238] rfl rfl (Nat.le_of_ble_eq_true rfl) rfl hM rfl (m_convC hM hS hb hc (by omega)) ?_
  rintro hq _ ⟨e1, rfl⟩
  rw [e1]
  clear e1 hq
  show am_Rq _ 103 99 [some (.ref 238), some (.int (nI c)), some (.int (nI k)), some (.int (nI n)), some (.int (nI 1)), some (.int (nI 1)), none] [.long (lN (m_cv s c n)), .long (lN (m_iss s 0)), .int (nI 0), .int (nI 0), .ref 238] _ _
  refine am_Rq.blk (is := [(.ladd, 1)]) (q := (100, [some (.ref 238), some (.int (nI c)), some (.int (nI k)), some (.int (nI n)), some (.int (nI 1)), some (.int (nI 1)), none], [.long ((lN (m_iss s 0)) + (lN (m_cv s c n))), .int (nI 0), .int (nI 0), .ref 238])) (by decide +kernel) rfl ?_
  dsimp only
  rw [show (lN (m_iss s 0)) + (lN (m_cv s c n)) = lN ((m_iss s 0) + (m_cv s c n)) from lN_add _ _]
  refine am_Rq.blk (is := [(.ldc2_w 75, 3), (.lcmp, 1)]) (q := (104, [some (.ref 238), some (.int (nI c)), some (.int (nI k)), some (.int (nI n)), some (.int (nI 1)), some (.int (nI 1)), none], [.int (lg_cmp (lN ((m_iss s 0) + (m_cv s c n))) (lN 20000)), .int (nI 0), .int (nI 0), .ref 238])) (by decide +kernel) rfl ?_
  dsimp only
  refine am_Rq.if1F (show decode (am_by 103) 104 = .ok (.ifCond .le 7, 3) by decide +kernel) (by decide) (by rw [nm_cle]; exact decide_eq_false (by rw [nm_lle (by omega) (by omega)]; omega)) ?_
  refine am_Rq.blk (is := [(.iconst 1, 1), (.goto 4, 3)]) (q := (112, [some (.ref 238), some (.int (nI c)), some (.int (nI k)), some (.int (nI n)), some (.int (nI 1)), some (.int (nI 1)), none], [.int (nI 1), .int (nI 0), .int (nI 0), .ref 238])) (by decide +kernel) rfl ?_
  dsimp only
  refine am_Rq.callV (show decode (am_by 103) 112 = .ok (.invokevirtual 57, 3) by decide +kernel) rfl [.int (nI (am_b false)), .int (nI (am_b false)), .int (nI (am_b true))] [] rfl rfl (Nat.le_of_ble_eq_true rfl) rfl hM rfl (m_refused hM false false true) ?_
  rintro _ _ ⟨rfl, rfl⟩
  have hM1 := am_ss (c' := (7, m_ob 3 kn co)) hM
  have hS1 := (am_sn (c' := (7, m_ob 3 kn co)) (show 238 ≠ 239 by decide)).trans hS
  show am_Rq _ 103 115 [some (.ref 238), some (.int (nI c)), some (.int (nI k)), some (.int (nI n)), some (.int (nI 1)), some (.int (nI 1)), none] [.int (nI (am_b true))] _ _
  refine am_Rq.if1F (show decode (am_by 103) 115 = .ok (.ifCond .eq 5, 3) by decide +kernel) (by decide) (rfl) ?_
  refine am_Rq.blk (is := [(.iconst 0, 1)]) (q := (119, [some (.ref 238), some (.int (nI c)), some (.int (nI k)), some (.int (nI n)), some (.int (nI 1)), some (.int (nI 1)), none], [.int (nI 0)])) (by decide +kernel) rfl ?_
  dsimp only
  refine am_Rq.ret (v := some (.int (nI 0))) (show decode (am_by 103) 119 = .ok (.ireturn, 1) by decide +kernel) rfl rfl ?_
  exact ⟨_, rfl, rfl, rfl⟩
theorem m_issue_no1 {th kn co : Nat} (hM : hp[238]? = some (7, [.int (nI th), .ref 239, .ref 240, .int (nI kn), .ref 241, .ref 242, .ref 243, .ref 244, .long (lN co), .ref 245])) {s : Nat → Nat} (hS : hp[239]? = some (100, am_ia (fun i => nI (s i)) 160)) {x y u z : Int32} (hx : rg_r (nI 0) (nI (s 0)) x = false) : am_Rq (d + 2) 95 0 (am_en [.ref 238, .int x, .int y, .int u, .int z] 14) [] hp (am_Ret fun hp1 v => hp1 = hp.set 238 (7, m_ob 1 kn co) ∧ v = some (.int (nI (0)))) := by
  show am_Rq _ 95 0 [some (.ref 238), some (.int x), some (.int y), some (.int u), some (.int z), none, none, none, none, none, none, none, none, none] [] _ _
  refine am_Rq.blk (is := [(.aload_n 0, 1), (.iload_n 1, 1)]) (q := (2, [some (.ref 238), some (.int x), some (.int y), some (.int u), some (.int z), none, none, none, none, none, none, none, none, none], [.int x, .ref 238])) (by decide +kernel) rfl ?_
  dsimp only
  refine am_Rq.callV (show decode (am_by 95) 2 = .ok (.invokevirtual 64, 3) by decide +kernel) rfl [.int x] [] rfl rfl (Nat.le_of_ble_eq_true rfl) rfl hM rfl (m_isClass hM hS (x)) ?_
  rintro hq _ ⟨e1, rfl⟩
  rw [e1]
  clear e1 hq
  show am_Rq _ 95 5 [some (.ref 238), some (.int x), some (.int y), some (.int u), some (.int z), none, none, none, none, none, none, none, none, none] [.int (nI (am_b (rg_r (nI 0) (nI (s 0)) (x))))] _ _
  refine am_Rq.if1T (t := 19) (show decode (am_by 95) 5 = .ok (.ifCond .eq 14, 3) by decide +kernel) (by decide) (by rw [am_b_eq, hx]; rfl) ?_
  refine am_Rq.blk (is := [(.iconst 0, 1), (.istore 5, 2), (.aload_n 0, 1), (.iload 5, 2)]) (q := (25, [some (.ref 238), some (.int x), some (.int y), some (.int u), some (.int z), some (.int (nI 0)), none, none, none, none, none, none, none, none], [.int (nI 0), .ref 238])) (by decide +kernel) rfl ?_
  dsimp only
  refine am_Rq.if1F (show decode (am_by 95) 25 = .ok (.ifCond .ne 7, 3) by decide +kernel) (by decide) (rfl) ?_
  refine am_Rq.blk (is := [(.iconst 1, 1), (.goto 4, 3)]) (q := (33, [some (.ref 238), some (.int x), some (.int y), some (.int u), some (.int z), some (.int (nI 0)), none, none, none, none, none, none, none, none], [.int (nI 1), .ref 238])) (by decide +kernel) rfl ?_
  dsimp only
  refine am_Rq.blk (is := [(.iload_n 3, 1), (.iconst 1, 1), (.sipush 1000, 3)]) (q := (38, [some (.ref 238), some (.int x), some (.int y), some (.int u), some (.int z), some (.int (nI 0)), none, none, none, none, none, none, none, none], [.int (nI 1000), .int (nI 1), .int u, .int (nI 1), .ref 238])) (by decide +kernel) rfl ?_
  dsimp only
  refine am_Rq.callS (show decode (am_by 95) 38 = .ok (.invokestatic 39, 3) by decide +kernel) rfl [.int u, .int (nI 1), .int (nI 1000)] [.int (nI 1), .ref 238] rfl rfl (Nat.le_of_ble_eq_true rfl) rfl rfl (m_in (u) (nI 1) (nI 1000)) ?_
  rintro hq _ ⟨e1, rfl⟩
  rw [e1]
  clear e1 hq
  show am_Rq _ 95 41 [some (.ref 238), some (.int x), some (.int y), some (.int u), some (.int z), some (.int (nI 0)), none, none, none, none, none, none, none, none] [.int (nI (am_b (rg_r (nI 1) (nI 1000) (u)))), .int (nI 1), .ref 238] _ _
  refine am_Rq.if1 (t := 56) (show decode (am_by 95) 41 = .ok (.ifCond .eq 15, 3) by decide +kernel) (by decide) (fun e1 => ?_) (fun e1 => ?_)
  ·
    rw [am_b_eq, Bool.not_eq_true'] at e1
    refine am_Rq.blk (is := [(.iconst 1, 1), (.goto 4, 3)]) (q := (61, [some (.ref 238), some (.int x), some (.int y), some (.int u), some (.int z), some (.int (nI 0)), none, none, none, none, none, none, none, none], [.int (nI 1), .int (nI 1), .ref 238])) (by decide +kernel) rfl ?_
    dsimp only
    refine am_Rq.blk (is := [(.iload 5, 2)]) (q := (63, [some (.ref 238), some (.int x), some (.int y), some (.int u), some (.int z), some (.int (nI 0)), none, none, none, none, none, none, none, none], [.int (nI 0), .int (nI 1), .int (nI 1), .ref 238])) (by decide +kernel) rfl ?_
    dsimp only
    refine am_Rq.if1T (t := 83) (show decode (am_by 95) 63 = .ok (.ifCond .eq 20, 3) by decide +kernel) (by decide) (rfl) ?_
    refine am_Rq.blk (is := [(.iconst 0, 1)]) (q := (84, [some (.ref 238), some (.int x), some (.int y), some (.int u), some (.int z), some (.int (nI 0)), none, none, none, none, none, none, none, none], [.int (nI 0), .int (nI 1), .int (nI 1), .ref 238])) (by decide +kernel) rfl ?_
    dsimp only
    refine am_Rq.callV (show decode (am_by 95) 84 = .ok (.invokevirtual 57, 3) by decide +kernel) rfl [.int (nI (am_b true)), .int (nI (am_b true)), .int (nI (am_b false))] [] rfl rfl (Nat.le_of_ble_eq_true rfl) rfl hM rfl (m_refused hM true true false) ?_
    rintro _ _ ⟨rfl, rfl⟩
    have hM1 := am_ss (c' := (7, m_ob 1 kn co)) hM
    have hS1 := (am_sn (c' := (7, m_ob 1 kn co)) (show 238 ≠ 239 by decide)).trans hS
    show am_Rq _ 95 87 [some (.ref 238), some (.int x), some (.int y), some (.int u), some (.int z), some (.int (nI 0)), none, none, none, none, none, none, none, none] [.int (nI (am_b true))] _ _
    refine am_Rq.if1F (show decode (am_by 95) 87 = .ok (.ifCond .eq 5, 3) by decide +kernel) (by decide) (rfl) ?_
    refine am_Rq.blk (is := [(.iconst 0, 1)]) (q := (91, [some (.ref 238), some (.int x), some (.int y), some (.int u), some (.int z), some (.int (nI 0)), none, none, none, none, none, none, none, none], [.int (nI 0)])) (by decide +kernel) rfl ?_
    dsimp only
    refine am_Rq.ret (v := some (.int (nI 0))) (show decode (am_by 95) 91 = .ok (.ireturn, 1) by decide +kernel) rfl rfl ?_
    exact ⟨_, rfl, rfl, rfl⟩
  ·
    rw [am_b_eq, Bool.not_eq_false'] at e1
    refine am_Rq.blk (is := [(.iload 4, 2), (.iconst 1, 1), (.sipush 1000, 3)]) (q := (50, [some (.ref 238), some (.int x), some (.int y), some (.int u), some (.int z), some (.int (nI 0)), none, none, none, none, none, none, none, none], [.int (nI 1000), .int (nI 1), .int z, .int (nI 1), .ref 238])) (by decide +kernel) rfl ?_
    dsimp only
    refine am_Rq.callS (show decode (am_by 95) 50 = .ok (.invokestatic 39, 3) by decide +kernel) rfl [.int z, .int (nI 1), .int (nI 1000)] [.int (nI 1), .ref 238] rfl rfl (Nat.le_of_ble_eq_true rfl) rfl rfl (m_in (z) (nI 1) (nI 1000)) ?_
    rintro hq _ ⟨e1, rfl⟩
    rw [e1]
    clear e1 hq
    show am_Rq _ 95 53 [some (.ref 238), some (.int x), some (.int y), some (.int u), some (.int z), some (.int (nI 0)), none, none, none, none, none, none, none, none] [.int (nI (am_b (rg_r (nI 1) (nI 1000) (z)))), .int (nI 1), .ref 238] _ _
    refine am_Rq.if1 (t := 60) (show decode (am_by 95) 53 = .ok (.ifCond .ne 7, 3) by decide +kernel) (by decide) (fun e2 => ?_) (fun e2 => ?_)
    ·
      rw [am_b_ne] at e2
      refine am_Rq.blk (is := [(.iconst 0, 1), (.iload 5, 2)]) (q := (63, [some (.ref 238), some (.int x), some (.int y), some (.int u), some (.int z), some (.int (nI 0)), none, none, none, none, none, none, none, none], [.int (nI 0), .int (nI 0), .int (nI 1), .ref 238])) (by decide +kernel) rfl ?_
      dsimp only
      refine am_Rq.if1T (t := 83) (show decode (am_by 95) 63 = .ok (.ifCond .eq 20, 3) by decide +kernel) (by decide) (rfl) ?_
      refine am_Rq.blk (is := [(.iconst 0, 1)]) (q := (84, [some (.ref 238), some (.int x), some (.int y), some (.int u), some (.int z), some (.int (nI 0)), none, none, none, none, none, none, none, none], [.int (nI 0), .int (nI 0), .int (nI 1), .ref 238])) (by decide +kernel) rfl ?_
      dsimp only
      refine am_Rq.callV (show decode (am_by 95) 84 = .ok (.invokevirtual 57, 3) by decide +kernel) rfl [.int (nI (am_b true)), .int (nI (am_b false)), .int (nI (am_b false))] [] rfl rfl (Nat.le_of_ble_eq_true rfl) rfl hM rfl (m_refused hM true false false) ?_
      rintro _ _ ⟨rfl, rfl⟩
      have hM1 := am_ss (c' := (7, m_ob 1 kn co)) hM
      have hS1 := (am_sn (c' := (7, m_ob 1 kn co)) (show 238 ≠ 239 by decide)).trans hS
      show am_Rq _ 95 87 [some (.ref 238), some (.int x), some (.int y), some (.int u), some (.int z), some (.int (nI 0)), none, none, none, none, none, none, none, none] [.int (nI (am_b true))] _ _
      refine am_Rq.if1F (show decode (am_by 95) 87 = .ok (.ifCond .eq 5, 3) by decide +kernel) (by decide) (rfl) ?_
      refine am_Rq.blk (is := [(.iconst 0, 1)]) (q := (91, [some (.ref 238), some (.int x), some (.int y), some (.int u), some (.int z), some (.int (nI 0)), none, none, none, none, none, none, none, none], [.int (nI 0)])) (by decide +kernel) rfl ?_
      dsimp only
      refine am_Rq.ret (v := some (.int (nI 0))) (show decode (am_by 95) 91 = .ok (.ireturn, 1) by decide +kernel) rfl rfl ?_
      exact ⟨_, rfl, rfl, rfl⟩
    ·
      rw [am_b_ne] at e2
      refine am_Rq.blk (is := [(.iconst 1, 1), (.goto 4, 3)]) (q := (61, [some (.ref 238), some (.int x), some (.int y), some (.int u), some (.int z), some (.int (nI 0)), none, none, none, none, none, none, none, none], [.int (nI 1), .int (nI 1), .ref 238])) (by decide +kernel) rfl ?_
      dsimp only
      refine am_Rq.blk (is := [(.iload 5, 2)]) (q := (63, [some (.ref 238), some (.int x), some (.int y), some (.int u), some (.int z), some (.int (nI 0)), none, none, none, none, none, none, none, none], [.int (nI 0), .int (nI 1), .int (nI 1), .ref 238])) (by decide +kernel) rfl ?_
      dsimp only
      refine am_Rq.if1T (t := 83) (show decode (am_by 95) 63 = .ok (.ifCond .eq 20, 3) by decide +kernel) (by decide) (rfl) ?_
      refine am_Rq.blk (is := [(.iconst 0, 1)]) (q := (84, [some (.ref 238), some (.int x), some (.int y), some (.int u), some (.int z), some (.int (nI 0)), none, none, none, none, none, none, none, none], [.int (nI 0), .int (nI 1), .int (nI 1), .ref 238])) (by decide +kernel) rfl ?_
      dsimp only
      refine am_Rq.callV (show decode (am_by 95) 84 = .ok (.invokevirtual 57, 3) by decide +kernel) rfl [.int (nI (am_b true)), .int (nI (am_b true)), .int (nI (am_b false))] [] rfl rfl (Nat.le_of_ble_eq_true rfl) rfl hM rfl (m_refused hM true true false) ?_
      rintro _ _ ⟨rfl, rfl⟩
      have hM1 := am_ss (c' := (7, m_ob 1 kn co)) hM
      have hS1 := (am_sn (c' := (7, m_ob 1 kn co)) (show 238 ≠ 239 by decide)).trans hS
      show am_Rq _ 95 87 [some (.ref 238), some (.int x), some (.int y), some (.int u), some (.int z), some (.int (nI 0)), none, none, none, none, none, none, none, none] [.int (nI (am_b true))] _ _
      refine am_Rq.if1F (show decode (am_by 95) 87 = .ok (.ifCond .eq 5, 3) by decide +kernel) (by decide) (rfl) ?_
      refine am_Rq.blk (is := [(.iconst 0, 1)]) (q := (91, [some (.ref 238), some (.int x), some (.int y), some (.int u), some (.int z), some (.int (nI 0)), none, none, none, none, none, none, none, none], [.int (nI 0)])) (by decide +kernel) rfl ?_
      dsimp only
      refine am_Rq.ret (v := some (.int (nI 0))) (show decode (am_by 95) 91 = .ok (.ireturn, 1) by decide +kernel) rfl rfl ?_
      exact ⟨_, rfl, rfl, rfl⟩
theorem m_issue_no2 {th kn co : Nat} (hM : hp[238]? = some (7, [.int (nI th), .ref 239, .ref 240, .int (nI kn), .ref 241, .ref 242, .ref 243, .ref 244, .long (lN co), .ref 245])) {s : Nat → Nat} (hS : hp[239]? = some (100, am_ia (fun i => nI (s i)) 160)) {c : Nat} (hc : c ≤ s 0) (hc5 : c < 5) (h0 : s 0 < 2 ^ 31) {y u z : Int32} (hy : rg_r (nI 0) (nI 7) y = false) : am_Rq (d + 2) 95 0 (am_en [.ref 238, .int (nI c), .int y, .int u, .int z] 14) [] hp (am_Ret fun hp1 v => hp1 = hp.set 238 (7, m_ob 1 kn co) ∧ v = some (.int (nI (0)))) := by
  show am_Rq _ 95 0 [some (.ref 238), some (.int (nI c)), some (.int y), some (.int u), some (.int z), none, none, none, none, none, none, none, none, none] [] _ _
  refine am_Rq.blk (is := [(.aload_n 0, 1), (.iload_n 1, 1)]) (q := (2, [some (.ref 238), some (.int (nI c)), some (.int y), some (.int u), some (.int z), none, none, none, none, none, none, none, none, none], [.int (nI c), .ref 238])) (by decide +kernel) rfl ?_
  dsimp only
  refine am_Rq.callV (show decode (am_by 95) 2 = .ok (.invokevirtual 64, 3) by decide +kernel) rfl [.int (nI c)] [] rfl rfl (Nat.le_of_ble_eq_true rfl) rfl hM rfl (m_isClass hM hS (nI c)) ?_
  rintro hq _ ⟨e1, rfl⟩
  rw [e1]
  clear e1 hq
  show am_Rq _ 95 5 [some (.ref 238), some (.int (nI c)), some (.int y), some (.int u), some (.int z), none, none, none, none, none, none, none, none, none] [.int (nI (am_b (rg_r (nI 0) (nI (s 0)) (nI c))))] _ _
  refine am_Rq.if1F (show decode (am_by 95) 5 = .ok (.ifCond .eq 14, 3) by decide +kernel) (by decide) (by rw [am_b_eq, rg_le (by omega) hc h0]; rfl) ?_
  refine am_Rq.blk (is := [(.iload_n 2, 1)]) (q := (9, [some (.ref 238), some (.int (nI c)), some (.int y), some (.int u), some (.int z), none, none, none, none, none, none, none, none, none], [.int y])) (by decide +kernel) rfl ?_
  dsimp only
  refine am_Rq.callS (show decode (am_by 95) 9 = .ok (.invokestatic 68, 3) by decide +kernel) rfl [.int y] [] rfl rfl (Nat.le_of_ble_eq_true rfl) rfl rfl (m_isHolder (y)) ?_
  rintro hq _ ⟨e1, rfl⟩
  rw [e1]
  clear e1 hq
  show am_Rq _ 95 12 [some (.ref 238), some (.int (nI c)), some (.int y), some (.int u), some (.int z), none, none, none, none, none, none, none, none, none] [.int (nI (am_b (rg_r (nI 0) (nI 7) (y))))] _ _
  refine am_Rq.if1T (t := 19) (show decode (am_by 95) 12 = .ok (.ifCond .eq 7, 3) by decide +kernel) (by decide) (by rw [am_b_eq, hy]; rfl) ?_
  refine am_Rq.blk (is := [(.iconst 0, 1), (.istore 5, 2), (.aload_n 0, 1), (.iload 5, 2)]) (q := (25, [some (.ref 238), some (.int (nI c)), some (.int y), some (.int u), some (.int z), some (.int (nI 0)), none, none, none, none, none, none, none, none], [.int (nI 0), .ref 238])) (by decide +kernel) rfl ?_
  dsimp only
  refine am_Rq.if1F (show decode (am_by 95) 25 = .ok (.ifCond .ne 7, 3) by decide +kernel) (by decide) (rfl) ?_
  refine am_Rq.blk (is := [(.iconst 1, 1), (.goto 4, 3)]) (q := (33, [some (.ref 238), some (.int (nI c)), some (.int y), some (.int u), some (.int z), some (.int (nI 0)), none, none, none, none, none, none, none, none], [.int (nI 1), .ref 238])) (by decide +kernel) rfl ?_
  dsimp only
  refine am_Rq.blk (is := [(.iload_n 3, 1), (.iconst 1, 1), (.sipush 1000, 3)]) (q := (38, [some (.ref 238), some (.int (nI c)), some (.int y), some (.int u), some (.int z), some (.int (nI 0)), none, none, none, none, none, none, none, none], [.int (nI 1000), .int (nI 1), .int u, .int (nI 1), .ref 238])) (by decide +kernel) rfl ?_
  dsimp only
  refine am_Rq.callS (show decode (am_by 95) 38 = .ok (.invokestatic 39, 3) by decide +kernel) rfl [.int u, .int (nI 1), .int (nI 1000)] [.int (nI 1), .ref 238] rfl rfl (Nat.le_of_ble_eq_true rfl) rfl rfl (m_in (u) (nI 1) (nI 1000)) ?_
  rintro hq _ ⟨e1, rfl⟩
  rw [e1]
  clear e1 hq
  show am_Rq _ 95 41 [some (.ref 238), some (.int (nI c)), some (.int y), some (.int u), some (.int z), some (.int (nI 0)), none, none, none, none, none, none, none, none] [.int (nI (am_b (rg_r (nI 1) (nI 1000) (u)))), .int (nI 1), .ref 238] _ _
  refine am_Rq.if1 (t := 56) (show decode (am_by 95) 41 = .ok (.ifCond .eq 15, 3) by decide +kernel) (by decide) (fun e1 => ?_) (fun e1 => ?_)
  ·
    rw [am_b_eq, Bool.not_eq_true'] at e1
    refine am_Rq.blk (is := [(.iconst 1, 1), (.goto 4, 3)]) (q := (61, [some (.ref 238), some (.int (nI c)), some (.int y), some (.int u), some (.int z), some (.int (nI 0)), none, none, none, none, none, none, none, none], [.int (nI 1), .int (nI 1), .ref 238])) (by decide +kernel) rfl ?_
    dsimp only
    refine am_Rq.blk (is := [(.iload 5, 2)]) (q := (63, [some (.ref 238), some (.int (nI c)), some (.int y), some (.int u), some (.int z), some (.int (nI 0)), none, none, none, none, none, none, none, none], [.int (nI 0), .int (nI 1), .int (nI 1), .ref 238])) (by decide +kernel) rfl ?_
    dsimp only
    refine am_Rq.if1T (t := 83) (show decode (am_by 95) 63 = .ok (.ifCond .eq 20, 3) by decide +kernel) (by decide) (rfl) ?_
    refine am_Rq.blk (is := [(.iconst 0, 1)]) (q := (84, [some (.ref 238), some (.int (nI c)), some (.int y), some (.int u), some (.int z), some (.int (nI 0)), none, none, none, none, none, none, none, none], [.int (nI 0), .int (nI 1), .int (nI 1), .ref 238])) (by decide +kernel) rfl ?_
    dsimp only
    refine am_Rq.callV (show decode (am_by 95) 84 = .ok (.invokevirtual 57, 3) by decide +kernel) rfl [.int (nI (am_b true)), .int (nI (am_b true)), .int (nI (am_b false))] [] rfl rfl (Nat.le_of_ble_eq_true rfl) rfl hM rfl (m_refused hM true true false) ?_
    rintro _ _ ⟨rfl, rfl⟩
    have hM1 := am_ss (c' := (7, m_ob 1 kn co)) hM
    have hS1 := (am_sn (c' := (7, m_ob 1 kn co)) (show 238 ≠ 239 by decide)).trans hS
    show am_Rq _ 95 87 [some (.ref 238), some (.int (nI c)), some (.int y), some (.int u), some (.int z), some (.int (nI 0)), none, none, none, none, none, none, none, none] [.int (nI (am_b true))] _ _
    refine am_Rq.if1F (show decode (am_by 95) 87 = .ok (.ifCond .eq 5, 3) by decide +kernel) (by decide) (rfl) ?_
    refine am_Rq.blk (is := [(.iconst 0, 1)]) (q := (91, [some (.ref 238), some (.int (nI c)), some (.int y), some (.int u), some (.int z), some (.int (nI 0)), none, none, none, none, none, none, none, none], [.int (nI 0)])) (by decide +kernel) rfl ?_
    dsimp only
    refine am_Rq.ret (v := some (.int (nI 0))) (show decode (am_by 95) 91 = .ok (.ireturn, 1) by decide +kernel) rfl rfl ?_
    exact ⟨_, rfl, rfl, rfl⟩
  ·
    rw [am_b_eq, Bool.not_eq_false'] at e1
    refine am_Rq.blk (is := [(.iload 4, 2), (.iconst 1, 1), (.sipush 1000, 3)]) (q := (50, [some (.ref 238), some (.int (nI c)), some (.int y), some (.int u), some (.int z), some (.int (nI 0)), none, none, none, none, none, none, none, none], [.int (nI 1000), .int (nI 1), .int z, .int (nI 1), .ref 238])) (by decide +kernel) rfl ?_
    dsimp only
    refine am_Rq.callS (show decode (am_by 95) 50 = .ok (.invokestatic 39, 3) by decide +kernel) rfl [.int z, .int (nI 1), .int (nI 1000)] [.int (nI 1), .ref 238] rfl rfl (Nat.le_of_ble_eq_true rfl) rfl rfl (m_in (z) (nI 1) (nI 1000)) ?_
    rintro hq _ ⟨e1, rfl⟩
    rw [e1]
    clear e1 hq
    show am_Rq _ 95 53 [some (.ref 238), some (.int (nI c)), some (.int y), some (.int u), some (.int z), some (.int (nI 0)), none, none, none, none, none, none, none, none] [.int (nI (am_b (rg_r (nI 1) (nI 1000) (z)))), .int (nI 1), .ref 238] _ _
    refine am_Rq.if1 (t := 60) (show decode (am_by 95) 53 = .ok (.ifCond .ne 7, 3) by decide +kernel) (by decide) (fun e2 => ?_) (fun e2 => ?_)
    ·
      rw [am_b_ne] at e2
      refine am_Rq.blk (is := [(.iconst 0, 1), (.iload 5, 2)]) (q := (63, [some (.ref 238), some (.int (nI c)), some (.int y), some (.int u), some (.int z), some (.int (nI 0)), none, none, none, none, none, none, none, none], [.int (nI 0), .int (nI 0), .int (nI 1), .ref 238])) (by decide +kernel) rfl ?_
      dsimp only
      refine am_Rq.if1T (t := 83) (show decode (am_by 95) 63 = .ok (.ifCond .eq 20, 3) by decide +kernel) (by decide) (rfl) ?_
      refine am_Rq.blk (is := [(.iconst 0, 1)]) (q := (84, [some (.ref 238), some (.int (nI c)), some (.int y), some (.int u), some (.int z), some (.int (nI 0)), none, none, none, none, none, none, none, none], [.int (nI 0), .int (nI 0), .int (nI 1), .ref 238])) (by decide +kernel) rfl ?_
      dsimp only
      refine am_Rq.callV (show decode (am_by 95) 84 = .ok (.invokevirtual 57, 3) by decide +kernel) rfl [.int (nI (am_b true)), .int (nI (am_b false)), .int (nI (am_b false))] [] rfl rfl (Nat.le_of_ble_eq_true rfl) rfl hM rfl (m_refused hM true false false) ?_
      rintro _ _ ⟨rfl, rfl⟩
      have hM1 := am_ss (c' := (7, m_ob 1 kn co)) hM
      have hS1 := (am_sn (c' := (7, m_ob 1 kn co)) (show 238 ≠ 239 by decide)).trans hS
      show am_Rq _ 95 87 [some (.ref 238), some (.int (nI c)), some (.int y), some (.int u), some (.int z), some (.int (nI 0)), none, none, none, none, none, none, none, none] [.int (nI (am_b true))] _ _
      refine am_Rq.if1F (show decode (am_by 95) 87 = .ok (.ifCond .eq 5, 3) by decide +kernel) (by decide) (rfl) ?_
      refine am_Rq.blk (is := [(.iconst 0, 1)]) (q := (91, [some (.ref 238), some (.int (nI c)), some (.int y), some (.int u), some (.int z), some (.int (nI 0)), none, none, none, none, none, none, none, none], [.int (nI 0)])) (by decide +kernel) rfl ?_
      dsimp only
      refine am_Rq.ret (v := some (.int (nI 0))) (show decode (am_by 95) 91 = .ok (.ireturn, 1) by decide +kernel) rfl rfl ?_
      exact ⟨_, rfl, rfl, rfl⟩
    ·
      rw [am_b_ne] at e2
      refine am_Rq.blk (is := [(.iconst 1, 1), (.goto 4, 3)]) (q := (61, [some (.ref 238), some (.int (nI c)), some (.int y), some (.int u), some (.int z), some (.int (nI 0)), none, none, none, none, none, none, none, none], [.int (nI 1), .int (nI 1), .ref 238])) (by decide +kernel) rfl ?_
      dsimp only
      refine am_Rq.blk (is := [(.iload 5, 2)]) (q := (63, [some (.ref 238), some (.int (nI c)), some (.int y), some (.int u), some (.int z), some (.int (nI 0)), none, none, none, none, none, none, none, none], [.int (nI 0), .int (nI 1), .int (nI 1), .ref 238])) (by decide +kernel) rfl ?_
      dsimp only
      refine am_Rq.if1T (t := 83) (show decode (am_by 95) 63 = .ok (.ifCond .eq 20, 3) by decide +kernel) (by decide) (rfl) ?_
      refine am_Rq.blk (is := [(.iconst 0, 1)]) (q := (84, [some (.ref 238), some (.int (nI c)), some (.int y), some (.int u), some (.int z), some (.int (nI 0)), none, none, none, none, none, none, none, none], [.int (nI 0), .int (nI 1), .int (nI 1), .ref 238])) (by decide +kernel) rfl ?_
      dsimp only
      refine am_Rq.callV (show decode (am_by 95) 84 = .ok (.invokevirtual 57, 3) by decide +kernel) rfl [.int (nI (am_b true)), .int (nI (am_b true)), .int (nI (am_b false))] [] rfl rfl (Nat.le_of_ble_eq_true rfl) rfl hM rfl (m_refused hM true true false) ?_
      rintro _ _ ⟨rfl, rfl⟩
      have hM1 := am_ss (c' := (7, m_ob 1 kn co)) hM
      have hS1 := (am_sn (c' := (7, m_ob 1 kn co)) (show 238 ≠ 239 by decide)).trans hS
      show am_Rq _ 95 87 [some (.ref 238), some (.int (nI c)), some (.int y), some (.int u), some (.int z), some (.int (nI 0)), none, none, none, none, none, none, none, none] [.int (nI (am_b true))] _ _
      refine am_Rq.if1F (show decode (am_by 95) 87 = .ok (.ifCond .eq 5, 3) by decide +kernel) (by decide) (rfl) ?_
      refine am_Rq.blk (is := [(.iconst 0, 1)]) (q := (91, [some (.ref 238), some (.int (nI c)), some (.int y), some (.int u), some (.int z), some (.int (nI 0)), none, none, none, none, none, none, none, none], [.int (nI 0)])) (by decide +kernel) rfl ?_
      dsimp only
      refine am_Rq.ret (v := some (.int (nI 0))) (show decode (am_by 95) 91 = .ok (.ireturn, 1) by decide +kernel) rfl rfl ?_
      exact ⟨_, rfl, rfl, rfl⟩
theorem m_issue_no3a {th kn co : Nat} (hM : hp[238]? = some (7, [.int (nI th), .ref 239, .ref 240, .int (nI kn), .ref 241, .ref 242, .ref 243, .ref 244, .long (lN co), .ref 245])) {s : Nat → Nat} (hS : hp[239]? = some (100, am_ia (fun i => nI (s i)) 160)) {c : Nat} (hc : c ≤ s 0) (hc5 : c < 5) (h0 : s 0 < 2 ^ 31) {k : Nat} (hk : k < 8) {u z : Int32} (hu : rg_r (nI 1) (nI 1000) u = false) : am_Rq (d + 2) 95 0 (am_en [.ref 238, .int (nI c), .int (nI k), .int u, .int z] 14) [] hp (am_Ret fun hp1 v => hp1 = hp.set 238 (7, m_ob 2 kn co) ∧ v = some (.int (nI (0)))) := by
  show am_Rq _ 95 0 [some (.ref 238), some (.int (nI c)), some (.int (nI k)), some (.int u), some (.int z), none, none, none, none, none, none, none, none, none] [] _ _
  refine am_Rq.blk (is := [(.aload_n 0, 1), (.iload_n 1, 1)]) (q := (2, [some (.ref 238), some (.int (nI c)), some (.int (nI k)), some (.int u), some (.int z), none, none, none, none, none, none, none, none, none], [.int (nI c), .ref 238])) (by decide +kernel) rfl ?_
  dsimp only
  refine am_Rq.callV (show decode (am_by 95) 2 = .ok (.invokevirtual 64, 3) by decide +kernel) rfl [.int (nI c)] [] rfl rfl (Nat.le_of_ble_eq_true rfl) rfl hM rfl (m_isClass hM hS (nI c)) ?_
  rintro hq _ ⟨e1, rfl⟩
  rw [e1]
  clear e1 hq
  show am_Rq _ 95 5 [some (.ref 238), some (.int (nI c)), some (.int (nI k)), some (.int u), some (.int z), none, none, none, none, none, none, none, none, none] [.int (nI (am_b (rg_r (nI 0) (nI (s 0)) (nI c))))] _ _
  refine am_Rq.if1F (show decode (am_by 95) 5 = .ok (.ifCond .eq 14, 3) by decide +kernel) (by decide) (by rw [am_b_eq, rg_le (by omega) hc h0]; rfl) ?_
  refine am_Rq.blk (is := [(.iload_n 2, 1)]) (q := (9, [some (.ref 238), some (.int (nI c)), some (.int (nI k)), some (.int u), some (.int z), none, none, none, none, none, none, none, none, none], [.int (nI k)])) (by decide +kernel) rfl ?_
  dsimp only
  refine am_Rq.callS (show decode (am_by 95) 9 = .ok (.invokestatic 68, 3) by decide +kernel) rfl [.int (nI k)] [] rfl rfl (Nat.le_of_ble_eq_true rfl) rfl rfl (m_isHolder (nI k)) ?_
  rintro hq _ ⟨e1, rfl⟩
  rw [e1]
  clear e1 hq
  show am_Rq _ 95 12 [some (.ref 238), some (.int (nI c)), some (.int (nI k)), some (.int u), some (.int z), none, none, none, none, none, none, none, none, none] [.int (nI (am_b (rg_r (nI 0) (nI 7) (nI k))))] _ _
  refine am_Rq.if1F (show decode (am_by 95) 12 = .ok (.ifCond .eq 7, 3) by decide +kernel) (by decide) (by rw [am_b_eq, rg_le (by omega) (show k ≤ 7 by omega) (by omega)]; rfl) ?_
  refine am_Rq.blk (is := [(.iconst 1, 1), (.goto 4, 3)]) (q := (20, [some (.ref 238), some (.int (nI c)), some (.int (nI k)), some (.int u), some (.int z), none, none, none, none, none, none, none, none, none], [.int (nI 1)])) (by decide +kernel) rfl ?_
  dsimp only
  refine am_Rq.blk (is := [(.istore 5, 2), (.aload_n 0, 1), (.iload 5, 2)]) (q := (25, [some (.ref 238), some (.int (nI c)), some (.int (nI k)), some (.int u), some (.int z), some (.int (nI 1)), none, none, none, none, none, none, none, none], [.int (nI 1), .ref 238])) (by decide +kernel) rfl ?_
  dsimp only
  refine am_Rq.if1T (t := 32) (show decode (am_by 95) 25 = .ok (.ifCond .ne 7, 3) by decide +kernel) (by decide) (rfl) ?_
  refine am_Rq.blk (is := [(.iconst 0, 1), (.iload_n 3, 1), (.iconst 1, 1), (.sipush 1000, 3)]) (q := (38, [some (.ref 238), some (.int (nI c)), some (.int (nI k)), some (.int u), some (.int z), some (.int (nI 1)), none, none, none, none, none, none, none, none], [.int (nI 1000), .int (nI 1), .int u, .int (nI 0), .ref 238])) (by decide +kernel) rfl ?_
  dsimp only
  refine am_Rq.callS (show decode (am_by 95) 38 = .ok (.invokestatic 39, 3) by decide +kernel) rfl [.int u, .int (nI 1), .int (nI 1000)] [.int (nI 0), .ref 238] rfl rfl (Nat.le_of_ble_eq_true rfl) rfl rfl (m_in (u) (nI 1) (nI 1000)) ?_
  rintro hq _ ⟨e1, rfl⟩
  rw [e1]
  clear e1 hq
  show am_Rq _ 95 41 [some (.ref 238), some (.int (nI c)), some (.int (nI k)), some (.int u), some (.int z), some (.int (nI 1)), none, none, none, none, none, none, none, none] [.int (nI (am_b (rg_r (nI 1) (nI 1000) (u)))), .int (nI 0), .ref 238] _ _
  refine am_Rq.if1T (t := 56) (show decode (am_by 95) 41 = .ok (.ifCond .eq 15, 3) by decide +kernel) (by decide) (by rw [am_b_eq, hu]; rfl) ?_
  refine am_Rq.blk (is := [(.iconst 1, 1), (.goto 4, 3)]) (q := (61, [some (.ref 238), some (.int (nI c)), some (.int (nI k)), some (.int u), some (.int z), some (.int (nI 1)), none, none, none, none, none, none, none, none], [.int (nI 1), .int (nI 0), .ref 238])) (by decide +kernel) rfl ?_
  dsimp only
  refine am_Rq.blk (is := [(.iload 5, 2)]) (q := (63, [some (.ref 238), some (.int (nI c)), some (.int (nI k)), some (.int u), some (.int z), some (.int (nI 1)), none, none, none, none, none, none, none, none], [.int (nI 1), .int (nI 1), .int (nI 0), .ref 238])) (by decide +kernel) rfl ?_
  dsimp only
  refine am_Rq.if1F (show decode (am_by 95) 63 = .ok (.ifCond .eq 20, 3) by decide +kernel) (by decide) (rfl) ?_
  refine am_Rq.blk (is := [(.aload_n 0, 1), (.iload_n 1, 1)]) (q := (68, [some (.ref 238), some (.int (nI c)), some (.int (nI k)), some (.int u), some (.int z), some (.int (nI 1)), none, none, none, none, none, none, none, none], [.int (nI c), .ref 238, .int (nI 1), .int (nI 0), .ref 238])) (by decide +kernel) rfl ?_
  dsimp only
  refine am_Rq.callV (show decode (am_by 95) 68 = .ok (.invokevirtual 49, 3) by decide +kernel) rfl [.int (nI c)] [.int (nI 1), .int (nI 0), .ref 238] rfl rfl (Nat.le_of_ble_eq_true rfl) rfl hM rfl (m_issued hM hS (c := c) (by omega)) ?_
  rintro hq _ ⟨e1, rfl⟩
  rw [e1]
  clear e1 hq
  show am_Rq _ 95 71 [some (.ref 238), some (.int (nI c)), some (.int (nI k)), some (.int u), some (.int z), some (.int (nI 1)), none, none, none, none, none, none, none, none] [.int (nI (m_iss s c)), .int (nI 1), .int (nI 0), .ref 238] _ _
  refine am_Rq.blk (is := [(.iload_n 3, 1), (.iadd, 1), (.sipush 5000, 3)]) (q := (76, [some (.ref 238), some (.int (nI c)), some (.int (nI k)), some (.int u), some (.int z), some (.int (nI 1)), none, none, none, none, none, none, none, none], [.int (nI 5000), .int ((nI (m_iss s c)) + u), .int (nI 1), .int (nI 0), .ref 238])) (by decide +kernel) rfl ?_
  dsimp only
  refine am_Rq.if2 (t := 83) (show decode (am_by 95) 76 = .ok (.if_icmp .le 7, 3) by decide +kernel) (by decide) (fun e1 => ?_) (fun e1 => ?_)
  ·
    refine am_Rq.blk (is := [(.iconst 0, 1)]) (q := (84, [some (.ref 238), some (.int (nI c)), some (.int (nI k)), some (.int u), some (.int z), some (.int (nI 1)), none, none, none, none, none, none, none, none], [.int (nI 0), .int (nI 1), .int (nI 0), .ref 238])) (by decide +kernel) rfl ?_
    dsimp only
    refine am_Rq.callV (show decode (am_by 95) 84 = .ok (.invokevirtual 57, 3) by decide +kernel) rfl [.int (nI (am_b false)), .int (nI (am_b true)), .int (nI (am_b false))] [] rfl rfl (Nat.le_of_ble_eq_true rfl) rfl hM rfl (m_refused hM false true false) ?_
    rintro _ _ ⟨rfl, rfl⟩
    have hM1 := am_ss (c' := (7, m_ob 2 kn co)) hM
    have hS1 := (am_sn (c' := (7, m_ob 2 kn co)) (show 238 ≠ 239 by decide)).trans hS
    show am_Rq _ 95 87 [some (.ref 238), some (.int (nI c)), some (.int (nI k)), some (.int u), some (.int z), some (.int (nI 1)), none, none, none, none, none, none, none, none] [.int (nI (am_b true))] _ _
    refine am_Rq.if1F (show decode (am_by 95) 87 = .ok (.ifCond .eq 5, 3) by decide +kernel) (by decide) (rfl) ?_
    refine am_Rq.blk (is := [(.iconst 0, 1)]) (q := (91, [some (.ref 238), some (.int (nI c)), some (.int (nI k)), some (.int u), some (.int z), some (.int (nI 1)), none, none, none, none, none, none, none, none], [.int (nI 0)])) (by decide +kernel) rfl ?_
    dsimp only
    refine am_Rq.ret (v := some (.int (nI 0))) (show decode (am_by 95) 91 = .ok (.ireturn, 1) by decide +kernel) rfl rfl ?_
    exact ⟨_, rfl, rfl, rfl⟩
  ·
    refine am_Rq.blk (is := [(.iconst 1, 1), (.goto 4, 3)]) (q := (84, [some (.ref 238), some (.int (nI c)), some (.int (nI k)), some (.int u), some (.int z), some (.int (nI 1)), none, none, none, none, none, none, none, none], [.int (nI 1), .int (nI 1), .int (nI 0), .ref 238])) (by decide +kernel) rfl ?_
    dsimp only
    refine am_Rq.callV (show decode (am_by 95) 84 = .ok (.invokevirtual 57, 3) by decide +kernel) rfl [.int (nI (am_b false)), .int (nI (am_b true)), .int (nI (am_b true))] [] rfl rfl (Nat.le_of_ble_eq_true rfl) rfl hM rfl (m_refused hM false true true) ?_
    rintro _ _ ⟨rfl, rfl⟩
    have hM1 := am_ss (c' := (7, m_ob 2 kn co)) hM
    have hS1 := (am_sn (c' := (7, m_ob 2 kn co)) (show 238 ≠ 239 by decide)).trans hS
    show am_Rq _ 95 87 [some (.ref 238), some (.int (nI c)), some (.int (nI k)), some (.int u), some (.int z), some (.int (nI 1)), none, none, none, none, none, none, none, none] [.int (nI (am_b true))] _ _
    refine am_Rq.if1F (show decode (am_by 95) 87 = .ok (.ifCond .eq 5, 3) by decide +kernel) (by decide) (rfl) ?_
    refine am_Rq.blk (is := [(.iconst 0, 1)]) (q := (91, [some (.ref 238), some (.int (nI c)), some (.int (nI k)), some (.int u), some (.int z), some (.int (nI 1)), none, none, none, none, none, none, none, none], [.int (nI 0)])) (by decide +kernel) rfl ?_
    dsimp only
    refine am_Rq.ret (v := some (.int (nI 0))) (show decode (am_by 95) 91 = .ok (.ireturn, 1) by decide +kernel) rfl rfl ?_
    exact ⟨_, rfl, rfl, rfl⟩
theorem m_issue_no3b {th kn co : Nat} (hM : hp[238]? = some (7, [.int (nI th), .ref 239, .ref 240, .int (nI kn), .ref 241, .ref 242, .ref 243, .ref 244, .long (lN co), .ref 245])) {s : Nat → Nat} (hS : hp[239]? = some (100, am_ia (fun i => nI (s i)) 160)) {c : Nat} (hc : c ≤ s 0) (hc5 : c < 5) (h0 : s 0 < 2 ^ 31) {k : Nat} (hk : k < 8) {u z : Int32} (hu : rg_r (nI 1) (nI 1000) u = true) (hz : rg_r (nI 1) (nI 1000) z = false) : am_Rq (d + 2) 95 0 (am_en [.ref 238, .int (nI c), .int (nI k), .int u, .int z] 14) [] hp (am_Ret fun hp1 v => hp1 = hp.set 238 (7, m_ob 2 kn co) ∧ v = some (.int (nI (0)))) := by
  show am_Rq _ 95 0 [some (.ref 238), some (.int (nI c)), some (.int (nI k)), some (.int u), some (.int z), none, none, none, none, none, none, none, none, none] [] _ _
  refine am_Rq.blk (is := [(.aload_n 0, 1), (.iload_n 1, 1)]) (q := (2, [some (.ref 238), some (.int (nI c)), some (.int (nI k)), some (.int u), some (.int z), none, none, none, none, none, none, none, none, none], [.int (nI c), .ref 238])) (by decide +kernel) rfl ?_
  dsimp only
  refine am_Rq.callV (show decode (am_by 95) 2 = .ok (.invokevirtual 64, 3) by decide +kernel) rfl [.int (nI c)] [] rfl rfl (Nat.le_of_ble_eq_true rfl) rfl hM rfl (m_isClass hM hS (nI c)) ?_
  rintro hq _ ⟨e1, rfl⟩
  rw [e1]
  clear e1 hq
  show am_Rq _ 95 5 [some (.ref 238), some (.int (nI c)), some (.int (nI k)), some (.int u), some (.int z), none, none, none, none, none, none, none, none, none] [.int (nI (am_b (rg_r (nI 0) (nI (s 0)) (nI c))))] _ _
  refine am_Rq.if1F (show decode (am_by 95) 5 = .ok (.ifCond .eq 14, 3) by decide +kernel) (by decide) (by rw [am_b_eq, rg_le (by omega) hc h0]; rfl) ?_
  refine am_Rq.blk (is := [(.iload_n 2, 1)]) (q := (9, [some (.ref 238), some (.int (nI c)), some (.int (nI k)), some (.int u), some (.int z), none, none, none, none, none, none, none, none, none], [.int (nI k)])) (by decide +kernel) rfl ?_
  dsimp only
  refine am_Rq.callS (show decode (am_by 95) 9 = .ok (.invokestatic 68, 3) by decide +kernel) rfl [.int (nI k)] [] rfl rfl (Nat.le_of_ble_eq_true rfl) rfl rfl (m_isHolder (nI k)) ?_
  rintro hq _ ⟨e1, rfl⟩
  rw [e1]
  clear e1 hq
  show am_Rq _ 95 12 [some (.ref 238), some (.int (nI c)), some (.int (nI k)), some (.int u), some (.int z), none, none, none, none, none, none, none, none, none] [.int (nI (am_b (rg_r (nI 0) (nI 7) (nI k))))] _ _
  refine am_Rq.if1F (show decode (am_by 95) 12 = .ok (.ifCond .eq 7, 3) by decide +kernel) (by decide) (by rw [am_b_eq, rg_le (by omega) (show k ≤ 7 by omega) (by omega)]; rfl) ?_
  refine am_Rq.blk (is := [(.iconst 1, 1), (.goto 4, 3)]) (q := (20, [some (.ref 238), some (.int (nI c)), some (.int (nI k)), some (.int u), some (.int z), none, none, none, none, none, none, none, none, none], [.int (nI 1)])) (by decide +kernel) rfl ?_
  dsimp only
  refine am_Rq.blk (is := [(.istore 5, 2), (.aload_n 0, 1), (.iload 5, 2)]) (q := (25, [some (.ref 238), some (.int (nI c)), some (.int (nI k)), some (.int u), some (.int z), some (.int (nI 1)), none, none, none, none, none, none, none, none], [.int (nI 1), .ref 238])) (by decide +kernel) rfl ?_
  dsimp only
  refine am_Rq.if1T (t := 32) (show decode (am_by 95) 25 = .ok (.ifCond .ne 7, 3) by decide +kernel) (by decide) (rfl) ?_
  refine am_Rq.blk (is := [(.iconst 0, 1), (.iload_n 3, 1), (.iconst 1, 1), (.sipush 1000, 3)]) (q := (38, [some (.ref 238), some (.int (nI c)), some (.int (nI k)), some (.int u), some (.int z), some (.int (nI 1)), none, none, none, none, none, none, none, none], [.int (nI 1000), .int (nI 1), .int u, .int (nI 0), .ref 238])) (by decide +kernel) rfl ?_
  dsimp only
  refine am_Rq.callS (show decode (am_by 95) 38 = .ok (.invokestatic 39, 3) by decide +kernel) rfl [.int u, .int (nI 1), .int (nI 1000)] [.int (nI 0), .ref 238] rfl rfl (Nat.le_of_ble_eq_true rfl) rfl rfl (m_in (u) (nI 1) (nI 1000)) ?_
  rintro hq _ ⟨e1, rfl⟩
  rw [e1]
  clear e1 hq
  show am_Rq _ 95 41 [some (.ref 238), some (.int (nI c)), some (.int (nI k)), some (.int u), some (.int z), some (.int (nI 1)), none, none, none, none, none, none, none, none] [.int (nI (am_b (rg_r (nI 1) (nI 1000) (u)))), .int (nI 0), .ref 238] _ _
  refine am_Rq.if1F (show decode (am_by 95) 41 = .ok (.ifCond .eq 15, 3) by decide +kernel) (by decide) (by rw [am_b_eq, hu]; rfl) ?_
  refine am_Rq.blk (is := [(.iload 4, 2), (.iconst 1, 1), (.sipush 1000, 3)]) (q := (50, [some (.ref 238), some (.int (nI c)), some (.int (nI k)), some (.int u), some (.int z), some (.int (nI 1)), none, none, none, none, none, none, none, none], [.int (nI 1000), .int (nI 1), .int z, .int (nI 0), .ref 238])) (by decide +kernel) rfl ?_
  dsimp only
  refine am_Rq.callS (show decode (am_by 95) 50 = .ok (.invokestatic 39, 3) by decide +kernel) rfl [.int z, .int (nI 1), .int (nI 1000)] [.int (nI 0), .ref 238] rfl rfl (Nat.le_of_ble_eq_true rfl) rfl rfl (m_in (z) (nI 1) (nI 1000)) ?_
  rintro hq _ ⟨e1, rfl⟩
  rw [e1]
  clear e1 hq
  show am_Rq _ 95 53 [some (.ref 238), some (.int (nI c)), some (.int (nI k)), some (.int u), some (.int z), some (.int (nI 1)), none, none, none, none, none, none, none, none] [.int (nI (am_b (rg_r (nI 1) (nI 1000) (z)))), .int (nI 0), .ref 238] _ _
  refine am_Rq.if1F (show decode (am_by 95) 53 = .ok (.ifCond .ne 7, 3) by decide +kernel) (by decide) (by rw [am_b_ne, hz]) ?_
  refine am_Rq.blk (is := [(.iconst 1, 1), (.goto 4, 3)]) (q := (61, [some (.ref 238), some (.int (nI c)), some (.int (nI k)), some (.int u), some (.int z), some (.int (nI 1)), none, none, none, none, none, none, none, none], [.int (nI 1), .int (nI 0), .ref 238])) (by decide +kernel) rfl ?_
  dsimp only
  refine am_Rq.blk (is := [(.iload 5, 2)]) (q := (63, [some (.ref 238), some (.int (nI c)), some (.int (nI k)), some (.int u), some (.int z), some (.int (nI 1)), none, none, none, none, none, none, none, none], [.int (nI 1), .int (nI 1), .int (nI 0), .ref 238])) (by decide +kernel) rfl ?_
  dsimp only
  refine am_Rq.if1F (show decode (am_by 95) 63 = .ok (.ifCond .eq 20, 3) by decide +kernel) (by decide) (rfl) ?_
  refine am_Rq.blk (is := [(.aload_n 0, 1), (.iload_n 1, 1)]) (q := (68, [some (.ref 238), some (.int (nI c)), some (.int (nI k)), some (.int u), some (.int z), some (.int (nI 1)), none, none, none, none, none, none, none, none], [.int (nI c), .ref 238, .int (nI 1), .int (nI 0), .ref 238])) (by decide +kernel) rfl ?_
  dsimp only
  refine am_Rq.callV (show decode (am_by 95) 68 = .ok (.invokevirtual 49, 3) by decide +kernel) rfl [.int (nI c)] [.int (nI 1), .int (nI 0), .ref 238] rfl rfl (Nat.le_of_ble_eq_true rfl) rfl hM rfl (m_issued hM hS (c := c) (by omega)) ?_
  rintro hq _ ⟨e1, rfl⟩
  rw [e1]
  clear e1 hq
  show am_Rq _ 95 71 [some (.ref 238), some (.int (nI c)), some (.int (nI k)), some (.int u), some (.int z), some (.int (nI 1)), none, none, none, none, none, none, none, none] [.int (nI (m_iss s c)), .int (nI 1), .int (nI 0), .ref 238] _ _
  refine am_Rq.blk (is := [(.iload_n 3, 1), (.iadd, 1), (.sipush 5000, 3)]) (q := (76, [some (.ref 238), some (.int (nI c)), some (.int (nI k)), some (.int u), some (.int z), some (.int (nI 1)), none, none, none, none, none, none, none, none], [.int (nI 5000), .int ((nI (m_iss s c)) + u), .int (nI 1), .int (nI 0), .ref 238])) (by decide +kernel) rfl ?_
  dsimp only
  refine am_Rq.if2 (t := 83) (show decode (am_by 95) 76 = .ok (.if_icmp .le 7, 3) by decide +kernel) (by decide) (fun e1 => ?_) (fun e1 => ?_)
  ·
    refine am_Rq.blk (is := [(.iconst 0, 1)]) (q := (84, [some (.ref 238), some (.int (nI c)), some (.int (nI k)), some (.int u), some (.int z), some (.int (nI 1)), none, none, none, none, none, none, none, none], [.int (nI 0), .int (nI 1), .int (nI 0), .ref 238])) (by decide +kernel) rfl ?_
    dsimp only
    refine am_Rq.callV (show decode (am_by 95) 84 = .ok (.invokevirtual 57, 3) by decide +kernel) rfl [.int (nI (am_b false)), .int (nI (am_b true)), .int (nI (am_b false))] [] rfl rfl (Nat.le_of_ble_eq_true rfl) rfl hM rfl (m_refused hM false true false) ?_
    rintro _ _ ⟨rfl, rfl⟩
    have hM1 := am_ss (c' := (7, m_ob 2 kn co)) hM
    have hS1 := (am_sn (c' := (7, m_ob 2 kn co)) (show 238 ≠ 239 by decide)).trans hS
    show am_Rq _ 95 87 [some (.ref 238), some (.int (nI c)), some (.int (nI k)), some (.int u), some (.int z), some (.int (nI 1)), none, none, none, none, none, none, none, none] [.int (nI (am_b true))] _ _
    refine am_Rq.if1F (show decode (am_by 95) 87 = .ok (.ifCond .eq 5, 3) by decide +kernel) (by decide) (rfl) ?_
    refine am_Rq.blk (is := [(.iconst 0, 1)]) (q := (91, [some (.ref 238), some (.int (nI c)), some (.int (nI k)), some (.int u), some (.int z), some (.int (nI 1)), none, none, none, none, none, none, none, none], [.int (nI 0)])) (by decide +kernel) rfl ?_
    dsimp only
    refine am_Rq.ret (v := some (.int (nI 0))) (show decode (am_by 95) 91 = .ok (.ireturn, 1) by decide +kernel) rfl rfl ?_
    exact ⟨_, rfl, rfl, rfl⟩
  ·
    refine am_Rq.blk (is := [(.iconst 1, 1), (.goto 4, 3)]) (q := (84, [some (.ref 238), some (.int (nI c)), some (.int (nI k)), some (.int u), some (.int z), some (.int (nI 1)), none, none, none, none, none, none, none, none], [.int (nI 1), .int (nI 1), .int (nI 0), .ref 238])) (by decide +kernel) rfl ?_
    dsimp only
    refine am_Rq.callV (show decode (am_by 95) 84 = .ok (.invokevirtual 57, 3) by decide +kernel) rfl [.int (nI (am_b false)), .int (nI (am_b true)), .int (nI (am_b true))] [] rfl rfl (Nat.le_of_ble_eq_true rfl) rfl hM rfl (m_refused hM false true true) ?_
    rintro _ _ ⟨rfl, rfl⟩
    have hM1 := am_ss (c' := (7, m_ob 2 kn co)) hM
    have hS1 := (am_sn (c' := (7, m_ob 2 kn co)) (show 238 ≠ 239 by decide)).trans hS
    show am_Rq _ 95 87 [some (.ref 238), some (.int (nI c)), some (.int (nI k)), some (.int u), some (.int z), some (.int (nI 1)), none, none, none, none, none, none, none, none] [.int (nI (am_b true))] _ _
    refine am_Rq.if1F (show decode (am_by 95) 87 = .ok (.ifCond .eq 5, 3) by decide +kernel) (by decide) (rfl) ?_
    refine am_Rq.blk (is := [(.iconst 0, 1)]) (q := (91, [some (.ref 238), some (.int (nI c)), some (.int (nI k)), some (.int u), some (.int z), some (.int (nI 1)), none, none, none, none, none, none, none, none], [.int (nI 0)])) (by decide +kernel) rfl ?_
    dsimp only
    refine am_Rq.ret (v := some (.int (nI 0))) (show decode (am_by 95) 91 = .ok (.ireturn, 1) by decide +kernel) rfl rfl ?_
    exact ⟨_, rfl, rfl, rfl⟩
theorem m_issue_no4 {th kn co : Nat} (hM : hp[238]? = some (7, [.int (nI th), .ref 239, .ref 240, .int (nI kn), .ref 241, .ref 242, .ref 243, .ref 244, .long (lN co), .ref 245])) {s : Nat → Nat} (hS : hp[239]? = some (100, am_ia (fun i => nI (s i)) 160)) {c : Nat} (hc : c ≤ s 0) (hc5 : c < 5) (h0 : s 0 < 2 ^ 31) {k n p : Nat} (hk : k < 8) (n1 : 1 ≤ n) (n2 : n ≤ 1000) (p1 : 1 ≤ p) (p2 : p ≤ 1000) (hi : m_iss s c ≤ 20000) (h5 : 5000 < m_iss s c + n) : am_Rq (d + 2) 95 0 (am_en [.ref 238, .int (nI c), .int (nI k), .int (nI n), .int (nI p)] 14) [] hp (am_Ret fun hp1 v => hp1 = hp.set 238 (7, m_ob 3 kn co) ∧ v = some (.int (nI (0)))) := by
  show am_Rq _ 95 0 [some (.ref 238), some (.int (nI c)), some (.int (nI k)), some (.int (nI n)), some (.int (nI p)), none, none, none, none, none, none, none, none, none] [] _ _
  refine am_Rq.blk (is := [(.aload_n 0, 1), (.iload_n 1, 1)]) (q := (2, [some (.ref 238), some (.int (nI c)), some (.int (nI k)), some (.int (nI n)), some (.int (nI p)), none, none, none, none, none, none, none, none, none], [.int (nI c), .ref 238])) (by decide +kernel) rfl ?_
  dsimp only
  refine am_Rq.callV (show decode (am_by 95) 2 = .ok (.invokevirtual 64, 3) by decide +kernel) rfl [.int (nI c)] [] rfl rfl (Nat.le_of_ble_eq_true rfl) rfl hM rfl (m_isClass hM hS (nI c)) ?_
  rintro hq _ ⟨e1, rfl⟩
  rw [e1]
  clear e1 hq
  show am_Rq _ 95 5 [some (.ref 238), some (.int (nI c)), some (.int (nI k)), some (.int (nI n)), some (.int (nI p)), none, none, none, none, none, none, none, none, none] [.int (nI (am_b (rg_r (nI 0) (nI (s 0)) (nI c))))] _ _
  refine am_Rq.if1F (show decode (am_by 95) 5 = .ok (.ifCond .eq 14, 3) by decide +kernel) (by decide) (by rw [am_b_eq, rg_le (by omega) hc h0]; rfl) ?_
  refine am_Rq.blk (is := [(.iload_n 2, 1)]) (q := (9, [some (.ref 238), some (.int (nI c)), some (.int (nI k)), some (.int (nI n)), some (.int (nI p)), none, none, none, none, none, none, none, none, none], [.int (nI k)])) (by decide +kernel) rfl ?_
  dsimp only
  refine am_Rq.callS (show decode (am_by 95) 9 = .ok (.invokestatic 68, 3) by decide +kernel) rfl [.int (nI k)] [] rfl rfl (Nat.le_of_ble_eq_true rfl) rfl rfl (m_isHolder (nI k)) ?_
  rintro hq _ ⟨e1, rfl⟩
  rw [e1]
  clear e1 hq
  show am_Rq _ 95 12 [some (.ref 238), some (.int (nI c)), some (.int (nI k)), some (.int (nI n)), some (.int (nI p)), none, none, none, none, none, none, none, none, none] [.int (nI (am_b (rg_r (nI 0) (nI 7) (nI k))))] _ _
  refine am_Rq.if1F (show decode (am_by 95) 12 = .ok (.ifCond .eq 7, 3) by decide +kernel) (by decide) (by rw [am_b_eq, rg_le (by omega) (show k ≤ 7 by omega) (by omega)]; rfl) ?_
  refine am_Rq.blk (is := [(.iconst 1, 1), (.goto 4, 3)]) (q := (20, [some (.ref 238), some (.int (nI c)), some (.int (nI k)), some (.int (nI n)), some (.int (nI p)), none, none, none, none, none, none, none, none, none], [.int (nI 1)])) (by decide +kernel) rfl ?_
  dsimp only
  refine am_Rq.blk (is := [(.istore 5, 2), (.aload_n 0, 1), (.iload 5, 2)]) (q := (25, [some (.ref 238), some (.int (nI c)), some (.int (nI k)), some (.int (nI n)), some (.int (nI p)), some (.int (nI 1)), none, none, none, none, none, none, none, none], [.int (nI 1), .ref 238])) (by decide +kernel) rfl ?_
  dsimp only
  refine am_Rq.if1T (t := 32) (show decode (am_by 95) 25 = .ok (.ifCond .ne 7, 3) by decide +kernel) (by decide) (rfl) ?_
  refine am_Rq.blk (is := [(.iconst 0, 1), (.iload_n 3, 1), (.iconst 1, 1), (.sipush 1000, 3)]) (q := (38, [some (.ref 238), some (.int (nI c)), some (.int (nI k)), some (.int (nI n)), some (.int (nI p)), some (.int (nI 1)), none, none, none, none, none, none, none, none], [.int (nI 1000), .int (nI 1), .int (nI n), .int (nI 0), .ref 238])) (by decide +kernel) rfl ?_
  dsimp only
  refine am_Rq.callS (show decode (am_by 95) 38 = .ok (.invokestatic 39, 3) by decide +kernel) rfl [.int (nI n), .int (nI 1), .int (nI 1000)] [.int (nI 0), .ref 238] rfl rfl (Nat.le_of_ble_eq_true rfl) rfl rfl (m_in (nI n) (nI 1) (nI 1000)) ?_
  rintro hq _ ⟨e1, rfl⟩
  rw [e1]
  clear e1 hq
  show am_Rq _ 95 41 [some (.ref 238), some (.int (nI c)), some (.int (nI k)), some (.int (nI n)), some (.int (nI p)), some (.int (nI 1)), none, none, none, none, none, none, none, none] [.int (nI (am_b (rg_r (nI 1) (nI 1000) (nI n)))), .int (nI 0), .ref 238] _ _
  refine am_Rq.if1F (show decode (am_by 95) 41 = .ok (.ifCond .eq 15, 3) by decide +kernel) (by decide) (by rw [am_b_eq, rg_le n1 n2 (by omega)]; rfl) ?_
  refine am_Rq.blk (is := [(.iload 4, 2), (.iconst 1, 1), (.sipush 1000, 3)]) (q := (50, [some (.ref 238), some (.int (nI c)), some (.int (nI k)), some (.int (nI n)), some (.int (nI p)), some (.int (nI 1)), none, none, none, none, none, none, none, none], [.int (nI 1000), .int (nI 1), .int (nI p), .int (nI 0), .ref 238])) (by decide +kernel) rfl ?_
  dsimp only
  refine am_Rq.callS (show decode (am_by 95) 50 = .ok (.invokestatic 39, 3) by decide +kernel) rfl [.int (nI p), .int (nI 1), .int (nI 1000)] [.int (nI 0), .ref 238] rfl rfl (Nat.le_of_ble_eq_true rfl) rfl rfl (m_in (nI p) (nI 1) (nI 1000)) ?_
  rintro hq _ ⟨e1, rfl⟩
  rw [e1]
  clear e1 hq
  show am_Rq _ 95 53 [some (.ref 238), some (.int (nI c)), some (.int (nI k)), some (.int (nI n)), some (.int (nI p)), some (.int (nI 1)), none, none, none, none, none, none, none, none] [.int (nI (am_b (rg_r (nI 1) (nI 1000) (nI p)))), .int (nI 0), .ref 238] _ _
  refine am_Rq.if1T (t := 60) (show decode (am_by 95) 53 = .ok (.ifCond .ne 7, 3) by decide +kernel) (by decide) (by rw [am_b_ne, rg_le p1 p2 (by omega)]) ?_
  refine am_Rq.blk (is := [(.iconst 0, 1), (.iload 5, 2)]) (q := (63, [some (.ref 238), some (.int (nI c)), some (.int (nI k)), some (.int (nI n)), some (.int (nI p)), some (.int (nI 1)), none, none, none, none, none, none, none, none], [.int (nI 1), .int (nI 0), .int (nI 0), .ref 238])) (by decide +kernel) rfl ?_
  dsimp only
  refine am_Rq.if1F (show decode (am_by 95) 63 = .ok (.ifCond .eq 20, 3) by decide +kernel) (by decide) (rfl) ?_
  refine am_Rq.blk (is := [(.aload_n 0, 1), (.iload_n 1, 1)]) (q := (68, [some (.ref 238), some (.int (nI c)), some (.int (nI k)), some (.int (nI n)), some (.int (nI p)), some (.int (nI 1)), none, none, none, none, none, none, none, none], [.int (nI c), .ref 238, .int (nI 0), .int (nI 0), .ref 238])) (by decide +kernel) rfl ?_
  dsimp only
  refine am_Rq.callV (show decode (am_by 95) 68 = .ok (.invokevirtual 49, 3) by decide +kernel) rfl [.int (nI c)] [.int (nI 0), .int (nI 0), .ref 238] rfl rfl (Nat.le_of_ble_eq_true rfl) rfl hM rfl (m_issued hM hS (c := c) (by omega)) ?_
  rintro hq _ ⟨e1, rfl⟩
  rw [e1]
  clear e1 hq
  show am_Rq _ 95 71 [some (.ref 238), some (.int (nI c)), some (.int (nI k)), some (.int (nI n)), some (.int (nI p)), some (.int (nI 1)), none, none, none, none, none, none, none, none] [.int (nI (m_iss s c)), .int (nI 0), .int (nI 0), .ref 238] _ _
  refine am_Rq.blk (is := [(.iload_n 3, 1), (.iadd, 1)]) (q := (73, [some (.ref 238), some (.int (nI c)), some (.int (nI k)), some (.int (nI n)), some (.int (nI p)), some (.int (nI 1)), none, none, none, none, none, none, none, none], [.int ((nI (m_iss s c)) + (nI n)), .int (nI 0), .int (nI 0), .ref 238])) (by decide +kernel) rfl ?_
  dsimp only
  rw [show (nI (m_iss s c)) + (nI n) = nI ((m_iss s c) + n) from nI_add _ _]
  refine am_Rq.blk (is := [(.sipush 5000, 3)]) (q := (76, [some (.ref 238), some (.int (nI c)), some (.int (nI k)), some (.int (nI n)), some (.int (nI p)), some (.int (nI 1)), none, none, none, none, none, none, none, none], [.int (nI 5000), .int (nI ((m_iss s c) + n)), .int (nI 0), .int (nI 0), .ref 238])) (by decide +kernel) rfl ?_
  dsimp only
  refine am_Rq.if2F (show decode (am_by 95) 76 = .ok (.if_icmp .le 7, 3) by decide +kernel) (by decide) (by rw [nm_le (by omega) (by omega)]; exact decide_eq_false (by omega)) ?_
  refine am_Rq.blk (is := [(.iconst 1, 1), (.goto 4, 3)]) (q := (84, [some (.ref 238), some (.int (nI c)), some (.int (nI k)), some (.int (nI n)), some (.int (nI p)), some (.int (nI 1)), none, none, none, none, none, none, none, none], [.int (nI 1), .int (nI 0), .int (nI 0), .ref 238])) (by decide +kernel) rfl ?_
  dsimp only
  refine am_Rq.callV (show decode (am_by 95) 84 = .ok (.invokevirtual 57, 3) by decide +kernel) rfl [.int (nI (am_b false)), .int (nI (am_b false)), .int (nI (am_b true))] [] rfl rfl (Nat.le_of_ble_eq_true rfl) rfl hM rfl (m_refused hM false false true) ?_
  rintro _ _ ⟨rfl, rfl⟩
  have hM1 := am_ss (c' := (7, m_ob 3 kn co)) hM
  have hS1 := (am_sn (c' := (7, m_ob 3 kn co)) (show 238 ≠ 239 by decide)).trans hS
  show am_Rq _ 95 87 [some (.ref 238), some (.int (nI c)), some (.int (nI k)), some (.int (nI n)), some (.int (nI p)), some (.int (nI 1)), none, none, none, none, none, none, none, none] [.int (nI (am_b true))] _ _
  refine am_Rq.if1F (show decode (am_by 95) 87 = .ok (.ifCond .eq 5, 3) by decide +kernel) (by decide) (rfl) ?_
  refine am_Rq.blk (is := [(.iconst 0, 1)]) (q := (91, [some (.ref 238), some (.int (nI c)), some (.int (nI k)), some (.int (nI n)), some (.int (nI p)), some (.int (nI 1)), none, none, none, none, none, none, none, none], [.int (nI 0)])) (by decide +kernel) rfl ?_
  dsimp only
  refine am_Rq.ret (v := some (.int (nI 0))) (show decode (am_by 95) 91 = .ok (.ireturn, 1) by decide +kernel) rfl rfl ?_
  exact ⟨_, rfl, rfl, rfl⟩
theorem m_preferred_no1 {th kn co : Nat} (hM : hp[238]? = some (7, [.int (nI th), .ref 239, .ref 240, .int (nI kn), .ref 241, .ref 242, .ref 243, .ref 244, .long (lN co), .ref 245])) {s : Nat → Nat} (hS : hp[239]? = some (100, am_ia (fun i => nI (s i)) 160)) {x0 x1 x2 x3 x4 x5 : Int32} (hx : (rg_r (nI 1) (nI 1000) (x0) && (rg_r (nI 50) (nI 300) (x1) && (rg_r (nI 0) (nI 3) (x2) && (rg_r (nI 0) (nI 2) (x3) && (rg_r (nI 100) (nI 900) (x4) && (rg_r (nI 0) (nI 2) (x5))))))) = false) : am_Rq (d + 2) 91 0 (am_en [.ref 238, .int x0, .int x1, .int x2, .int x3, .int x4, .int x5] 9) [] hp (am_Ret fun hp1 v => hp1 = hp.set 238 (7, m_ob 1 kn co) ∧ v = some (.int (nI (0)))) := by
  show am_Rq _ 91 0 [some (.ref 238), some (.int x0), some (.int x1), some (.int x2), some (.int x3), some (.int x4), some (.int x5), none, none] [] _ _
  refine am_Rq.blk (is := [(.iload_n 1, 1), (.iconst 1, 1), (.sipush 1000, 3)]) (q := (5, [some (.ref 238), some (.int x0), some (.int x1), some (.int x2), some (.int x3), some (.int x4), some (.int x5), none, none], [.int (nI 1000), .int (nI 1), .int x0])) (by decide +kernel) rfl ?_
  dsimp only
  refine am_Rq.callS (show decode (am_by 91) 5 = .ok (.invokestatic 39, 3) by decide +kernel) rfl [.int x0, .int (nI 1), .int (nI 1000)] [] rfl rfl (Nat.le_of_ble_eq_true rfl) rfl rfl (m_in (x0) (nI 1) (nI 1000)) ?_
  rintro hq _ ⟨e1, rfl⟩
  rw [e1]
  clear e1 hq
  show am_Rq _ 91 8 [some (.ref 238), some (.int x0), some (.int x1), some (.int x2), some (.int x3), some (.int x4), some (.int x5), none, none] [.int (nI (am_b (rg_r (nI 1) (nI 1000) (x0))))] _ _
  refine am_Rq.if1 (t := 69) (show decode (am_by 91) 8 = .ok (.ifCond .eq 61, 3) by decide +kernel) (by decide) (fun e1 => ?_) (fun e1 => ?_)
  ·
    rw [am_b_eq, Bool.not_eq_true'] at e1
    refine am_Rq.blk (is := [(.iconst 0, 1), (.istore 7, 2), (.aload_n 0, 1), (.iload 7, 2)]) (q := (75, [some (.ref 238), some (.int x0), some (.int x1), some (.int x2), some (.int x3), some (.int x4), some (.int x5), some (.int (nI 0)), none], [.int (nI 0), .ref 238])) (by decide +kernel) rfl ?_
    dsimp only
    refine am_Rq.if1F (show decode (am_by 91) 75 = .ok (.ifCond .ne 7, 3) by decide +kernel) (by decide) (rfl) ?_
    refine am_Rq.blk (is := [(.iconst 1, 1), (.goto 4, 3)]) (q := (83, [some (.ref 238), some (.int x0), some (.int x1), some (.int x2), some (.int x3), some (.int x4), some (.int x5), some (.int (nI 0)), none], [.int (nI 1), .ref 238])) (by decide +kernel) rfl ?_
    dsimp only
    refine am_Rq.blk (is := [(.aload_n 0, 1)]) (q := (84, [some (.ref 238), some (.int x0), some (.int x1), some (.int x2), some (.int x3), some (.int x4), some (.int x5), some (.int (nI 0)), none], [.ref 238, .int (nI 1), .ref 238])) (by decide +kernel) rfl ?_
    dsimp only
    refine am_Rq.getf (v := .ref 239) (show decode (am_by 91) 84 = .ok (.getfield 7, 3) by decide +kernel) rfl hM rfl ?_
    refine am_Rq.blk (is := [(.iconst 0, 1)]) (q := (88, [some (.ref 238), some (.int x0), some (.int x1), some (.int x2), some (.int x3), some (.int x4), some (.int x5), some (.int (nI 0)), none], [.int (nI 0), .ref 239, .int (nI 1), .ref 238])) (by decide +kernel) rfl ?_
    dsimp only
    refine am_Rq.ial (k := 0) (show decode (am_by 91) 88 = .ok (.iaload, 1) by decide +kernel) hS (by omega) (by omega) ?_
    refine am_Rq.blk (is := [(.iconst 4, 1)]) (q := (90, [some (.ref 238), some (.int x0), some (.int x1), some (.int x2), some (.int x3), some (.int x4), some (.int x5), some (.int (nI 0)), none], [.int (nI 4), .int (nI (s 0)), .int (nI 1), .ref 238])) (by decide +kernel) rfl ?_
    dsimp only
    refine am_Rq.if2 (t := 97) (show decode (am_by 91) 90 = .ok (.if_icmp .ne 7, 3) by decide +kernel) (by decide) (fun e2 => ?_) (fun e2 => ?_)
    ·
      refine am_Rq.blk (is := [(.iconst 0, 1), (.iconst 0, 1)]) (q := (99, [some (.ref 238), some (.int x0), some (.int x1), some (.int x2), some (.int x3), some (.int x4), some (.int x5), some (.int (nI 0)), none], [.int (nI 0), .int (nI 0), .int (nI 1), .ref 238])) (by decide +kernel) rfl ?_
      dsimp only
      refine am_Rq.callV (show decode (am_by 91) 99 = .ok (.invokevirtual 57, 3) by decide +kernel) rfl [.int (nI (am_b true)), .int (nI (am_b false)), .int (nI (am_b false))] [] rfl rfl (Nat.le_of_ble_eq_true rfl) rfl hM rfl (m_refused hM true false false) ?_
      rintro _ _ ⟨rfl, rfl⟩
      have hM1 := am_ss (c' := (7, m_ob 1 kn co)) hM
      have hS1 := (am_sn (c' := (7, m_ob 1 kn co)) (show 238 ≠ 239 by decide)).trans hS
      show am_Rq _ 91 102 [some (.ref 238), some (.int x0), some (.int x1), some (.int x2), some (.int x3), some (.int x4), some (.int x5), some (.int (nI 0)), none] [.int (nI (am_b true))] _ _
      refine am_Rq.if1F (show decode (am_by 91) 102 = .ok (.ifCond .eq 5, 3) by decide +kernel) (by decide) (rfl) ?_
      refine am_Rq.blk (is := [(.iconst 0, 1)]) (q := (106, [some (.ref 238), some (.int x0), some (.int x1), some (.int x2), some (.int x3), some (.int x4), some (.int x5), some (.int (nI 0)), none], [.int (nI 0)])) (by decide +kernel) rfl ?_
      dsimp only
      refine am_Rq.ret (v := some (.int (nI 0))) (show decode (am_by 91) 106 = .ok (.ireturn, 1) by decide +kernel) rfl rfl ?_
      exact ⟨_, rfl, rfl, rfl⟩
    ·
      refine am_Rq.blk (is := [(.iconst 1, 1), (.goto 4, 3)]) (q := (98, [some (.ref 238), some (.int x0), some (.int x1), some (.int x2), some (.int x3), some (.int x4), some (.int x5), some (.int (nI 0)), none], [.int (nI 1), .int (nI 1), .ref 238])) (by decide +kernel) rfl ?_
      dsimp only
      refine am_Rq.blk (is := [(.iconst 0, 1)]) (q := (99, [some (.ref 238), some (.int x0), some (.int x1), some (.int x2), some (.int x3), some (.int x4), some (.int x5), some (.int (nI 0)), none], [.int (nI 0), .int (nI 1), .int (nI 1), .ref 238])) (by decide +kernel) rfl ?_
      dsimp only
      refine am_Rq.callV (show decode (am_by 91) 99 = .ok (.invokevirtual 57, 3) by decide +kernel) rfl [.int (nI (am_b true)), .int (nI (am_b true)), .int (nI (am_b false))] [] rfl rfl (Nat.le_of_ble_eq_true rfl) rfl hM rfl (m_refused hM true true false) ?_
      rintro _ _ ⟨rfl, rfl⟩
      have hM1 := am_ss (c' := (7, m_ob 1 kn co)) hM
      have hS1 := (am_sn (c' := (7, m_ob 1 kn co)) (show 238 ≠ 239 by decide)).trans hS
      show am_Rq _ 91 102 [some (.ref 238), some (.int x0), some (.int x1), some (.int x2), some (.int x3), some (.int x4), some (.int x5), some (.int (nI 0)), none] [.int (nI (am_b true))] _ _
      refine am_Rq.if1F (show decode (am_by 91) 102 = .ok (.ifCond .eq 5, 3) by decide +kernel) (by decide) (rfl) ?_
      refine am_Rq.blk (is := [(.iconst 0, 1)]) (q := (106, [some (.ref 238), some (.int x0), some (.int x1), some (.int x2), some (.int x3), some (.int x4), some (.int x5), some (.int (nI 0)), none], [.int (nI 0)])) (by decide +kernel) rfl ?_
      dsimp only
      refine am_Rq.ret (v := some (.int (nI 0))) (show decode (am_by 91) 106 = .ok (.ireturn, 1) by decide +kernel) rfl rfl ?_
      exact ⟨_, rfl, rfl, rfl⟩
  ·
    rw [am_b_eq, Bool.not_eq_false'] at e1
    refine am_Rq.blk (is := [(.iload_n 2, 1), (.bipush 50, 2), (.sipush 300, 3)]) (q := (17, [some (.ref 238), some (.int x0), some (.int x1), some (.int x2), some (.int x3), some (.int x4), some (.int x5), none, none], [.int (nI 300), .int (nI 50), .int x1])) (by decide +kernel) rfl ?_
    dsimp only
    refine am_Rq.callS (show decode (am_by 91) 17 = .ok (.invokestatic 39, 3) by decide +kernel) rfl [.int x1, .int (nI 50), .int (nI 300)] [] rfl rfl (Nat.le_of_ble_eq_true rfl) rfl rfl (m_in (x1) (nI 50) (nI 300)) ?_
    rintro hq _ ⟨e1, rfl⟩
    rw [e1]
    clear e1 hq
    show am_Rq _ 91 20 [some (.ref 238), some (.int x0), some (.int x1), some (.int x2), some (.int x3), some (.int x4), some (.int x5), none, none] [.int (nI (am_b (rg_r (nI 50) (nI 300) (x1))))] _ _
    refine am_Rq.if1 (t := 69) (show decode (am_by 91) 20 = .ok (.ifCond .eq 49, 3) by decide +kernel) (by decide) (fun e2 => ?_) (fun e2 => ?_)
    ·
      rw [am_b_eq, Bool.not_eq_true'] at e2
      refine am_Rq.blk (is := [(.iconst 0, 1), (.istore 7, 2), (.aload_n 0, 1), (.iload 7, 2)]) (q := (75, [some (.ref 238), some (.int x0), some (.int x1), some (.int x2), some (.int x3), some (.int x4), some (.int x5), some (.int (nI 0)), none], [.int (nI 0), .ref 238])) (by decide +kernel) rfl ?_
      dsimp only
      refine am_Rq.if1F (show decode (am_by 91) 75 = .ok (.ifCond .ne 7, 3) by decide +kernel) (by decide) (rfl) ?_
      refine am_Rq.blk (is := [(.iconst 1, 1), (.goto 4, 3)]) (q := (83, [some (.ref 238), some (.int x0), some (.int x1), some (.int x2), some (.int x3), some (.int x4), some (.int x5), some (.int (nI 0)), none], [.int (nI 1), .ref 238])) (by decide +kernel) rfl ?_
      dsimp only
      refine am_Rq.blk (is := [(.aload_n 0, 1)]) (q := (84, [some (.ref 238), some (.int x0), some (.int x1), some (.int x2), some (.int x3), some (.int x4), some (.int x5), some (.int (nI 0)), none], [.ref 238, .int (nI 1), .ref 238])) (by decide +kernel) rfl ?_
      dsimp only
      refine am_Rq.getf (v := .ref 239) (show decode (am_by 91) 84 = .ok (.getfield 7, 3) by decide +kernel) rfl hM rfl ?_
      refine am_Rq.blk (is := [(.iconst 0, 1)]) (q := (88, [some (.ref 238), some (.int x0), some (.int x1), some (.int x2), some (.int x3), some (.int x4), some (.int x5), some (.int (nI 0)), none], [.int (nI 0), .ref 239, .int (nI 1), .ref 238])) (by decide +kernel) rfl ?_
      dsimp only
      refine am_Rq.ial (k := 0) (show decode (am_by 91) 88 = .ok (.iaload, 1) by decide +kernel) hS (by omega) (by omega) ?_
      refine am_Rq.blk (is := [(.iconst 4, 1)]) (q := (90, [some (.ref 238), some (.int x0), some (.int x1), some (.int x2), some (.int x3), some (.int x4), some (.int x5), some (.int (nI 0)), none], [.int (nI 4), .int (nI (s 0)), .int (nI 1), .ref 238])) (by decide +kernel) rfl ?_
      dsimp only
      refine am_Rq.if2 (t := 97) (show decode (am_by 91) 90 = .ok (.if_icmp .ne 7, 3) by decide +kernel) (by decide) (fun e3 => ?_) (fun e3 => ?_)
      ·
        refine am_Rq.blk (is := [(.iconst 0, 1), (.iconst 0, 1)]) (q := (99, [some (.ref 238), some (.int x0), some (.int x1), some (.int x2), some (.int x3), some (.int x4), some (.int x5), some (.int (nI 0)), none], [.int (nI 0), .int (nI 0), .int (nI 1), .ref 238])) (by decide +kernel) rfl ?_
        dsimp only
        refine am_Rq.callV (show decode (am_by 91) 99 = .ok (.invokevirtual 57, 3) by decide +kernel) rfl [.int (nI (am_b true)), .int (nI (am_b false)), .int (nI (am_b false))] [] rfl rfl (Nat.le_of_ble_eq_true rfl) rfl hM rfl (m_refused hM true false false) ?_
        rintro _ _ ⟨rfl, rfl⟩
        have hM1 := am_ss (c' := (7, m_ob 1 kn co)) hM
        have hS1 := (am_sn (c' := (7, m_ob 1 kn co)) (show 238 ≠ 239 by decide)).trans hS
        show am_Rq _ 91 102 [some (.ref 238), some (.int x0), some (.int x1), some (.int x2), some (.int x3), some (.int x4), some (.int x5), some (.int (nI 0)), none] [.int (nI (am_b true))] _ _
        refine am_Rq.if1F (show decode (am_by 91) 102 = .ok (.ifCond .eq 5, 3) by decide +kernel) (by decide) (rfl) ?_
        refine am_Rq.blk (is := [(.iconst 0, 1)]) (q := (106, [some (.ref 238), some (.int x0), some (.int x1), some (.int x2), some (.int x3), some (.int x4), some (.int x5), some (.int (nI 0)), none], [.int (nI 0)])) (by decide +kernel) rfl ?_
        dsimp only
        refine am_Rq.ret (v := some (.int (nI 0))) (show decode (am_by 91) 106 = .ok (.ireturn, 1) by decide +kernel) rfl rfl ?_
        exact ⟨_, rfl, rfl, rfl⟩
      ·
        refine am_Rq.blk (is := [(.iconst 1, 1), (.goto 4, 3)]) (q := (98, [some (.ref 238), some (.int x0), some (.int x1), some (.int x2), some (.int x3), some (.int x4), some (.int x5), some (.int (nI 0)), none], [.int (nI 1), .int (nI 1), .ref 238])) (by decide +kernel) rfl ?_
        dsimp only
        refine am_Rq.blk (is := [(.iconst 0, 1)]) (q := (99, [some (.ref 238), some (.int x0), some (.int x1), some (.int x2), some (.int x3), some (.int x4), some (.int x5), some (.int (nI 0)), none], [.int (nI 0), .int (nI 1), .int (nI 1), .ref 238])) (by decide +kernel) rfl ?_
        dsimp only
        refine am_Rq.callV (show decode (am_by 91) 99 = .ok (.invokevirtual 57, 3) by decide +kernel) rfl [.int (nI (am_b true)), .int (nI (am_b true)), .int (nI (am_b false))] [] rfl rfl (Nat.le_of_ble_eq_true rfl) rfl hM rfl (m_refused hM true true false) ?_
        rintro _ _ ⟨rfl, rfl⟩
        have hM1 := am_ss (c' := (7, m_ob 1 kn co)) hM
        have hS1 := (am_sn (c' := (7, m_ob 1 kn co)) (show 238 ≠ 239 by decide)).trans hS
        show am_Rq _ 91 102 [some (.ref 238), some (.int x0), some (.int x1), some (.int x2), some (.int x3), some (.int x4), some (.int x5), some (.int (nI 0)), none] [.int (nI (am_b true))] _ _
        refine am_Rq.if1F (show decode (am_by 91) 102 = .ok (.ifCond .eq 5, 3) by decide +kernel) (by decide) (rfl) ?_
        refine am_Rq.blk (is := [(.iconst 0, 1)]) (q := (106, [some (.ref 238), some (.int x0), some (.int x1), some (.int x2), some (.int x3), some (.int x4), some (.int x5), some (.int (nI 0)), none], [.int (nI 0)])) (by decide +kernel) rfl ?_
        dsimp only
        refine am_Rq.ret (v := some (.int (nI 0))) (show decode (am_by 91) 106 = .ok (.ireturn, 1) by decide +kernel) rfl rfl ?_
        exact ⟨_, rfl, rfl, rfl⟩
    ·
      rw [am_b_eq, Bool.not_eq_false'] at e2
      refine am_Rq.blk (is := [(.iload_n 3, 1), (.iconst 0, 1), (.iconst 3, 1)]) (q := (26, [some (.ref 238), some (.int x0), some (.int x1), some (.int x2), some (.int x3), some (.int x4), some (.int x5), none, none], [.int (nI 3), .int (nI 0), .int x2])) (by decide +kernel) rfl ?_
      dsimp only
      refine am_Rq.callS (show decode (am_by 91) 26 = .ok (.invokestatic 39, 3) by decide +kernel) rfl [.int x2, .int (nI 0), .int (nI 3)] [] rfl rfl (Nat.le_of_ble_eq_true rfl) rfl rfl (m_in (x2) (nI 0) (nI 3)) ?_
      rintro hq _ ⟨e1, rfl⟩
      rw [e1]
      clear e1 hq
      show am_Rq _ 91 29 [some (.ref 238), some (.int x0), some (.int x1), some (.int x2), some (.int x3), some (.int x4), some (.int x5), none, none] [.int (nI (am_b (rg_r (nI 0) (nI 3) (x2))))] _ _
      refine am_Rq.if1 (t := 69) (show decode (am_by 91) 29 = .ok (.ifCond .eq 40, 3) by decide +kernel) (by decide) (fun e3 => ?_) (fun e3 => ?_)
      ·
        rw [am_b_eq, Bool.not_eq_true'] at e3
        refine am_Rq.blk (is := [(.iconst 0, 1), (.istore 7, 2), (.aload_n 0, 1), (.iload 7, 2)]) (q := (75, [some (.ref 238), some (.int x0), some (.int x1), some (.int x2), some (.int x3), some (.int x4), some (.int x5), some (.int (nI 0)), none], [.int (nI 0), .ref 238])) (by decide +kernel) rfl ?_
        dsimp only
        refine am_Rq.if1F (show decode (am_by 91) 75 = .ok (.ifCond .ne 7, 3) by decide +kernel) (by decide) (rfl) ?_
        refine am_Rq.blk (is := [(.iconst 1, 1), (.goto 4, 3)]) (q := (83, [some (.ref 238), some (.int x0), some (.int x1), some (.int x2), some (.int x3), some (.int x4), some (.int x5), some (.int (nI 0)), none], [.int (nI 1), .ref 238])) (by decide +kernel) rfl ?_
        dsimp only
        refine am_Rq.blk (is := [(.aload_n 0, 1)]) (q := (84, [some (.ref 238), some (.int x0), some (.int x1), some (.int x2), some (.int x3), some (.int x4), some (.int x5), some (.int (nI 0)), none], [.ref 238, .int (nI 1), .ref 238])) (by decide +kernel) rfl ?_
        dsimp only
        refine am_Rq.getf (v := .ref 239) (show decode (am_by 91) 84 = .ok (.getfield 7, 3) by decide +kernel) rfl hM rfl ?_
        refine am_Rq.blk (is := [(.iconst 0, 1)]) (q := (88, [some (.ref 238), some (.int x0), some (.int x1), some (.int x2), some (.int x3), some (.int x4), some (.int x5), some (.int (nI 0)), none], [.int (nI 0), .ref 239, .int (nI 1), .ref 238])) (by decide +kernel) rfl ?_
        dsimp only
        refine am_Rq.ial (k := 0) (show decode (am_by 91) 88 = .ok (.iaload, 1) by decide +kernel) hS (by omega) (by omega) ?_
        refine am_Rq.blk (is := [(.iconst 4, 1)]) (q := (90, [some (.ref 238), some (.int x0), some (.int x1), some (.int x2), some (.int x3), some (.int x4), some (.int x5), some (.int (nI 0)), none], [.int (nI 4), .int (nI (s 0)), .int (nI 1), .ref 238])) (by decide +kernel) rfl ?_
        dsimp only
        refine am_Rq.if2 (t := 97) (show decode (am_by 91) 90 = .ok (.if_icmp .ne 7, 3) by decide +kernel) (by decide) (fun e4 => ?_) (fun e4 => ?_)
        ·
          refine am_Rq.blk (is := [(.iconst 0, 1), (.iconst 0, 1)]) (q := (99, [some (.ref 238), some (.int x0), some (.int x1), some (.int x2), some (.int x3), some (.int x4), some (.int x5), some (.int (nI 0)), none], [.int (nI 0), .int (nI 0), .int (nI 1), .ref 238])) (by decide +kernel) rfl ?_
          dsimp only
          refine am_Rq.callV (show decode (am_by 91) 99 = .ok (.invokevirtual 57, 3) by decide +kernel) rfl [.int (nI (am_b true)), .int (nI (am_b false)), .int (nI (am_b false))] [] rfl rfl (Nat.le_of_ble_eq_true rfl) rfl hM rfl (m_refused hM true false false) ?_
          rintro _ _ ⟨rfl, rfl⟩
          have hM1 := am_ss (c' := (7, m_ob 1 kn co)) hM
          have hS1 := (am_sn (c' := (7, m_ob 1 kn co)) (show 238 ≠ 239 by decide)).trans hS
          show am_Rq _ 91 102 [some (.ref 238), some (.int x0), some (.int x1), some (.int x2), some (.int x3), some (.int x4), some (.int x5), some (.int (nI 0)), none] [.int (nI (am_b true))] _ _
          refine am_Rq.if1F (show decode (am_by 91) 102 = .ok (.ifCond .eq 5, 3) by decide +kernel) (by decide) (rfl) ?_
          refine am_Rq.blk (is := [(.iconst 0, 1)]) (q := (106, [some (.ref 238), some (.int x0), some (.int x1), some (.int x2), some (.int x3), some (.int x4), some (.int x5), some (.int (nI 0)), none], [.int (nI 0)])) (by decide +kernel) rfl ?_
          dsimp only
          refine am_Rq.ret (v := some (.int (nI 0))) (show decode (am_by 91) 106 = .ok (.ireturn, 1) by decide +kernel) rfl rfl ?_
          exact ⟨_, rfl, rfl, rfl⟩
        ·
          refine am_Rq.blk (is := [(.iconst 1, 1), (.goto 4, 3)]) (q := (98, [some (.ref 238), some (.int x0), some (.int x1), some (.int x2), some (.int x3), some (.int x4), some (.int x5), some (.int (nI 0)), none], [.int (nI 1), .int (nI 1), .ref 238])) (by decide +kernel) rfl ?_
          dsimp only
          refine am_Rq.blk (is := [(.iconst 0, 1)]) (q := (99, [some (.ref 238), some (.int x0), some (.int x1), some (.int x2), some (.int x3), some (.int x4), some (.int x5), some (.int (nI 0)), none], [.int (nI 0), .int (nI 1), .int (nI 1), .ref 238])) (by decide +kernel) rfl ?_
          dsimp only
          refine am_Rq.callV (show decode (am_by 91) 99 = .ok (.invokevirtual 57, 3) by decide +kernel) rfl [.int (nI (am_b true)), .int (nI (am_b true)), .int (nI (am_b false))] [] rfl rfl (Nat.le_of_ble_eq_true rfl) rfl hM rfl (m_refused hM true true false) ?_
          rintro _ _ ⟨rfl, rfl⟩
          have hM1 := am_ss (c' := (7, m_ob 1 kn co)) hM
          have hS1 := (am_sn (c' := (7, m_ob 1 kn co)) (show 238 ≠ 239 by decide)).trans hS
          show am_Rq _ 91 102 [some (.ref 238), some (.int x0), some (.int x1), some (.int x2), some (.int x3), some (.int x4), some (.int x5), some (.int (nI 0)), none] [.int (nI (am_b true))] _ _
          refine am_Rq.if1F (show decode (am_by 91) 102 = .ok (.ifCond .eq 5, 3) by decide +kernel) (by decide) (rfl) ?_
          refine am_Rq.blk (is := [(.iconst 0, 1)]) (q := (106, [some (.ref 238), some (.int x0), some (.int x1), some (.int x2), some (.int x3), some (.int x4), some (.int x5), some (.int (nI 0)), none], [.int (nI 0)])) (by decide +kernel) rfl ?_
          dsimp only
          refine am_Rq.ret (v := some (.int (nI 0))) (show decode (am_by 91) 106 = .ok (.ireturn, 1) by decide +kernel) rfl rfl ?_
          exact ⟨_, rfl, rfl, rfl⟩
      ·
        rw [am_b_eq, Bool.not_eq_false'] at e3
        refine am_Rq.blk (is := [(.iload 4, 2), (.iconst 0, 1), (.iconst 2, 1)]) (q := (36, [some (.ref 238), some (.int x0), some (.int x1), some (.int x2), some (.int x3), some (.int x4), some (.int x5), none, none], [.int (nI 2), .int (nI 0), .int x3])) (by decide +kernel) rfl ?_
        dsimp only
        refine am_Rq.callS (show decode (am_by 91) 36 = .ok (.invokestatic 39, 3) by decide +kernel) rfl [.int x3, .int (nI 0), .int (nI 2)] [] rfl rfl (Nat.le_of_ble_eq_true rfl) rfl rfl (m_in (x3) (nI 0) (nI 2)) ?_
        rintro hq _ ⟨e1, rfl⟩
        rw [e1]
        clear e1 hq
        show am_Rq _ 91 39 [some (.ref 238), some (.int x0), some (.int x1), some (.int x2), some (.int x3), some (.int x4), some (.int x5), none, none] [.int (nI (am_b (rg_r (nI 0) (nI 2) (x3))))] _ _
        refine am_Rq.if1 (t := 69) (show decode (am_by 91) 39 = .ok (.ifCond .eq 30, 3) by decide +kernel) (by decide) (fun e4 => ?_) (fun e4 => ?_)
        ·
          rw [am_b_eq, Bool.not_eq_true'] at e4
          refine am_Rq.blk (is := [(.iconst 0, 1), (.istore 7, 2), (.aload_n 0, 1), (.iload 7, 2)]) (q := (75, [some (.ref 238), some (.int x0), some (.int x1), some (.int x2), some (.int x3), some (.int x4), some (.int x5), some (.int (nI 0)), none], [.int (nI 0), .ref 238])) (by decide +kernel) rfl ?_
          dsimp only
          refine am_Rq.if1F (show decode (am_by 91) 75 = .ok (.ifCond .ne 7, 3) by decide +kernel) (by decide) (rfl) ?_
          refine am_Rq.blk (is := [(.iconst 1, 1), (.goto 4, 3)]) (q := (83, [some (.ref 238), some (.int x0), some (.int x1), some (.int x2), some (.int x3), some (.int x4), some (.int x5), some (.int (nI 0)), none], [.int (nI 1), .ref 238])) (by decide +kernel) rfl ?_
          dsimp only
          refine am_Rq.blk (is := [(.aload_n 0, 1)]) (q := (84, [some (.ref 238), some (.int x0), some (.int x1), some (.int x2), some (.int x3), some (.int x4), some (.int x5), some (.int (nI 0)), none], [.ref 238, .int (nI 1), .ref 238])) (by decide +kernel) rfl ?_
          dsimp only
          refine am_Rq.getf (v := .ref 239) (show decode (am_by 91) 84 = .ok (.getfield 7, 3) by decide +kernel) rfl hM rfl ?_
          refine am_Rq.blk (is := [(.iconst 0, 1)]) (q := (88, [some (.ref 238), some (.int x0), some (.int x1), some (.int x2), some (.int x3), some (.int x4), some (.int x5), some (.int (nI 0)), none], [.int (nI 0), .ref 239, .int (nI 1), .ref 238])) (by decide +kernel) rfl ?_
          dsimp only
          refine am_Rq.ial (k := 0) (show decode (am_by 91) 88 = .ok (.iaload, 1) by decide +kernel) hS (by omega) (by omega) ?_
          refine am_Rq.blk (is := [(.iconst 4, 1)]) (q := (90, [some (.ref 238), some (.int x0), some (.int x1), some (.int x2), some (.int x3), some (.int x4), some (.int x5), some (.int (nI 0)), none], [.int (nI 4), .int (nI (s 0)), .int (nI 1), .ref 238])) (by decide +kernel) rfl ?_
          dsimp only
          refine am_Rq.if2 (t := 97) (show decode (am_by 91) 90 = .ok (.if_icmp .ne 7, 3) by decide +kernel) (by decide) (fun e5 => ?_) (fun e5 => ?_)
          ·
            refine am_Rq.blk (is := [(.iconst 0, 1), (.iconst 0, 1)]) (q := (99, [some (.ref 238), some (.int x0), some (.int x1), some (.int x2), some (.int x3), some (.int x4), some (.int x5), some (.int (nI 0)), none], [.int (nI 0), .int (nI 0), .int (nI 1), .ref 238])) (by decide +kernel) rfl ?_
            dsimp only
            refine am_Rq.callV (show decode (am_by 91) 99 = .ok (.invokevirtual 57, 3) by decide +kernel) rfl [.int (nI (am_b true)), .int (nI (am_b false)), .int (nI (am_b false))] [] rfl rfl (Nat.le_of_ble_eq_true rfl) rfl hM rfl (m_refused hM true false false) ?_
            rintro _ _ ⟨rfl, rfl⟩
            have hM1 := am_ss (c' := (7, m_ob 1 kn co)) hM
            have hS1 := (am_sn (c' := (7, m_ob 1 kn co)) (show 238 ≠ 239 by decide)).trans hS
            show am_Rq _ 91 102 [some (.ref 238), some (.int x0), some (.int x1), some (.int x2), some (.int x3), some (.int x4), some (.int x5), some (.int (nI 0)), none] [.int (nI (am_b true))] _ _
            refine am_Rq.if1F (show decode (am_by 91) 102 = .ok (.ifCond .eq 5, 3) by decide +kernel) (by decide) (rfl) ?_
            refine am_Rq.blk (is := [(.iconst 0, 1)]) (q := (106, [some (.ref 238), some (.int x0), some (.int x1), some (.int x2), some (.int x3), some (.int x4), some (.int x5), some (.int (nI 0)), none], [.int (nI 0)])) (by decide +kernel) rfl ?_
            dsimp only
            refine am_Rq.ret (v := some (.int (nI 0))) (show decode (am_by 91) 106 = .ok (.ireturn, 1) by decide +kernel) rfl rfl ?_
            exact ⟨_, rfl, rfl, rfl⟩
          ·
            refine am_Rq.blk (is := [(.iconst 1, 1), (.goto 4, 3)]) (q := (98, [some (.ref 238), some (.int x0), some (.int x1), some (.int x2), some (.int x3), some (.int x4), some (.int x5), some (.int (nI 0)), none], [.int (nI 1), .int (nI 1), .ref 238])) (by decide +kernel) rfl ?_
            dsimp only
            refine am_Rq.blk (is := [(.iconst 0, 1)]) (q := (99, [some (.ref 238), some (.int x0), some (.int x1), some (.int x2), some (.int x3), some (.int x4), some (.int x5), some (.int (nI 0)), none], [.int (nI 0), .int (nI 1), .int (nI 1), .ref 238])) (by decide +kernel) rfl ?_
            dsimp only
            refine am_Rq.callV (show decode (am_by 91) 99 = .ok (.invokevirtual 57, 3) by decide +kernel) rfl [.int (nI (am_b true)), .int (nI (am_b true)), .int (nI (am_b false))] [] rfl rfl (Nat.le_of_ble_eq_true rfl) rfl hM rfl (m_refused hM true true false) ?_
            rintro _ _ ⟨rfl, rfl⟩
            have hM1 := am_ss (c' := (7, m_ob 1 kn co)) hM
            have hS1 := (am_sn (c' := (7, m_ob 1 kn co)) (show 238 ≠ 239 by decide)).trans hS
            show am_Rq _ 91 102 [some (.ref 238), some (.int x0), some (.int x1), some (.int x2), some (.int x3), some (.int x4), some (.int x5), some (.int (nI 0)), none] [.int (nI (am_b true))] _ _
            refine am_Rq.if1F (show decode (am_by 91) 102 = .ok (.ifCond .eq 5, 3) by decide +kernel) (by decide) (rfl) ?_
            refine am_Rq.blk (is := [(.iconst 0, 1)]) (q := (106, [some (.ref 238), some (.int x0), some (.int x1), some (.int x2), some (.int x3), some (.int x4), some (.int x5), some (.int (nI 0)), none], [.int (nI 0)])) (by decide +kernel) rfl ?_
            dsimp only
            refine am_Rq.ret (v := some (.int (nI 0))) (show decode (am_by 91) 106 = .ok (.ireturn, 1) by decide +kernel) rfl rfl ?_
            exact ⟨_, rfl, rfl, rfl⟩
        ·
          rw [am_b_eq, Bool.not_eq_false'] at e4
          refine am_Rq.blk (is := [(.iload 5, 2), (.bipush 100, 2), (.sipush 900, 3)]) (q := (49, [some (.ref 238), some (.int x0), some (.int x1), some (.int x2), some (.int x3), some (.int x4), some (.int x5), none, none], [.int (nI 900), .int (nI 100), .int x4])) (by decide +kernel) rfl ?_
          dsimp only
          refine am_Rq.callS (show decode (am_by 91) 49 = .ok (.invokestatic 39, 3) by decide +kernel) rfl [.int x4, .int (nI 100), .int (nI 900)] [] rfl rfl (Nat.le_of_ble_eq_true rfl) rfl rfl (m_in (x4) (nI 100) (nI 900)) ?_
          rintro hq _ ⟨e1, rfl⟩
          rw [e1]
          clear e1 hq
          show am_Rq _ 91 52 [some (.ref 238), some (.int x0), some (.int x1), some (.int x2), some (.int x3), some (.int x4), some (.int x5), none, none] [.int (nI (am_b (rg_r (nI 100) (nI 900) (x4))))] _ _
          refine am_Rq.if1 (t := 69) (show decode (am_by 91) 52 = .ok (.ifCond .eq 17, 3) by decide +kernel) (by decide) (fun e5 => ?_) (fun e5 => ?_)
          ·
            rw [am_b_eq, Bool.not_eq_true'] at e5
            refine am_Rq.blk (is := [(.iconst 0, 1), (.istore 7, 2), (.aload_n 0, 1), (.iload 7, 2)]) (q := (75, [some (.ref 238), some (.int x0), some (.int x1), some (.int x2), some (.int x3), some (.int x4), some (.int x5), some (.int (nI 0)), none], [.int (nI 0), .ref 238])) (by decide +kernel) rfl ?_
            dsimp only
            refine am_Rq.if1F (show decode (am_by 91) 75 = .ok (.ifCond .ne 7, 3) by decide +kernel) (by decide) (rfl) ?_
            refine am_Rq.blk (is := [(.iconst 1, 1), (.goto 4, 3)]) (q := (83, [some (.ref 238), some (.int x0), some (.int x1), some (.int x2), some (.int x3), some (.int x4), some (.int x5), some (.int (nI 0)), none], [.int (nI 1), .ref 238])) (by decide +kernel) rfl ?_
            dsimp only
            refine am_Rq.blk (is := [(.aload_n 0, 1)]) (q := (84, [some (.ref 238), some (.int x0), some (.int x1), some (.int x2), some (.int x3), some (.int x4), some (.int x5), some (.int (nI 0)), none], [.ref 238, .int (nI 1), .ref 238])) (by decide +kernel) rfl ?_
            dsimp only
            refine am_Rq.getf (v := .ref 239) (show decode (am_by 91) 84 = .ok (.getfield 7, 3) by decide +kernel) rfl hM rfl ?_
            refine am_Rq.blk (is := [(.iconst 0, 1)]) (q := (88, [some (.ref 238), some (.int x0), some (.int x1), some (.int x2), some (.int x3), some (.int x4), some (.int x5), some (.int (nI 0)), none], [.int (nI 0), .ref 239, .int (nI 1), .ref 238])) (by decide +kernel) rfl ?_
            dsimp only
            refine am_Rq.ial (k := 0) (show decode (am_by 91) 88 = .ok (.iaload, 1) by decide +kernel) hS (by omega) (by omega) ?_
            refine am_Rq.blk (is := [(.iconst 4, 1)]) (q := (90, [some (.ref 238), some (.int x0), some (.int x1), some (.int x2), some (.int x3), some (.int x4), some (.int x5), some (.int (nI 0)), none], [.int (nI 4), .int (nI (s 0)), .int (nI 1), .ref 238])) (by decide +kernel) rfl ?_
            dsimp only
            refine am_Rq.if2 (t := 97) (show decode (am_by 91) 90 = .ok (.if_icmp .ne 7, 3) by decide +kernel) (by decide) (fun e6 => ?_) (fun e6 => ?_)
            ·
              refine am_Rq.blk (is := [(.iconst 0, 1), (.iconst 0, 1)]) (q := (99, [some (.ref 238), some (.int x0), some (.int x1), some (.int x2), some (.int x3), some (.int x4), some (.int x5), some (.int (nI 0)), none], [.int (nI 0), .int (nI 0), .int (nI 1), .ref 238])) (by decide +kernel) rfl ?_
              dsimp only
              refine am_Rq.callV (show decode (am_by 91) 99 = .ok (.invokevirtual 57, 3) by decide +kernel) rfl [.int (nI (am_b true)), .int (nI (am_b false)), .int (nI (am_b false))] [] rfl rfl (Nat.le_of_ble_eq_true rfl) rfl hM rfl (m_refused hM true false false) ?_
              rintro _ _ ⟨rfl, rfl⟩
              have hM1 := am_ss (c' := (7, m_ob 1 kn co)) hM
              have hS1 := (am_sn (c' := (7, m_ob 1 kn co)) (show 238 ≠ 239 by decide)).trans hS
              show am_Rq _ 91 102 [some (.ref 238), some (.int x0), some (.int x1), some (.int x2), some (.int x3), some (.int x4), some (.int x5), some (.int (nI 0)), none] [.int (nI (am_b true))] _ _
              refine am_Rq.if1F (show decode (am_by 91) 102 = .ok (.ifCond .eq 5, 3) by decide +kernel) (by decide) (rfl) ?_
              refine am_Rq.blk (is := [(.iconst 0, 1)]) (q := (106, [some (.ref 238), some (.int x0), some (.int x1), some (.int x2), some (.int x3), some (.int x4), some (.int x5), some (.int (nI 0)), none], [.int (nI 0)])) (by decide +kernel) rfl ?_
              dsimp only
              refine am_Rq.ret (v := some (.int (nI 0))) (show decode (am_by 91) 106 = .ok (.ireturn, 1) by decide +kernel) rfl rfl ?_
              exact ⟨_, rfl, rfl, rfl⟩
            ·
              refine am_Rq.blk (is := [(.iconst 1, 1), (.goto 4, 3)]) (q := (98, [some (.ref 238), some (.int x0), some (.int x1), some (.int x2), some (.int x3), some (.int x4), some (.int x5), some (.int (nI 0)), none], [.int (nI 1), .int (nI 1), .ref 238])) (by decide +kernel) rfl ?_
              dsimp only
              refine am_Rq.blk (is := [(.iconst 0, 1)]) (q := (99, [some (.ref 238), some (.int x0), some (.int x1), some (.int x2), some (.int x3), some (.int x4), some (.int x5), some (.int (nI 0)), none], [.int (nI 0), .int (nI 1), .int (nI 1), .ref 238])) (by decide +kernel) rfl ?_
              dsimp only
              refine am_Rq.callV (show decode (am_by 91) 99 = .ok (.invokevirtual 57, 3) by decide +kernel) rfl [.int (nI (am_b true)), .int (nI (am_b true)), .int (nI (am_b false))] [] rfl rfl (Nat.le_of_ble_eq_true rfl) rfl hM rfl (m_refused hM true true false) ?_
              rintro _ _ ⟨rfl, rfl⟩
              have hM1 := am_ss (c' := (7, m_ob 1 kn co)) hM
              have hS1 := (am_sn (c' := (7, m_ob 1 kn co)) (show 238 ≠ 239 by decide)).trans hS
              show am_Rq _ 91 102 [some (.ref 238), some (.int x0), some (.int x1), some (.int x2), some (.int x3), some (.int x4), some (.int x5), some (.int (nI 0)), none] [.int (nI (am_b true))] _ _
              refine am_Rq.if1F (show decode (am_by 91) 102 = .ok (.ifCond .eq 5, 3) by decide +kernel) (by decide) (rfl) ?_
              refine am_Rq.blk (is := [(.iconst 0, 1)]) (q := (106, [some (.ref 238), some (.int x0), some (.int x1), some (.int x2), some (.int x3), some (.int x4), some (.int x5), some (.int (nI 0)), none], [.int (nI 0)])) (by decide +kernel) rfl ?_
              dsimp only
              refine am_Rq.ret (v := some (.int (nI 0))) (show decode (am_by 91) 106 = .ok (.ireturn, 1) by decide +kernel) rfl rfl ?_
              exact ⟨_, rfl, rfl, rfl⟩
          ·
            rw [am_b_eq, Bool.not_eq_false'] at e5
            refine am_Rq.blk (is := [(.iload 6, 2), (.iconst 0, 1), (.iconst 2, 1)]) (q := (59, [some (.ref 238), some (.int x0), some (.int x1), some (.int x2), some (.int x3), some (.int x4), some (.int x5), none, none], [.int (nI 2), .int (nI 0), .int x5])) (by decide +kernel) rfl ?_
            dsimp only
            refine am_Rq.callS (show decode (am_by 91) 59 = .ok (.invokestatic 39, 3) by decide +kernel) rfl [.int x5, .int (nI 0), .int (nI 2)] [] rfl rfl (Nat.le_of_ble_eq_true rfl) rfl rfl (m_in (x5) (nI 0) (nI 2)) ?_
            rintro hq _ ⟨e1, rfl⟩
            rw [e1]
            clear e1 hq
            show am_Rq _ 91 62 [some (.ref 238), some (.int x0), some (.int x1), some (.int x2), some (.int x3), some (.int x4), some (.int x5), none, none] [.int (nI (am_b (rg_r (nI 0) (nI 2) (x5))))] _ _
            refine am_Rq.if1 (t := 69) (show decode (am_by 91) 62 = .ok (.ifCond .eq 7, 3) by decide +kernel) (by decide) (fun e6 => ?_) (fun e6 => ?_)
            ·
              rw [am_b_eq, Bool.not_eq_true'] at e6
              refine am_Rq.blk (is := [(.iconst 0, 1), (.istore 7, 2), (.aload_n 0, 1), (.iload 7, 2)]) (q := (75, [some (.ref 238), some (.int x0), some (.int x1), some (.int x2), some (.int x3), some (.int x4), some (.int x5), some (.int (nI 0)), none], [.int (nI 0), .ref 238])) (by decide +kernel) rfl ?_
              dsimp only
              refine am_Rq.if1F (show decode (am_by 91) 75 = .ok (.ifCond .ne 7, 3) by decide +kernel) (by decide) (rfl) ?_
              refine am_Rq.blk (is := [(.iconst 1, 1), (.goto 4, 3)]) (q := (83, [some (.ref 238), some (.int x0), some (.int x1), some (.int x2), some (.int x3), some (.int x4), some (.int x5), some (.int (nI 0)), none], [.int (nI 1), .ref 238])) (by decide +kernel) rfl ?_
              dsimp only
              refine am_Rq.blk (is := [(.aload_n 0, 1)]) (q := (84, [some (.ref 238), some (.int x0), some (.int x1), some (.int x2), some (.int x3), some (.int x4), some (.int x5), some (.int (nI 0)), none], [.ref 238, .int (nI 1), .ref 238])) (by decide +kernel) rfl ?_
              dsimp only
              refine am_Rq.getf (v := .ref 239) (show decode (am_by 91) 84 = .ok (.getfield 7, 3) by decide +kernel) rfl hM rfl ?_
              refine am_Rq.blk (is := [(.iconst 0, 1)]) (q := (88, [some (.ref 238), some (.int x0), some (.int x1), some (.int x2), some (.int x3), some (.int x4), some (.int x5), some (.int (nI 0)), none], [.int (nI 0), .ref 239, .int (nI 1), .ref 238])) (by decide +kernel) rfl ?_
              dsimp only
              refine am_Rq.ial (k := 0) (show decode (am_by 91) 88 = .ok (.iaload, 1) by decide +kernel) hS (by omega) (by omega) ?_
              refine am_Rq.blk (is := [(.iconst 4, 1)]) (q := (90, [some (.ref 238), some (.int x0), some (.int x1), some (.int x2), some (.int x3), some (.int x4), some (.int x5), some (.int (nI 0)), none], [.int (nI 4), .int (nI (s 0)), .int (nI 1), .ref 238])) (by decide +kernel) rfl ?_
              dsimp only
              refine am_Rq.if2 (t := 97) (show decode (am_by 91) 90 = .ok (.if_icmp .ne 7, 3) by decide +kernel) (by decide) (fun e7 => ?_) (fun e7 => ?_)
              ·
                refine am_Rq.blk (is := [(.iconst 0, 1), (.iconst 0, 1)]) (q := (99, [some (.ref 238), some (.int x0), some (.int x1), some (.int x2), some (.int x3), some (.int x4), some (.int x5), some (.int (nI 0)), none], [.int (nI 0), .int (nI 0), .int (nI 1), .ref 238])) (by decide +kernel) rfl ?_
                dsimp only
                refine am_Rq.callV (show decode (am_by 91) 99 = .ok (.invokevirtual 57, 3) by decide +kernel) rfl [.int (nI (am_b true)), .int (nI (am_b false)), .int (nI (am_b false))] [] rfl rfl (Nat.le_of_ble_eq_true rfl) rfl hM rfl (m_refused hM true false false) ?_
                rintro _ _ ⟨rfl, rfl⟩
                have hM1 := am_ss (c' := (7, m_ob 1 kn co)) hM
                have hS1 := (am_sn (c' := (7, m_ob 1 kn co)) (show 238 ≠ 239 by decide)).trans hS
                show am_Rq _ 91 102 [some (.ref 238), some (.int x0), some (.int x1), some (.int x2), some (.int x3), some (.int x4), some (.int x5), some (.int (nI 0)), none] [.int (nI (am_b true))] _ _
                refine am_Rq.if1F (show decode (am_by 91) 102 = .ok (.ifCond .eq 5, 3) by decide +kernel) (by decide) (rfl) ?_
                refine am_Rq.blk (is := [(.iconst 0, 1)]) (q := (106, [some (.ref 238), some (.int x0), some (.int x1), some (.int x2), some (.int x3), some (.int x4), some (.int x5), some (.int (nI 0)), none], [.int (nI 0)])) (by decide +kernel) rfl ?_
                dsimp only
                refine am_Rq.ret (v := some (.int (nI 0))) (show decode (am_by 91) 106 = .ok (.ireturn, 1) by decide +kernel) rfl rfl ?_
                exact ⟨_, rfl, rfl, rfl⟩
              ·
                refine am_Rq.blk (is := [(.iconst 1, 1), (.goto 4, 3)]) (q := (98, [some (.ref 238), some (.int x0), some (.int x1), some (.int x2), some (.int x3), some (.int x4), some (.int x5), some (.int (nI 0)), none], [.int (nI 1), .int (nI 1), .ref 238])) (by decide +kernel) rfl ?_
                dsimp only
                refine am_Rq.blk (is := [(.iconst 0, 1)]) (q := (99, [some (.ref 238), some (.int x0), some (.int x1), some (.int x2), some (.int x3), some (.int x4), some (.int x5), some (.int (nI 0)), none], [.int (nI 0), .int (nI 1), .int (nI 1), .ref 238])) (by decide +kernel) rfl ?_
                dsimp only
                refine am_Rq.callV (show decode (am_by 91) 99 = .ok (.invokevirtual 57, 3) by decide +kernel) rfl [.int (nI (am_b true)), .int (nI (am_b true)), .int (nI (am_b false))] [] rfl rfl (Nat.le_of_ble_eq_true rfl) rfl hM rfl (m_refused hM true true false) ?_
                rintro _ _ ⟨rfl, rfl⟩
                have hM1 := am_ss (c' := (7, m_ob 1 kn co)) hM
                have hS1 := (am_sn (c' := (7, m_ob 1 kn co)) (show 238 ≠ 239 by decide)).trans hS
                show am_Rq _ 91 102 [some (.ref 238), some (.int x0), some (.int x1), some (.int x2), some (.int x3), some (.int x4), some (.int x5), some (.int (nI 0)), none] [.int (nI (am_b true))] _ _
                refine am_Rq.if1F (show decode (am_by 91) 102 = .ok (.ifCond .eq 5, 3) by decide +kernel) (by decide) (rfl) ?_
                refine am_Rq.blk (is := [(.iconst 0, 1)]) (q := (106, [some (.ref 238), some (.int x0), some (.int x1), some (.int x2), some (.int x3), some (.int x4), some (.int x5), some (.int (nI 0)), none], [.int (nI 0)])) (by decide +kernel) rfl ?_
                dsimp only
                refine am_Rq.ret (v := some (.int (nI 0))) (show decode (am_by 91) 106 = .ok (.ireturn, 1) by decide +kernel) rfl rfl ?_
                exact ⟨_, rfl, rfl, rfl⟩
            ·
              rw [am_b_eq, Bool.not_eq_false'] at e6
              refine am_Rq.blk (is := [(.iconst 1, 1), (.goto 4, 3)]) (q := (70, [some (.ref 238), some (.int x0), some (.int x1), some (.int x2), some (.int x3), some (.int x4), some (.int x5), none, none], [.int (nI 1)])) (by decide +kernel) rfl ?_
              dsimp only
              refine am_Rq.blk (is := [(.istore 7, 2), (.aload_n 0, 1), (.iload 7, 2)]) (q := (75, [some (.ref 238), some (.int x0), some (.int x1), some (.int x2), some (.int x3), some (.int x4), some (.int x5), some (.int (nI 1)), none], [.int (nI 1), .ref 238])) (by decide +kernel) rfl ?_
              dsimp only
              refine am_Rq.if1T (t := 82) (show decode (am_by 91) 75 = .ok (.ifCond .ne 7, 3) by decide +kernel) (by decide) (rfl) ?_
              refine am_Rq.blk (is := [(.iconst 0, 1), (.aload_n 0, 1)]) (q := (84, [some (.ref 238), some (.int x0), some (.int x1), some (.int x2), some (.int x3), some (.int x4), some (.int x5), some (.int (nI 1)), none], [.ref 238, .int (nI 0), .ref 238])) (by decide +kernel) rfl ?_
              dsimp only
              refine am_Rq.getf (v := .ref 239) (show decode (am_by 91) 84 = .ok (.getfield 7, 3) by decide +kernel) rfl hM rfl ?_
              refine am_Rq.blk (is := [(.iconst 0, 1)]) (q := (88, [some (.ref 238), some (.int x0), some (.int x1), some (.int x2), some (.int x3), some (.int x4), some (.int x5), some (.int (nI 1)), none], [.int (nI 0), .ref 239, .int (nI 0), .ref 238])) (by decide +kernel) rfl ?_
              dsimp only
              refine am_Rq.ial (k := 0) (show decode (am_by 91) 88 = .ok (.iaload, 1) by decide +kernel) hS (by omega) (by omega) ?_
              refine am_Rq.blk (is := [(.iconst 4, 1)]) (q := (90, [some (.ref 238), some (.int x0), some (.int x1), some (.int x2), some (.int x3), some (.int x4), some (.int x5), some (.int (nI 1)), none], [.int (nI 4), .int (nI (s 0)), .int (nI 0), .ref 238])) (by decide +kernel) rfl ?_
              dsimp only
              refine am_Rq.if2 (t := 97) (show decode (am_by 91) 90 = .ok (.if_icmp .ne 7, 3) by decide +kernel) (by decide) (fun e7 => ?_) (fun e7 => ?_)
              ·
                refine am_Rq.blk (is := [(.iconst 0, 1), (.iconst 0, 1)]) (q := (99, [some (.ref 238), some (.int x0), some (.int x1), some (.int x2), some (.int x3), some (.int x4), some (.int x5), some (.int (nI 1)), none], [.int (nI 0), .int (nI 0), .int (nI 0), .ref 238])) (by decide +kernel) rfl ?_
                dsimp only
                rw [e1, e2, e3, e4, e5, e6] at hx
                cases hx
              ·
                refine am_Rq.blk (is := [(.iconst 1, 1), (.goto 4, 3)]) (q := (98, [some (.ref 238), some (.int x0), some (.int x1), some (.int x2), some (.int x3), some (.int x4), some (.int x5), some (.int (nI 1)), none], [.int (nI 1), .int (nI 0), .ref 238])) (by decide +kernel) rfl ?_
                dsimp only
                refine am_Rq.blk (is := [(.iconst 0, 1)]) (q := (99, [some (.ref 238), some (.int x0), some (.int x1), some (.int x2), some (.int x3), some (.int x4), some (.int x5), some (.int (nI 1)), none], [.int (nI 0), .int (nI 1), .int (nI 0), .ref 238])) (by decide +kernel) rfl ?_
                dsimp only
                rw [e1, e2, e3, e4, e5, e6] at hx
                cases hx
theorem m_preferred_no2 {th kn co : Nat} (hM : hp[238]? = some (7, [.int (nI th), .ref 239, .ref 240, .int (nI kn), .ref 241, .ref 242, .ref 243, .ref 244, .long (lN co), .ref 245])) {s : Nat → Nat} (hS : hp[239]? = some (100, am_ia (fun i => nI (s i)) 160)) {p0 p1 p2 p3 p4 p5 : Nat} (l0 : 1 ≤ p0) (u0 : p0 ≤ 1000) (l1 : 50 ≤ p1) (u1 : p1 ≤ 300) (l2 : 0 ≤ p2) (u2 : p2 ≤ 3) (l3 : 0 ≤ p3) (u3 : p3 ≤ 2) (l4 : 100 ≤ p4) (u4 : p4 ≤ 900) (l5 : 0 ≤ p5) (u5 : p5 ≤ 2) (h4 : s 0 = 4) : am_Rq (d + 2) 91 0 (am_en [.ref 238, .int (nI p0), .int (nI p1), .int (nI p2), .int (nI p3), .int (nI p4), .int (nI p5)] 9) [] hp (am_Ret fun hp1 v => hp1 = hp.set 238 (7, m_ob 2 kn co) ∧ v = some (.int (nI (0)))) := by
  show am_Rq _ 91 0 [some (.ref 238), some (.int (nI p0)), some (.int (nI p1)), some (.int (nI p2)), some (.int (nI p3)), some (.int (nI p4)), some (.int (nI p5)), none, none] [] _ _
  refine am_Rq.blk (is := [(.iload_n 1, 1), (.iconst 1, 1), (.sipush 1000, 3)]) (q := (5, [some (.ref 238), some (.int (nI p0)), some (.int (nI p1)), some (.int (nI p2)), some (.int (nI p3)), some (.int (nI p4)), some (.int (nI p5)), none, none], [.int (nI 1000), .int (nI 1), .int (nI p0)])) (by decide +kernel) rfl ?_
  dsimp only
  refine am_Rq.callS (show decode (am_by 91) 5 = .ok (.invokestatic 39, 3) by decide +kernel) rfl [.int (nI p0), .int (nI 1), .int (nI 1000)] [] rfl rfl (Nat.le_of_ble_eq_true rfl) rfl rfl (m_in (nI p0) (nI 1) (nI 1000)) ?_
  rintro hq _ ⟨e1, rfl⟩
  rw [e1]
  clear e1 hq
  show am_Rq _ 91 8 [some (.ref 238), some (.int (nI p0)), some (.int (nI p1)), some (.int (nI p2)), some (.int (nI p3)), some (.int (nI p4)), some (.int (nI p5)), none, none] [.int (nI (am_b (rg_r (nI 1) (nI 1000) (nI p0))))] _ _
  refine am_Rq.if1F (show decode (am_by 91) 8 = .ok (.ifCond .eq 61, 3) by decide +kernel) (by decide) (by rw [am_b_eq, rg_le l0 u0 (by omega)]; rfl) ?_
  refine am_Rq.blk (is := [(.iload_n 2, 1), (.bipush 50, 2), (.sipush 300, 3)]) (q := (17, [some (.ref 238), some (.int (nI p0)), some (.int (nI p1)), some (.int (nI p2)), some (.int (nI p3)), some (.int (nI p4)), some (.int (nI p5)), none, none], [.int (nI 300), .int (nI 50), .int (nI p1)])) (by decide +kernel) rfl ?_
  dsimp only
  refine am_Rq.callS (show decode (am_by 91) 17 = .ok (.invokestatic 39, 3) by decide +kernel) rfl [.int (nI p1), .int (nI 50), .int (nI 300)] [] rfl rfl (Nat.le_of_ble_eq_true rfl) rfl rfl (m_in (nI p1) (nI 50) (nI 300)) ?_
  rintro hq _ ⟨e1, rfl⟩
  rw [e1]
  clear e1 hq
  show am_Rq _ 91 20 [some (.ref 238), some (.int (nI p0)), some (.int (nI p1)), some (.int (nI p2)), some (.int (nI p3)), some (.int (nI p4)), some (.int (nI p5)), none, none] [.int (nI (am_b (rg_r (nI 50) (nI 300) (nI p1))))] _ _
  refine am_Rq.if1F (show decode (am_by 91) 20 = .ok (.ifCond .eq 49, 3) by decide +kernel) (by decide) (by rw [am_b_eq, rg_le l1 u1 (by omega)]; rfl) ?_
  refine am_Rq.blk (is := [(.iload_n 3, 1), (.iconst 0, 1), (.iconst 3, 1)]) (q := (26, [some (.ref 238), some (.int (nI p0)), some (.int (nI p1)), some (.int (nI p2)), some (.int (nI p3)), some (.int (nI p4)), some (.int (nI p5)), none, none], [.int (nI 3), .int (nI 0), .int (nI p2)])) (by decide +kernel) rfl ?_
  dsimp only
  refine am_Rq.callS (show decode (am_by 91) 26 = .ok (.invokestatic 39, 3) by decide +kernel) rfl [.int (nI p2), .int (nI 0), .int (nI 3)] [] rfl rfl (Nat.le_of_ble_eq_true rfl) rfl rfl (m_in (nI p2) (nI 0) (nI 3)) ?_
  rintro hq _ ⟨e1, rfl⟩
  rw [e1]
  clear e1 hq
  show am_Rq _ 91 29 [some (.ref 238), some (.int (nI p0)), some (.int (nI p1)), some (.int (nI p2)), some (.int (nI p3)), some (.int (nI p4)), some (.int (nI p5)), none, none] [.int (nI (am_b (rg_r (nI 0) (nI 3) (nI p2))))] _ _
  refine am_Rq.if1F (show decode (am_by 91) 29 = .ok (.ifCond .eq 40, 3) by decide +kernel) (by decide) (by rw [am_b_eq, rg_le l2 u2 (by omega)]; rfl) ?_
  refine am_Rq.blk (is := [(.iload 4, 2), (.iconst 0, 1), (.iconst 2, 1)]) (q := (36, [some (.ref 238), some (.int (nI p0)), some (.int (nI p1)), some (.int (nI p2)), some (.int (nI p3)), some (.int (nI p4)), some (.int (nI p5)), none, none], [.int (nI 2), .int (nI 0), .int (nI p3)])) (by decide +kernel) rfl ?_
  dsimp only
  refine am_Rq.callS (show decode (am_by 91) 36 = .ok (.invokestatic 39, 3) by decide +kernel) rfl [.int (nI p3), .int (nI 0), .int (nI 2)] [] rfl rfl (Nat.le_of_ble_eq_true rfl) rfl rfl (m_in (nI p3) (nI 0) (nI 2)) ?_
  rintro hq _ ⟨e1, rfl⟩
  rw [e1]
  clear e1 hq
  show am_Rq _ 91 39 [some (.ref 238), some (.int (nI p0)), some (.int (nI p1)), some (.int (nI p2)), some (.int (nI p3)), some (.int (nI p4)), some (.int (nI p5)), none, none] [.int (nI (am_b (rg_r (nI 0) (nI 2) (nI p3))))] _ _
  refine am_Rq.if1F (show decode (am_by 91) 39 = .ok (.ifCond .eq 30, 3) by decide +kernel) (by decide) (by rw [am_b_eq, rg_le l3 u3 (by omega)]; rfl) ?_
  refine am_Rq.blk (is := [(.iload 5, 2), (.bipush 100, 2), (.sipush 900, 3)]) (q := (49, [some (.ref 238), some (.int (nI p0)), some (.int (nI p1)), some (.int (nI p2)), some (.int (nI p3)), some (.int (nI p4)), some (.int (nI p5)), none, none], [.int (nI 900), .int (nI 100), .int (nI p4)])) (by decide +kernel) rfl ?_
  dsimp only
  refine am_Rq.callS (show decode (am_by 91) 49 = .ok (.invokestatic 39, 3) by decide +kernel) rfl [.int (nI p4), .int (nI 100), .int (nI 900)] [] rfl rfl (Nat.le_of_ble_eq_true rfl) rfl rfl (m_in (nI p4) (nI 100) (nI 900)) ?_
  rintro hq _ ⟨e1, rfl⟩
  rw [e1]
  clear e1 hq
  show am_Rq _ 91 52 [some (.ref 238), some (.int (nI p0)), some (.int (nI p1)), some (.int (nI p2)), some (.int (nI p3)), some (.int (nI p4)), some (.int (nI p5)), none, none] [.int (nI (am_b (rg_r (nI 100) (nI 900) (nI p4))))] _ _
  refine am_Rq.if1F (show decode (am_by 91) 52 = .ok (.ifCond .eq 17, 3) by decide +kernel) (by decide) (by rw [am_b_eq, rg_le l4 u4 (by omega)]; rfl) ?_
  refine am_Rq.blk (is := [(.iload 6, 2), (.iconst 0, 1), (.iconst 2, 1)]) (q := (59, [some (.ref 238), some (.int (nI p0)), some (.int (nI p1)), some (.int (nI p2)), some (.int (nI p3)), some (.int (nI p4)), some (.int (nI p5)), none, none], [.int (nI 2), .int (nI 0), .int (nI p5)])) (by decide +kernel) rfl ?_
  dsimp only
  refine am_Rq.callS (show decode (am_by 91) 59 = .ok (.invokestatic 39, 3) by decide +kernel) rfl [.int (nI p5), .int (nI 0), .int (nI 2)] [] rfl rfl (Nat.le_of_ble_eq_true rfl) rfl rfl (m_in (nI p5) (nI 0) (nI 2)) ?_
  rintro hq _ ⟨e1, rfl⟩
  rw [e1]
  clear e1 hq
  show am_Rq _ 91 62 [some (.ref 238), some (.int (nI p0)), some (.int (nI p1)), some (.int (nI p2)), some (.int (nI p3)), some (.int (nI p4)), some (.int (nI p5)), none, none] [.int (nI (am_b (rg_r (nI 0) (nI 2) (nI p5))))] _ _
  refine am_Rq.if1F (show decode (am_by 91) 62 = .ok (.ifCond .eq 7, 3) by decide +kernel) (by decide) (by rw [am_b_eq, rg_le l5 u5 (by omega)]; rfl) ?_
  refine am_Rq.blk (is := [(.iconst 1, 1), (.goto 4, 3)]) (q := (70, [some (.ref 238), some (.int (nI p0)), some (.int (nI p1)), some (.int (nI p2)), some (.int (nI p3)), some (.int (nI p4)), some (.int (nI p5)), none, none], [.int (nI 1)])) (by decide +kernel) rfl ?_
  dsimp only
  refine am_Rq.blk (is := [(.istore 7, 2), (.aload_n 0, 1), (.iload 7, 2)]) (q := (75, [some (.ref 238), some (.int (nI p0)), some (.int (nI p1)), some (.int (nI p2)), some (.int (nI p3)), some (.int (nI p4)), some (.int (nI p5)), some (.int (nI 1)), none], [.int (nI 1), .ref 238])) (by decide +kernel) rfl ?_
  dsimp only
  refine am_Rq.if1T (t := 82) (show decode (am_by 91) 75 = .ok (.ifCond .ne 7, 3) by decide +kernel) (by decide) (rfl) ?_
  refine am_Rq.blk (is := [(.iconst 0, 1), (.aload_n 0, 1)]) (q := (84, [some (.ref 238), some (.int (nI p0)), some (.int (nI p1)), some (.int (nI p2)), some (.int (nI p3)), some (.int (nI p4)), some (.int (nI p5)), some (.int (nI 1)), none], [.ref 238, .int (nI 0), .ref 238])) (by decide +kernel) rfl ?_
  dsimp only
  refine am_Rq.getf (v := .ref 239) (show decode (am_by 91) 84 = .ok (.getfield 7, 3) by decide +kernel) rfl hM rfl ?_
  refine am_Rq.blk (is := [(.iconst 0, 1)]) (q := (88, [some (.ref 238), some (.int (nI p0)), some (.int (nI p1)), some (.int (nI p2)), some (.int (nI p3)), some (.int (nI p4)), some (.int (nI p5)), some (.int (nI 1)), none], [.int (nI 0), .ref 239, .int (nI 0), .ref 238])) (by decide +kernel) rfl ?_
  dsimp only
  refine am_Rq.ial (k := 0) (show decode (am_by 91) 88 = .ok (.iaload, 1) by decide +kernel) hS (by omega) (by omega) ?_
  refine am_Rq.blk (is := [(.iconst 4, 1)]) (q := (90, [some (.ref 238), some (.int (nI p0)), some (.int (nI p1)), some (.int (nI p2)), some (.int (nI p3)), some (.int (nI p4)), some (.int (nI p5)), some (.int (nI 1)), none], [.int (nI 4), .int (nI (s 0)), .int (nI 0), .ref 238])) (by decide +kernel) rfl ?_
  dsimp only
  refine am_Rq.if2F (show decode (am_by 91) 90 = .ok (.if_icmp .ne 7, 3) by decide +kernel) (by decide) (by rw [nm_ne (by omega) (by omega)]; exact decide_eq_false (by omega)) ?_
  refine am_Rq.blk (is := [(.iconst 1, 1), (.goto 4, 3)]) (q := (98, [some (.ref 238), some (.int (nI p0)), some (.int (nI p1)), some (.int (nI p2)), some (.int (nI p3)), some (.int (nI p4)), some (.int (nI p5)), some (.int (nI 1)), none], [.int (nI 1), .int (nI 0), .ref 238])) (by decide +kernel) rfl ?_
  dsimp only
  refine am_Rq.blk (is := [(.iconst 0, 1)]) (q := (99, [some (.ref 238), some (.int (nI p0)), some (.int (nI p1)), some (.int (nI p2)), some (.int (nI p3)), some (.int (nI p4)), some (.int (nI p5)), some (.int (nI 1)), none], [.int (nI 0), .int (nI 1), .int (nI 0), .ref 238])) (by decide +kernel) rfl ?_
  dsimp only
  refine am_Rq.callV (show decode (am_by 91) 99 = .ok (.invokevirtual 57, 3) by decide +kernel) rfl [.int (nI (am_b false)), .int (nI (am_b true)), .int (nI (am_b false))] [] rfl rfl (Nat.le_of_ble_eq_true rfl) rfl hM rfl (m_refused hM false true false) ?_
  rintro _ _ ⟨rfl, rfl⟩
  have hM1 := am_ss (c' := (7, m_ob 2 kn co)) hM
  have hS1 := (am_sn (c' := (7, m_ob 2 kn co)) (show 238 ≠ 239 by decide)).trans hS
  show am_Rq _ 91 102 [some (.ref 238), some (.int (nI p0)), some (.int (nI p1)), some (.int (nI p2)), some (.int (nI p3)), some (.int (nI p4)), some (.int (nI p5)), some (.int (nI 1)), none] [.int (nI (am_b true))] _ _
  refine am_Rq.if1F (show decode (am_by 91) 102 = .ok (.ifCond .eq 5, 3) by decide +kernel) (by decide) (rfl) ?_
  refine am_Rq.blk (is := [(.iconst 0, 1)]) (q := (106, [some (.ref 238), some (.int (nI p0)), some (.int (nI p1)), some (.int (nI p2)), some (.int (nI p3)), some (.int (nI p4)), some (.int (nI p5)), some (.int (nI 1)), none], [.int (nI 0)])) (by decide +kernel) rfl ?_
  dsimp only
  refine am_Rq.ret (v := some (.int (nI 0))) (show decode (am_by 91) 106 = .ok (.ireturn, 1) by decide +kernel) rfl rfl ?_
  exact ⟨_, rfl, rfl, rfl⟩
theorem m_grant_no1 {th kn co : Nat} (hM : hp[238]? = some (7, [.int (nI th), .ref 239, .ref 240, .int (nI kn), .ref 241, .ref 242, .ref 243, .ref 244, .long (lN co), .ref 245])) {s : Nat → Nat} (hS : hp[239]? = some (100, am_ia (fun i => nI (s i)) 160)) (h82 : s 82 ≤ 10) {x y u z : Int32} (hx : rg_r (nI 0) (nI 7) x = false) : am_Rq (d + 2) 107 0 (am_en [.ref 238, .int x, .int y, .int u, .int z] 7) [] hp (am_Ret fun hp1 v => hp1 = hp.set 238 (7, m_ob 1 kn co) ∧ v = some (.int (nI (0)))) := by
  show am_Rq _ 107 0 [some (.ref 238), some (.int x), some (.int y), some (.int u), some (.int z), none, none] [] _ _
  refine am_Rq.blk (is := [(.iload_n 2, 1), (.iconst 1, 1), (.sipush 2000, 3)]) (q := (5, [some (.ref 238), some (.int x), some (.int y), some (.int u), some (.int z), none, none], [.int (nI 2000), .int (nI 1), .int y])) (by decide +kernel) rfl ?_
  dsimp only
  refine am_Rq.callS (show decode (am_by 107) 5 = .ok (.invokestatic 39, 3) by decide +kernel) rfl [.int y, .int (nI 1), .int (nI 2000)] [] rfl rfl (Nat.le_of_ble_eq_true rfl) rfl rfl (m_in (y) (nI 1) (nI 2000)) ?_
  rintro hq _ ⟨e1, rfl⟩
  rw [e1]
  clear e1 hq
  show am_Rq _ 107 8 [some (.ref 238), some (.int x), some (.int y), some (.int u), some (.int z), none, none] [.int (nI (am_b (rg_r (nI 1) (nI 2000) (y))))] _ _
  refine am_Rq.if1 (t := 42) (show decode (am_by 107) 8 = .ok (.ifCond .eq 34, 3) by decide +kernel) (by decide) (fun e1 => ?_) (fun e1 => ?_)
  ·
    rw [am_b_eq, Bool.not_eq_true'] at e1
    refine am_Rq.blk (is := [(.iconst 0, 1), (.istore 5, 2), (.aload_n 0, 1), (.iload_n 1, 1)]) (q := (47, [some (.ref 238), some (.int x), some (.int y), some (.int u), some (.int z), some (.int (nI 0)), none], [.int x, .ref 238])) (by decide +kernel) rfl ?_
    dsimp only
    refine am_Rq.callS (show decode (am_by 107) 47 = .ok (.invokestatic 68, 3) by decide +kernel) rfl [.int x] [.ref 238] rfl rfl (Nat.le_of_ble_eq_true rfl) rfl rfl (m_isHolder (x)) ?_
    rintro hq _ ⟨e1, rfl⟩
    rw [e1]
    clear e1 hq
    show am_Rq _ 107 50 [some (.ref 238), some (.int x), some (.int y), some (.int u), some (.int z), some (.int (nI 0)), none] [.int (nI (am_b (rg_r (nI 0) (nI 7) (x)))), .ref 238] _ _
    refine am_Rq.if1F (show decode (am_by 107) 50 = .ok (.ifCond .ne 7, 3) by decide +kernel) (by decide) (by rw [am_b_ne, hx]) ?_
    refine am_Rq.blk (is := [(.iconst 1, 1), (.goto 4, 3)]) (q := (58, [some (.ref 238), some (.int x), some (.int y), some (.int u), some (.int z), some (.int (nI 0)), none], [.int (nI 1), .ref 238])) (by decide +kernel) rfl ?_
    dsimp only
    refine am_Rq.blk (is := [(.iload 5, 2)]) (q := (60, [some (.ref 238), some (.int x), some (.int y), some (.int u), some (.int z), some (.int (nI 0)), none], [.int (nI 0), .int (nI 1), .ref 238])) (by decide +kernel) rfl ?_
    dsimp only
    refine am_Rq.if1F (show decode (am_by 107) 60 = .ok (.ifCond .ne 7, 3) by decide +kernel) (by decide) (rfl) ?_
    refine am_Rq.blk (is := [(.iconst 1, 1), (.goto 4, 3)]) (q := (68, [some (.ref 238), some (.int x), some (.int y), some (.int u), some (.int z), some (.int (nI 0)), none], [.int (nI 1), .int (nI 1), .ref 238])) (by decide +kernel) rfl ?_
    dsimp only
    refine am_Rq.blk (is := [(.aload_n 0, 1)]) (q := (69, [some (.ref 238), some (.int x), some (.int y), some (.int u), some (.int z), some (.int (nI 0)), none], [.ref 238, .int (nI 1), .int (nI 1), .ref 238])) (by decide +kernel) rfl ?_
    dsimp only
    refine am_Rq.getf (v := .ref 239) (show decode (am_by 107) 69 = .ok (.getfield 7, 3) by decide +kernel) rfl hM rfl ?_
    refine am_Rq.blk (is := [(.bipush 82, 2)]) (q := (74, [some (.ref 238), some (.int x), some (.int y), some (.int u), some (.int z), some (.int (nI 0)), none], [.int (nI 82), .ref 239, .int (nI 1), .int (nI 1), .ref 238])) (by decide +kernel) rfl ?_
    dsimp only
    refine am_Rq.ial (k := 82) (show decode (am_by 107) 74 = .ok (.iaload, 1) by decide +kernel) hS (by omega) (by omega) ?_
    refine am_Rq.blk (is := [(.bipush 10, 2)]) (q := (77, [some (.ref 238), some (.int x), some (.int y), some (.int u), some (.int z), some (.int (nI 0)), none], [.int (nI 10), .int (nI (s 82)), .int (nI 1), .int (nI 1), .ref 238])) (by decide +kernel) rfl ?_
    dsimp only
    refine am_Rq.if2 (t := 96) (show decode (am_by 107) 77 = .ok (.if_icmp .eq 19, 3) by decide +kernel) (by decide) (fun e2 => ?_) (fun e2 => ?_)
    ·
      refine am_Rq.blk (is := [(.iconst 1, 1), (.goto 4, 3)]) (q := (101, [some (.ref 238), some (.int x), some (.int y), some (.int u), some (.int z), some (.int (nI 0)), none], [.int (nI 1), .int (nI 1), .int (nI 1), .ref 238])) (by decide +kernel) rfl ?_
      dsimp only
      refine am_Rq.callV (show decode (am_by 107) 101 = .ok (.invokevirtual 57, 3) by decide +kernel) rfl [.int (nI (am_b true)), .int (nI (am_b true)), .int (nI (am_b true))] [] rfl rfl (Nat.le_of_ble_eq_true rfl) rfl hM rfl (m_refused hM true true true) ?_
      rintro _ _ ⟨rfl, rfl⟩
      have hM1 := am_ss (c' := (7, m_ob 1 kn co)) hM
      have hS1 := (am_sn (c' := (7, m_ob 1 kn co)) (show 238 ≠ 239 by decide)).trans hS
      show am_Rq _ 107 104 [some (.ref 238), some (.int x), some (.int y), some (.int u), some (.int z), some (.int (nI 0)), none] [.int (nI (am_b true))] _ _
      refine am_Rq.if1F (show decode (am_by 107) 104 = .ok (.ifCond .eq 5, 3) by decide +kernel) (by decide) (rfl) ?_
      refine am_Rq.blk (is := [(.iconst 0, 1)]) (q := (108, [some (.ref 238), some (.int x), some (.int y), some (.int u), some (.int z), some (.int (nI 0)), none], [.int (nI 0)])) (by decide +kernel) rfl ?_
      dsimp only
      refine am_Rq.ret (v := some (.int (nI 0))) (show decode (am_by 107) 108 = .ok (.ireturn, 1) by decide +kernel) rfl rfl ?_
      exact ⟨_, rfl, rfl, rfl⟩
    ·
      refine am_Rq.blk (is := [(.aload_n 0, 1)]) (q := (81, [some (.ref 238), some (.int x), some (.int y), some (.int u), some (.int z), some (.int (nI 0)), none], [.ref 238, .int (nI 1), .int (nI 1), .ref 238])) (by decide +kernel) rfl ?_
      dsimp only
      refine am_Rq.getf (v := .ref 239) (show decode (am_by 107) 81 = .ok (.getfield 7, 3) by decide +kernel) rfl hM rfl ?_
      refine am_Rq.blk (is := [(.bipush 80, 2)]) (q := (86, [some (.ref 238), some (.int x), some (.int y), some (.int u), some (.int z), some (.int (nI 0)), none], [.int (nI 80), .ref 239, .int (nI 1), .int (nI 1), .ref 238])) (by decide +kernel) rfl ?_
      dsimp only
      refine am_Rq.ial (k := 80) (show decode (am_by 107) 86 = .ok (.iaload, 1) by decide +kernel) hS (by omega) (by omega) ?_
      refine am_Rq.blk (is := [(.aload_n 0, 1)]) (q := (88, [some (.ref 238), some (.int x), some (.int y), some (.int u), some (.int z), some (.int (nI 0)), none], [.ref 238, .int (nI (s 80)), .int (nI 1), .int (nI 1), .ref 238])) (by decide +kernel) rfl ?_
      dsimp only
      refine am_Rq.callV (show decode (am_by 107) 88 = .ok (.invokevirtual 80, 3) by decide +kernel) rfl [] [.int (nI (s 80)), .int (nI 1), .int (nI 1), .ref 238] rfl rfl (Nat.le_of_ble_eq_true rfl) rfl hM rfl (m_grantedNow hM hS h82) ?_
      rintro hq _ ⟨e1, rfl⟩
      rw [e1]
      clear e1 hq
      show am_Rq _ 107 91 [some (.ref 238), some (.int x), some (.int y), some (.int u), some (.int z), some (.int (nI 0)), none] [.int (nI (sp_sm (fun g => s (83 + 7 * g + 1)) (s 82))), .int (nI (s 80)), .int (nI 1), .int (nI 1), .ref 238] _ _
      refine am_Rq.blk (is := [(.isub, 1), (.iload_n 2, 1)]) (q := (93, [some (.ref 238), some (.int x), some (.int y), some (.int u), some (.int z), some (.int (nI 0)), none], [.int y, .int ((nI (s 80)) - (nI (sp_sm (fun g => s (83 + 7 * g + 1)) (s 82)))), .int (nI 1), .int (nI 1), .ref 238])) (by decide +kernel) rfl ?_
      dsimp only
      refine am_Rq.if2 (t := 100) (show decode (am_by 107) 93 = .ok (.if_icmp .ge 7, 3) by decide +kernel) (by decide) (fun e3 => ?_) (fun e3 => ?_)
      ·
        refine am_Rq.blk (is := [(.iconst 0, 1)]) (q := (101, [some (.ref 238), some (.int x), some (.int y), some (.int u), some (.int z), some (.int (nI 0)), none], [.int (nI 0), .int (nI 1), .int (nI 1), .ref 238])) (by decide +kernel) rfl ?_
        dsimp only
        refine am_Rq.callV (show decode (am_by 107) 101 = .ok (.invokevirtual 57, 3) by decide +kernel) rfl [.int (nI (am_b true)), .int (nI (am_b true)), .int (nI (am_b false))] [] rfl rfl (Nat.le_of_ble_eq_true rfl) rfl hM rfl (m_refused hM true true false) ?_
        rintro _ _ ⟨rfl, rfl⟩
        have hM1 := am_ss (c' := (7, m_ob 1 kn co)) hM
        have hS1 := (am_sn (c' := (7, m_ob 1 kn co)) (show 238 ≠ 239 by decide)).trans hS
        show am_Rq _ 107 104 [some (.ref 238), some (.int x), some (.int y), some (.int u), some (.int z), some (.int (nI 0)), none] [.int (nI (am_b true))] _ _
        refine am_Rq.if1F (show decode (am_by 107) 104 = .ok (.ifCond .eq 5, 3) by decide +kernel) (by decide) (rfl) ?_
        refine am_Rq.blk (is := [(.iconst 0, 1)]) (q := (108, [some (.ref 238), some (.int x), some (.int y), some (.int u), some (.int z), some (.int (nI 0)), none], [.int (nI 0)])) (by decide +kernel) rfl ?_
        dsimp only
        refine am_Rq.ret (v := some (.int (nI 0))) (show decode (am_by 107) 108 = .ok (.ireturn, 1) by decide +kernel) rfl rfl ?_
        exact ⟨_, rfl, rfl, rfl⟩
      ·
        refine am_Rq.blk (is := [(.iconst 1, 1), (.goto 4, 3)]) (q := (101, [some (.ref 238), some (.int x), some (.int y), some (.int u), some (.int z), some (.int (nI 0)), none], [.int (nI 1), .int (nI 1), .int (nI 1), .ref 238])) (by decide +kernel) rfl ?_
        dsimp only
        refine am_Rq.callV (show decode (am_by 107) 101 = .ok (.invokevirtual 57, 3) by decide +kernel) rfl [.int (nI (am_b true)), .int (nI (am_b true)), .int (nI (am_b true))] [] rfl rfl (Nat.le_of_ble_eq_true rfl) rfl hM rfl (m_refused hM true true true) ?_
        rintro _ _ ⟨rfl, rfl⟩
        have hM1 := am_ss (c' := (7, m_ob 1 kn co)) hM
        have hS1 := (am_sn (c' := (7, m_ob 1 kn co)) (show 238 ≠ 239 by decide)).trans hS
        show am_Rq _ 107 104 [some (.ref 238), some (.int x), some (.int y), some (.int u), some (.int z), some (.int (nI 0)), none] [.int (nI (am_b true))] _ _
        refine am_Rq.if1F (show decode (am_by 107) 104 = .ok (.ifCond .eq 5, 3) by decide +kernel) (by decide) (rfl) ?_
        refine am_Rq.blk (is := [(.iconst 0, 1)]) (q := (108, [some (.ref 238), some (.int x), some (.int y), some (.int u), some (.int z), some (.int (nI 0)), none], [.int (nI 0)])) (by decide +kernel) rfl ?_
        dsimp only
        refine am_Rq.ret (v := some (.int (nI 0))) (show decode (am_by 107) 108 = .ok (.ireturn, 1) by decide +kernel) rfl rfl ?_
        exact ⟨_, rfl, rfl, rfl⟩
  ·
    rw [am_b_eq, Bool.not_eq_false'] at e1
    refine am_Rq.blk (is := [(.iload_n 3, 1), (.iconst 0, 1), (.bipush 60, 2)]) (q := (15, [some (.ref 238), some (.int x), some (.int y), some (.int u), some (.int z), none, none], [.int (nI 60), .int (nI 0), .int u])) (by decide +kernel) rfl ?_
    dsimp only
    refine am_Rq.callS (show decode (am_by 107) 15 = .ok (.invokestatic 39, 3) by decide +kernel) rfl [.int u, .int (nI 0), .int (nI 60)] [] rfl rfl (Nat.le_of_ble_eq_true rfl) rfl rfl (m_in (u) (nI 0) (nI 60)) ?_
    rintro hq _ ⟨e1, rfl⟩
    rw [e1]
    clear e1 hq
    show am_Rq _ 107 18 [some (.ref 238), some (.int x), some (.int y), some (.int u), some (.int z), none, none] [.int (nI (am_b (rg_r (nI 0) (nI 60) (u))))] _ _
    refine am_Rq.if1 (t := 42) (show decode (am_by 107) 18 = .ok (.ifCond .eq 24, 3) by decide +kernel) (by decide) (fun e2 => ?_) (fun e2 => ?_)
    ·
      rw [am_b_eq, Bool.not_eq_true'] at e2
      refine am_Rq.blk (is := [(.iconst 0, 1), (.istore 5, 2), (.aload_n 0, 1), (.iload_n 1, 1)]) (q := (47, [some (.ref 238), some (.int x), some (.int y), some (.int u), some (.int z), some (.int (nI 0)), none], [.int x, .ref 238])) (by decide +kernel) rfl ?_
      dsimp only
      refine am_Rq.callS (show decode (am_by 107) 47 = .ok (.invokestatic 68, 3) by decide +kernel) rfl [.int x] [.ref 238] rfl rfl (Nat.le_of_ble_eq_true rfl) rfl rfl (m_isHolder (x)) ?_
      rintro hq _ ⟨e1, rfl⟩
      rw [e1]
      clear e1 hq
      show am_Rq _ 107 50 [some (.ref 238), some (.int x), some (.int y), some (.int u), some (.int z), some (.int (nI 0)), none] [.int (nI (am_b (rg_r (nI 0) (nI 7) (x)))), .ref 238] _ _
      refine am_Rq.if1F (show decode (am_by 107) 50 = .ok (.ifCond .ne 7, 3) by decide +kernel) (by decide) (by rw [am_b_ne, hx]) ?_
      refine am_Rq.blk (is := [(.iconst 1, 1), (.goto 4, 3)]) (q := (58, [some (.ref 238), some (.int x), some (.int y), some (.int u), some (.int z), some (.int (nI 0)), none], [.int (nI 1), .ref 238])) (by decide +kernel) rfl ?_
      dsimp only
      refine am_Rq.blk (is := [(.iload 5, 2)]) (q := (60, [some (.ref 238), some (.int x), some (.int y), some (.int u), some (.int z), some (.int (nI 0)), none], [.int (nI 0), .int (nI 1), .ref 238])) (by decide +kernel) rfl ?_
      dsimp only
      refine am_Rq.if1F (show decode (am_by 107) 60 = .ok (.ifCond .ne 7, 3) by decide +kernel) (by decide) (rfl) ?_
      refine am_Rq.blk (is := [(.iconst 1, 1), (.goto 4, 3)]) (q := (68, [some (.ref 238), some (.int x), some (.int y), some (.int u), some (.int z), some (.int (nI 0)), none], [.int (nI 1), .int (nI 1), .ref 238])) (by decide +kernel) rfl ?_
      dsimp only
      refine am_Rq.blk (is := [(.aload_n 0, 1)]) (q := (69, [some (.ref 238), some (.int x), some (.int y), some (.int u), some (.int z), some (.int (nI 0)), none], [.ref 238, .int (nI 1), .int (nI 1), .ref 238])) (by decide +kernel) rfl ?_
      dsimp only
      refine am_Rq.getf (v := .ref 239) (show decode (am_by 107) 69 = .ok (.getfield 7, 3) by decide +kernel) rfl hM rfl ?_
      refine am_Rq.blk (is := [(.bipush 82, 2)]) (q := (74, [some (.ref 238), some (.int x), some (.int y), some (.int u), some (.int z), some (.int (nI 0)), none], [.int (nI 82), .ref 239, .int (nI 1), .int (nI 1), .ref 238])) (by decide +kernel) rfl ?_
      dsimp only
      refine am_Rq.ial (k := 82) (show decode (am_by 107) 74 = .ok (.iaload, 1) by decide +kernel) hS (by omega) (by omega) ?_
      refine am_Rq.blk (is := [(.bipush 10, 2)]) (q := (77, [some (.ref 238), some (.int x), some (.int y), some (.int u), some (.int z), some (.int (nI 0)), none], [.int (nI 10), .int (nI (s 82)), .int (nI 1), .int (nI 1), .ref 238])) (by decide +kernel) rfl ?_
      dsimp only
      refine am_Rq.if2 (t := 96) (show decode (am_by 107) 77 = .ok (.if_icmp .eq 19, 3) by decide +kernel) (by decide) (fun e3 => ?_) (fun e3 => ?_)
      ·
        refine am_Rq.blk (is := [(.iconst 1, 1), (.goto 4, 3)]) (q := (101, [some (.ref 238), some (.int x), some (.int y), some (.int u), some (.int z), some (.int (nI 0)), none], [.int (nI 1), .int (nI 1), .int (nI 1), .ref 238])) (by decide +kernel) rfl ?_
        dsimp only
        refine am_Rq.callV (show decode (am_by 107) 101 = .ok (.invokevirtual 57, 3) by decide +kernel) rfl [.int (nI (am_b true)), .int (nI (am_b true)), .int (nI (am_b true))] [] rfl rfl (Nat.le_of_ble_eq_true rfl) rfl hM rfl (m_refused hM true true true) ?_
        rintro _ _ ⟨rfl, rfl⟩
        have hM1 := am_ss (c' := (7, m_ob 1 kn co)) hM
        have hS1 := (am_sn (c' := (7, m_ob 1 kn co)) (show 238 ≠ 239 by decide)).trans hS
        show am_Rq _ 107 104 [some (.ref 238), some (.int x), some (.int y), some (.int u), some (.int z), some (.int (nI 0)), none] [.int (nI (am_b true))] _ _
        refine am_Rq.if1F (show decode (am_by 107) 104 = .ok (.ifCond .eq 5, 3) by decide +kernel) (by decide) (rfl) ?_
        refine am_Rq.blk (is := [(.iconst 0, 1)]) (q := (108, [some (.ref 238), some (.int x), some (.int y), some (.int u), some (.int z), some (.int (nI 0)), none], [.int (nI 0)])) (by decide +kernel) rfl ?_
        dsimp only
        refine am_Rq.ret (v := some (.int (nI 0))) (show decode (am_by 107) 108 = .ok (.ireturn, 1) by decide +kernel) rfl rfl ?_
        exact ⟨_, rfl, rfl, rfl⟩
      ·
        refine am_Rq.blk (is := [(.aload_n 0, 1)]) (q := (81, [some (.ref 238), some (.int x), some (.int y), some (.int u), some (.int z), some (.int (nI 0)), none], [.ref 238, .int (nI 1), .int (nI 1), .ref 238])) (by decide +kernel) rfl ?_
        dsimp only
        refine am_Rq.getf (v := .ref 239) (show decode (am_by 107) 81 = .ok (.getfield 7, 3) by decide +kernel) rfl hM rfl ?_
        refine am_Rq.blk (is := [(.bipush 80, 2)]) (q := (86, [some (.ref 238), some (.int x), some (.int y), some (.int u), some (.int z), some (.int (nI 0)), none], [.int (nI 80), .ref 239, .int (nI 1), .int (nI 1), .ref 238])) (by decide +kernel) rfl ?_
        dsimp only
        refine am_Rq.ial (k := 80) (show decode (am_by 107) 86 = .ok (.iaload, 1) by decide +kernel) hS (by omega) (by omega) ?_
        refine am_Rq.blk (is := [(.aload_n 0, 1)]) (q := (88, [some (.ref 238), some (.int x), some (.int y), some (.int u), some (.int z), some (.int (nI 0)), none], [.ref 238, .int (nI (s 80)), .int (nI 1), .int (nI 1), .ref 238])) (by decide +kernel) rfl ?_
        dsimp only
        refine am_Rq.callV (show decode (am_by 107) 88 = .ok (.invokevirtual 80, 3) by decide +kernel) rfl [] [.int (nI (s 80)), .int (nI 1), .int (nI 1), .ref 238] rfl rfl (Nat.le_of_ble_eq_true rfl) rfl hM rfl (m_grantedNow hM hS h82) ?_
        rintro hq _ ⟨e1, rfl⟩
        rw [e1]
        clear e1 hq
        show am_Rq _ 107 91 [some (.ref 238), some (.int x), some (.int y), some (.int u), some (.int z), some (.int (nI 0)), none] [.int (nI (sp_sm (fun g => s (83 + 7 * g + 1)) (s 82))), .int (nI (s 80)), .int (nI 1), .int (nI 1), .ref 238] _ _
        refine am_Rq.blk (is := [(.isub, 1), (.iload_n 2, 1)]) (q := (93, [some (.ref 238), some (.int x), some (.int y), some (.int u), some (.int z), some (.int (nI 0)), none], [.int y, .int ((nI (s 80)) - (nI (sp_sm (fun g => s (83 + 7 * g + 1)) (s 82)))), .int (nI 1), .int (nI 1), .ref 238])) (by decide +kernel) rfl ?_
        dsimp only
        refine am_Rq.if2 (t := 100) (show decode (am_by 107) 93 = .ok (.if_icmp .ge 7, 3) by decide +kernel) (by decide) (fun e4 => ?_) (fun e4 => ?_)
        ·
          refine am_Rq.blk (is := [(.iconst 0, 1)]) (q := (101, [some (.ref 238), some (.int x), some (.int y), some (.int u), some (.int z), some (.int (nI 0)), none], [.int (nI 0), .int (nI 1), .int (nI 1), .ref 238])) (by decide +kernel) rfl ?_
          dsimp only
          refine am_Rq.callV (show decode (am_by 107) 101 = .ok (.invokevirtual 57, 3) by decide +kernel) rfl [.int (nI (am_b true)), .int (nI (am_b true)), .int (nI (am_b false))] [] rfl rfl (Nat.le_of_ble_eq_true rfl) rfl hM rfl (m_refused hM true true false) ?_
          rintro _ _ ⟨rfl, rfl⟩
          have hM1 := am_ss (c' := (7, m_ob 1 kn co)) hM
          have hS1 := (am_sn (c' := (7, m_ob 1 kn co)) (show 238 ≠ 239 by decide)).trans hS
          show am_Rq _ 107 104 [some (.ref 238), some (.int x), some (.int y), some (.int u), some (.int z), some (.int (nI 0)), none] [.int (nI (am_b true))] _ _
          refine am_Rq.if1F (show decode (am_by 107) 104 = .ok (.ifCond .eq 5, 3) by decide +kernel) (by decide) (rfl) ?_
          refine am_Rq.blk (is := [(.iconst 0, 1)]) (q := (108, [some (.ref 238), some (.int x), some (.int y), some (.int u), some (.int z), some (.int (nI 0)), none], [.int (nI 0)])) (by decide +kernel) rfl ?_
          dsimp only
          refine am_Rq.ret (v := some (.int (nI 0))) (show decode (am_by 107) 108 = .ok (.ireturn, 1) by decide +kernel) rfl rfl ?_
          exact ⟨_, rfl, rfl, rfl⟩
        ·
          refine am_Rq.blk (is := [(.iconst 1, 1), (.goto 4, 3)]) (q := (101, [some (.ref 238), some (.int x), some (.int y), some (.int u), some (.int z), some (.int (nI 0)), none], [.int (nI 1), .int (nI 1), .int (nI 1), .ref 238])) (by decide +kernel) rfl ?_
          dsimp only
          refine am_Rq.callV (show decode (am_by 107) 101 = .ok (.invokevirtual 57, 3) by decide +kernel) rfl [.int (nI (am_b true)), .int (nI (am_b true)), .int (nI (am_b true))] [] rfl rfl (Nat.le_of_ble_eq_true rfl) rfl hM rfl (m_refused hM true true true) ?_
          rintro _ _ ⟨rfl, rfl⟩
          have hM1 := am_ss (c' := (7, m_ob 1 kn co)) hM
          have hS1 := (am_sn (c' := (7, m_ob 1 kn co)) (show 238 ≠ 239 by decide)).trans hS
          show am_Rq _ 107 104 [some (.ref 238), some (.int x), some (.int y), some (.int u), some (.int z), some (.int (nI 0)), none] [.int (nI (am_b true))] _ _
          refine am_Rq.if1F (show decode (am_by 107) 104 = .ok (.ifCond .eq 5, 3) by decide +kernel) (by decide) (rfl) ?_
          refine am_Rq.blk (is := [(.iconst 0, 1)]) (q := (108, [some (.ref 238), some (.int x), some (.int y), some (.int u), some (.int z), some (.int (nI 0)), none], [.int (nI 0)])) (by decide +kernel) rfl ?_
          dsimp only
          refine am_Rq.ret (v := some (.int (nI 0))) (show decode (am_by 107) 108 = .ok (.ireturn, 1) by decide +kernel) rfl rfl ?_
          exact ⟨_, rfl, rfl, rfl⟩
    ·
      rw [am_b_eq, Bool.not_eq_false'] at e2
      refine am_Rq.blk (is := [(.iload 4, 2), (.iconst 0, 1), (.bipush 60, 2)]) (q := (26, [some (.ref 238), some (.int x), some (.int y), some (.int u), some (.int z), none, none], [.int (nI 60), .int (nI 0), .int z])) (by decide +kernel) rfl ?_
      dsimp only
      refine am_Rq.callS (show decode (am_by 107) 26 = .ok (.invokestatic 39, 3) by decide +kernel) rfl [.int z, .int (nI 0), .int (nI 60)] [] rfl rfl (Nat.le_of_ble_eq_true rfl) rfl rfl (m_in (z) (nI 0) (nI 60)) ?_
      rintro hq _ ⟨e1, rfl⟩
      rw [e1]
      clear e1 hq
      show am_Rq _ 107 29 [some (.ref 238), some (.int x), some (.int y), some (.int u), some (.int z), none, none] [.int (nI (am_b (rg_r (nI 0) (nI 60) (z))))] _ _
      refine am_Rq.if1 (t := 42) (show decode (am_by 107) 29 = .ok (.ifCond .eq 13, 3) by decide +kernel) (by decide) (fun e3 => ?_) (fun e3 => ?_)
      ·
        rw [am_b_eq, Bool.not_eq_true'] at e3
        refine am_Rq.blk (is := [(.iconst 0, 1), (.istore 5, 2), (.aload_n 0, 1), (.iload_n 1, 1)]) (q := (47, [some (.ref 238), some (.int x), some (.int y), some (.int u), some (.int z), some (.int (nI 0)), none], [.int x, .ref 238])) (by decide +kernel) rfl ?_
        dsimp only
        refine am_Rq.callS (show decode (am_by 107) 47 = .ok (.invokestatic 68, 3) by decide +kernel) rfl [.int x] [.ref 238] rfl rfl (Nat.le_of_ble_eq_true rfl) rfl rfl (m_isHolder (x)) ?_
        rintro hq _ ⟨e1, rfl⟩
        rw [e1]
        clear e1 hq
        show am_Rq _ 107 50 [some (.ref 238), some (.int x), some (.int y), some (.int u), some (.int z), some (.int (nI 0)), none] [.int (nI (am_b (rg_r (nI 0) (nI 7) (x)))), .ref 238] _ _
        refine am_Rq.if1F (show decode (am_by 107) 50 = .ok (.ifCond .ne 7, 3) by decide +kernel) (by decide) (by rw [am_b_ne, hx]) ?_
        refine am_Rq.blk (is := [(.iconst 1, 1), (.goto 4, 3)]) (q := (58, [some (.ref 238), some (.int x), some (.int y), some (.int u), some (.int z), some (.int (nI 0)), none], [.int (nI 1), .ref 238])) (by decide +kernel) rfl ?_
        dsimp only
        refine am_Rq.blk (is := [(.iload 5, 2)]) (q := (60, [some (.ref 238), some (.int x), some (.int y), some (.int u), some (.int z), some (.int (nI 0)), none], [.int (nI 0), .int (nI 1), .ref 238])) (by decide +kernel) rfl ?_
        dsimp only
        refine am_Rq.if1F (show decode (am_by 107) 60 = .ok (.ifCond .ne 7, 3) by decide +kernel) (by decide) (rfl) ?_
        refine am_Rq.blk (is := [(.iconst 1, 1), (.goto 4, 3)]) (q := (68, [some (.ref 238), some (.int x), some (.int y), some (.int u), some (.int z), some (.int (nI 0)), none], [.int (nI 1), .int (nI 1), .ref 238])) (by decide +kernel) rfl ?_
        dsimp only
        refine am_Rq.blk (is := [(.aload_n 0, 1)]) (q := (69, [some (.ref 238), some (.int x), some (.int y), some (.int u), some (.int z), some (.int (nI 0)), none], [.ref 238, .int (nI 1), .int (nI 1), .ref 238])) (by decide +kernel) rfl ?_
        dsimp only
        refine am_Rq.getf (v := .ref 239) (show decode (am_by 107) 69 = .ok (.getfield 7, 3) by decide +kernel) rfl hM rfl ?_
        refine am_Rq.blk (is := [(.bipush 82, 2)]) (q := (74, [some (.ref 238), some (.int x), some (.int y), some (.int u), some (.int z), some (.int (nI 0)), none], [.int (nI 82), .ref 239, .int (nI 1), .int (nI 1), .ref 238])) (by decide +kernel) rfl ?_
        dsimp only
        refine am_Rq.ial (k := 82) (show decode (am_by 107) 74 = .ok (.iaload, 1) by decide +kernel) hS (by omega) (by omega) ?_
        refine am_Rq.blk (is := [(.bipush 10, 2)]) (q := (77, [some (.ref 238), some (.int x), some (.int y), some (.int u), some (.int z), some (.int (nI 0)), none], [.int (nI 10), .int (nI (s 82)), .int (nI 1), .int (nI 1), .ref 238])) (by decide +kernel) rfl ?_
        dsimp only
        refine am_Rq.if2 (t := 96) (show decode (am_by 107) 77 = .ok (.if_icmp .eq 19, 3) by decide +kernel) (by decide) (fun e4 => ?_) (fun e4 => ?_)
        ·
          refine am_Rq.blk (is := [(.iconst 1, 1), (.goto 4, 3)]) (q := (101, [some (.ref 238), some (.int x), some (.int y), some (.int u), some (.int z), some (.int (nI 0)), none], [.int (nI 1), .int (nI 1), .int (nI 1), .ref 238])) (by decide +kernel) rfl ?_
          dsimp only
          refine am_Rq.callV (show decode (am_by 107) 101 = .ok (.invokevirtual 57, 3) by decide +kernel) rfl [.int (nI (am_b true)), .int (nI (am_b true)), .int (nI (am_b true))] [] rfl rfl (Nat.le_of_ble_eq_true rfl) rfl hM rfl (m_refused hM true true true) ?_
          rintro _ _ ⟨rfl, rfl⟩
          have hM1 := am_ss (c' := (7, m_ob 1 kn co)) hM
          have hS1 := (am_sn (c' := (7, m_ob 1 kn co)) (show 238 ≠ 239 by decide)).trans hS
          show am_Rq _ 107 104 [some (.ref 238), some (.int x), some (.int y), some (.int u), some (.int z), some (.int (nI 0)), none] [.int (nI (am_b true))] _ _
          refine am_Rq.if1F (show decode (am_by 107) 104 = .ok (.ifCond .eq 5, 3) by decide +kernel) (by decide) (rfl) ?_
          refine am_Rq.blk (is := [(.iconst 0, 1)]) (q := (108, [some (.ref 238), some (.int x), some (.int y), some (.int u), some (.int z), some (.int (nI 0)), none], [.int (nI 0)])) (by decide +kernel) rfl ?_
          dsimp only
          refine am_Rq.ret (v := some (.int (nI 0))) (show decode (am_by 107) 108 = .ok (.ireturn, 1) by decide +kernel) rfl rfl ?_
          exact ⟨_, rfl, rfl, rfl⟩
        ·
          refine am_Rq.blk (is := [(.aload_n 0, 1)]) (q := (81, [some (.ref 238), some (.int x), some (.int y), some (.int u), some (.int z), some (.int (nI 0)), none], [.ref 238, .int (nI 1), .int (nI 1), .ref 238])) (by decide +kernel) rfl ?_
          dsimp only
          refine am_Rq.getf (v := .ref 239) (show decode (am_by 107) 81 = .ok (.getfield 7, 3) by decide +kernel) rfl hM rfl ?_
          refine am_Rq.blk (is := [(.bipush 80, 2)]) (q := (86, [some (.ref 238), some (.int x), some (.int y), some (.int u), some (.int z), some (.int (nI 0)), none], [.int (nI 80), .ref 239, .int (nI 1), .int (nI 1), .ref 238])) (by decide +kernel) rfl ?_
          dsimp only
          refine am_Rq.ial (k := 80) (show decode (am_by 107) 86 = .ok (.iaload, 1) by decide +kernel) hS (by omega) (by omega) ?_
          refine am_Rq.blk (is := [(.aload_n 0, 1)]) (q := (88, [some (.ref 238), some (.int x), some (.int y), some (.int u), some (.int z), some (.int (nI 0)), none], [.ref 238, .int (nI (s 80)), .int (nI 1), .int (nI 1), .ref 238])) (by decide +kernel) rfl ?_
          dsimp only
          refine am_Rq.callV (show decode (am_by 107) 88 = .ok (.invokevirtual 80, 3) by decide +kernel) rfl [] [.int (nI (s 80)), .int (nI 1), .int (nI 1), .ref 238] rfl rfl (Nat.le_of_ble_eq_true rfl) rfl hM rfl (m_grantedNow hM hS h82) ?_
          rintro hq _ ⟨e1, rfl⟩
          rw [e1]
          clear e1 hq
          show am_Rq _ 107 91 [some (.ref 238), some (.int x), some (.int y), some (.int u), some (.int z), some (.int (nI 0)), none] [.int (nI (sp_sm (fun g => s (83 + 7 * g + 1)) (s 82))), .int (nI (s 80)), .int (nI 1), .int (nI 1), .ref 238] _ _
          refine am_Rq.blk (is := [(.isub, 1), (.iload_n 2, 1)]) (q := (93, [some (.ref 238), some (.int x), some (.int y), some (.int u), some (.int z), some (.int (nI 0)), none], [.int y, .int ((nI (s 80)) - (nI (sp_sm (fun g => s (83 + 7 * g + 1)) (s 82)))), .int (nI 1), .int (nI 1), .ref 238])) (by decide +kernel) rfl ?_
          dsimp only
          refine am_Rq.if2 (t := 100) (show decode (am_by 107) 93 = .ok (.if_icmp .ge 7, 3) by decide +kernel) (by decide) (fun e5 => ?_) (fun e5 => ?_)
          ·
            refine am_Rq.blk (is := [(.iconst 0, 1)]) (q := (101, [some (.ref 238), some (.int x), some (.int y), some (.int u), some (.int z), some (.int (nI 0)), none], [.int (nI 0), .int (nI 1), .int (nI 1), .ref 238])) (by decide +kernel) rfl ?_
            dsimp only
            refine am_Rq.callV (show decode (am_by 107) 101 = .ok (.invokevirtual 57, 3) by decide +kernel) rfl [.int (nI (am_b true)), .int (nI (am_b true)), .int (nI (am_b false))] [] rfl rfl (Nat.le_of_ble_eq_true rfl) rfl hM rfl (m_refused hM true true false) ?_
            rintro _ _ ⟨rfl, rfl⟩
            have hM1 := am_ss (c' := (7, m_ob 1 kn co)) hM
            have hS1 := (am_sn (c' := (7, m_ob 1 kn co)) (show 238 ≠ 239 by decide)).trans hS
            show am_Rq _ 107 104 [some (.ref 238), some (.int x), some (.int y), some (.int u), some (.int z), some (.int (nI 0)), none] [.int (nI (am_b true))] _ _
            refine am_Rq.if1F (show decode (am_by 107) 104 = .ok (.ifCond .eq 5, 3) by decide +kernel) (by decide) (rfl) ?_
            refine am_Rq.blk (is := [(.iconst 0, 1)]) (q := (108, [some (.ref 238), some (.int x), some (.int y), some (.int u), some (.int z), some (.int (nI 0)), none], [.int (nI 0)])) (by decide +kernel) rfl ?_
            dsimp only
            refine am_Rq.ret (v := some (.int (nI 0))) (show decode (am_by 107) 108 = .ok (.ireturn, 1) by decide +kernel) rfl rfl ?_
            exact ⟨_, rfl, rfl, rfl⟩
          ·
            refine am_Rq.blk (is := [(.iconst 1, 1), (.goto 4, 3)]) (q := (101, [some (.ref 238), some (.int x), some (.int y), some (.int u), some (.int z), some (.int (nI 0)), none], [.int (nI 1), .int (nI 1), .int (nI 1), .ref 238])) (by decide +kernel) rfl ?_
            dsimp only
            refine am_Rq.callV (show decode (am_by 107) 101 = .ok (.invokevirtual 57, 3) by decide +kernel) rfl [.int (nI (am_b true)), .int (nI (am_b true)), .int (nI (am_b true))] [] rfl rfl (Nat.le_of_ble_eq_true rfl) rfl hM rfl (m_refused hM true true true) ?_
            rintro _ _ ⟨rfl, rfl⟩
            have hM1 := am_ss (c' := (7, m_ob 1 kn co)) hM
            have hS1 := (am_sn (c' := (7, m_ob 1 kn co)) (show 238 ≠ 239 by decide)).trans hS
            show am_Rq _ 107 104 [some (.ref 238), some (.int x), some (.int y), some (.int u), some (.int z), some (.int (nI 0)), none] [.int (nI (am_b true))] _ _
            refine am_Rq.if1F (show decode (am_by 107) 104 = .ok (.ifCond .eq 5, 3) by decide +kernel) (by decide) (rfl) ?_
            refine am_Rq.blk (is := [(.iconst 0, 1)]) (q := (108, [some (.ref 238), some (.int x), some (.int y), some (.int u), some (.int z), some (.int (nI 0)), none], [.int (nI 0)])) (by decide +kernel) rfl ?_
            dsimp only
            refine am_Rq.ret (v := some (.int (nI 0))) (show decode (am_by 107) 108 = .ok (.ireturn, 1) by decide +kernel) rfl rfl ?_
            exact ⟨_, rfl, rfl, rfl⟩
      ·
        rw [am_b_eq, Bool.not_eq_false'] at e3
        refine am_Rq.blk (is := [(.iload 4, 2), (.iload_n 3, 1)]) (q := (35, [some (.ref 238), some (.int x), some (.int y), some (.int u), some (.int z), none, none], [.int u, .int z])) (by decide +kernel) rfl ?_
        dsimp only
        refine am_Rq.if2 (t := 42) (show decode (am_by 107) 35 = .ok (.if_icmp .lt 7, 3) by decide +kernel) (by decide) (fun e4 => ?_) (fun e4 => ?_)
        ·
          refine am_Rq.blk (is := [(.iconst 0, 1), (.istore 5, 2), (.aload_n 0, 1), (.iload_n 1, 1)]) (q := (47, [some (.ref 238), some (.int x), some (.int y), some (.int u), some (.int z), some (.int (nI 0)), none], [.int x, .ref 238])) (by decide +kernel) rfl ?_
          dsimp only
          refine am_Rq.callS (show decode (am_by 107) 47 = .ok (.invokestatic 68, 3) by decide +kernel) rfl [.int x] [.ref 238] rfl rfl (Nat.le_of_ble_eq_true rfl) rfl rfl (m_isHolder (x)) ?_
          rintro hq _ ⟨e1, rfl⟩
          rw [e1]
          clear e1 hq
          show am_Rq _ 107 50 [some (.ref 238), some (.int x), some (.int y), some (.int u), some (.int z), some (.int (nI 0)), none] [.int (nI (am_b (rg_r (nI 0) (nI 7) (x)))), .ref 238] _ _
          refine am_Rq.if1F (show decode (am_by 107) 50 = .ok (.ifCond .ne 7, 3) by decide +kernel) (by decide) (by rw [am_b_ne, hx]) ?_
          refine am_Rq.blk (is := [(.iconst 1, 1), (.goto 4, 3)]) (q := (58, [some (.ref 238), some (.int x), some (.int y), some (.int u), some (.int z), some (.int (nI 0)), none], [.int (nI 1), .ref 238])) (by decide +kernel) rfl ?_
          dsimp only
          refine am_Rq.blk (is := [(.iload 5, 2)]) (q := (60, [some (.ref 238), some (.int x), some (.int y), some (.int u), some (.int z), some (.int (nI 0)), none], [.int (nI 0), .int (nI 1), .ref 238])) (by decide +kernel) rfl ?_
          dsimp only
          refine am_Rq.if1F (show decode (am_by 107) 60 = .ok (.ifCond .ne 7, 3) by decide +kernel) (by decide) (rfl) ?_
          refine am_Rq.blk (is := [(.iconst 1, 1), (.goto 4, 3)]) (q := (68, [some (.ref 238), some (.int x), some (.int y), some (.int u), some (.int z), some (.int (nI 0)), none], [.int (nI 1), .int (nI 1), .ref 238])) (by decide +kernel) rfl ?_
          dsimp only
          refine am_Rq.blk (is := [(.aload_n 0, 1)]) (q := (69, [some (.ref 238), some (.int x), some (.int y), some (.int u), some (.int z), some (.int (nI 0)), none], [.ref 238, .int (nI 1), .int (nI 1), .ref 238])) (by decide +kernel) rfl ?_
          dsimp only
          refine am_Rq.getf (v := .ref 239) (show decode (am_by 107) 69 = .ok (.getfield 7, 3) by decide +kernel) rfl hM rfl ?_
          refine am_Rq.blk (is := [(.bipush 82, 2)]) (q := (74, [some (.ref 238), some (.int x), some (.int y), some (.int u), some (.int z), some (.int (nI 0)), none], [.int (nI 82), .ref 239, .int (nI 1), .int (nI 1), .ref 238])) (by decide +kernel) rfl ?_
          dsimp only
          refine am_Rq.ial (k := 82) (show decode (am_by 107) 74 = .ok (.iaload, 1) by decide +kernel) hS (by omega) (by omega) ?_
          refine am_Rq.blk (is := [(.bipush 10, 2)]) (q := (77, [some (.ref 238), some (.int x), some (.int y), some (.int u), some (.int z), some (.int (nI 0)), none], [.int (nI 10), .int (nI (s 82)), .int (nI 1), .int (nI 1), .ref 238])) (by decide +kernel) rfl ?_
          dsimp only
          refine am_Rq.if2 (t := 96) (show decode (am_by 107) 77 = .ok (.if_icmp .eq 19, 3) by decide +kernel) (by decide) (fun e5 => ?_) (fun e5 => ?_)
          ·
            refine am_Rq.blk (is := [(.iconst 1, 1), (.goto 4, 3)]) (q := (101, [some (.ref 238), some (.int x), some (.int y), some (.int u), some (.int z), some (.int (nI 0)), none], [.int (nI 1), .int (nI 1), .int (nI 1), .ref 238])) (by decide +kernel) rfl ?_
            dsimp only
            refine am_Rq.callV (show decode (am_by 107) 101 = .ok (.invokevirtual 57, 3) by decide +kernel) rfl [.int (nI (am_b true)), .int (nI (am_b true)), .int (nI (am_b true))] [] rfl rfl (Nat.le_of_ble_eq_true rfl) rfl hM rfl (m_refused hM true true true) ?_
            rintro _ _ ⟨rfl, rfl⟩
            have hM1 := am_ss (c' := (7, m_ob 1 kn co)) hM
            have hS1 := (am_sn (c' := (7, m_ob 1 kn co)) (show 238 ≠ 239 by decide)).trans hS
            show am_Rq _ 107 104 [some (.ref 238), some (.int x), some (.int y), some (.int u), some (.int z), some (.int (nI 0)), none] [.int (nI (am_b true))] _ _
            refine am_Rq.if1F (show decode (am_by 107) 104 = .ok (.ifCond .eq 5, 3) by decide +kernel) (by decide) (rfl) ?_
            refine am_Rq.blk (is := [(.iconst 0, 1)]) (q := (108, [some (.ref 238), some (.int x), some (.int y), some (.int u), some (.int z), some (.int (nI 0)), none], [.int (nI 0)])) (by decide +kernel) rfl ?_
            dsimp only
            refine am_Rq.ret (v := some (.int (nI 0))) (show decode (am_by 107) 108 = .ok (.ireturn, 1) by decide +kernel) rfl rfl ?_
            exact ⟨_, rfl, rfl, rfl⟩
          ·
            refine am_Rq.blk (is := [(.aload_n 0, 1)]) (q := (81, [some (.ref 238), some (.int x), some (.int y), some (.int u), some (.int z), some (.int (nI 0)), none], [.ref 238, .int (nI 1), .int (nI 1), .ref 238])) (by decide +kernel) rfl ?_
            dsimp only
            refine am_Rq.getf (v := .ref 239) (show decode (am_by 107) 81 = .ok (.getfield 7, 3) by decide +kernel) rfl hM rfl ?_
            refine am_Rq.blk (is := [(.bipush 80, 2)]) (q := (86, [some (.ref 238), some (.int x), some (.int y), some (.int u), some (.int z), some (.int (nI 0)), none], [.int (nI 80), .ref 239, .int (nI 1), .int (nI 1), .ref 238])) (by decide +kernel) rfl ?_
            dsimp only
            refine am_Rq.ial (k := 80) (show decode (am_by 107) 86 = .ok (.iaload, 1) by decide +kernel) hS (by omega) (by omega) ?_
            refine am_Rq.blk (is := [(.aload_n 0, 1)]) (q := (88, [some (.ref 238), some (.int x), some (.int y), some (.int u), some (.int z), some (.int (nI 0)), none], [.ref 238, .int (nI (s 80)), .int (nI 1), .int (nI 1), .ref 238])) (by decide +kernel) rfl ?_
            dsimp only
            refine am_Rq.callV (show decode (am_by 107) 88 = .ok (.invokevirtual 80, 3) by decide +kernel) rfl [] [.int (nI (s 80)), .int (nI 1), .int (nI 1), .ref 238] rfl rfl (Nat.le_of_ble_eq_true rfl) rfl hM rfl (m_grantedNow hM hS h82) ?_
            rintro hq _ ⟨e1, rfl⟩
            rw [e1]
            clear e1 hq
            show am_Rq _ 107 91 [some (.ref 238), some (.int x), some (.int y), some (.int u), some (.int z), some (.int (nI 0)), none] [.int (nI (sp_sm (fun g => s (83 + 7 * g + 1)) (s 82))), .int (nI (s 80)), .int (nI 1), .int (nI 1), .ref 238] _ _
            refine am_Rq.blk (is := [(.isub, 1), (.iload_n 2, 1)]) (q := (93, [some (.ref 238), some (.int x), some (.int y), some (.int u), some (.int z), some (.int (nI 0)), none], [.int y, .int ((nI (s 80)) - (nI (sp_sm (fun g => s (83 + 7 * g + 1)) (s 82)))), .int (nI 1), .int (nI 1), .ref 238])) (by decide +kernel) rfl ?_
            dsimp only
            refine am_Rq.if2 (t := 100) (show decode (am_by 107) 93 = .ok (.if_icmp .ge 7, 3) by decide +kernel) (by decide) (fun e6 => ?_) (fun e6 => ?_)
            ·
              refine am_Rq.blk (is := [(.iconst 0, 1)]) (q := (101, [some (.ref 238), some (.int x), some (.int y), some (.int u), some (.int z), some (.int (nI 0)), none], [.int (nI 0), .int (nI 1), .int (nI 1), .ref 238])) (by decide +kernel) rfl ?_
              dsimp only
              refine am_Rq.callV (show decode (am_by 107) 101 = .ok (.invokevirtual 57, 3) by decide +kernel) rfl [.int (nI (am_b true)), .int (nI (am_b true)), .int (nI (am_b false))] [] rfl rfl (Nat.le_of_ble_eq_true rfl) rfl hM rfl (m_refused hM true true false) ?_
              rintro _ _ ⟨rfl, rfl⟩
              have hM1 := am_ss (c' := (7, m_ob 1 kn co)) hM
              have hS1 := (am_sn (c' := (7, m_ob 1 kn co)) (show 238 ≠ 239 by decide)).trans hS
              show am_Rq _ 107 104 [some (.ref 238), some (.int x), some (.int y), some (.int u), some (.int z), some (.int (nI 0)), none] [.int (nI (am_b true))] _ _
              refine am_Rq.if1F (show decode (am_by 107) 104 = .ok (.ifCond .eq 5, 3) by decide +kernel) (by decide) (rfl) ?_
              refine am_Rq.blk (is := [(.iconst 0, 1)]) (q := (108, [some (.ref 238), some (.int x), some (.int y), some (.int u), some (.int z), some (.int (nI 0)), none], [.int (nI 0)])) (by decide +kernel) rfl ?_
              dsimp only
              refine am_Rq.ret (v := some (.int (nI 0))) (show decode (am_by 107) 108 = .ok (.ireturn, 1) by decide +kernel) rfl rfl ?_
              exact ⟨_, rfl, rfl, rfl⟩
            ·
              refine am_Rq.blk (is := [(.iconst 1, 1), (.goto 4, 3)]) (q := (101, [some (.ref 238), some (.int x), some (.int y), some (.int u), some (.int z), some (.int (nI 0)), none], [.int (nI 1), .int (nI 1), .int (nI 1), .ref 238])) (by decide +kernel) rfl ?_
              dsimp only
              refine am_Rq.callV (show decode (am_by 107) 101 = .ok (.invokevirtual 57, 3) by decide +kernel) rfl [.int (nI (am_b true)), .int (nI (am_b true)), .int (nI (am_b true))] [] rfl rfl (Nat.le_of_ble_eq_true rfl) rfl hM rfl (m_refused hM true true true) ?_
              rintro _ _ ⟨rfl, rfl⟩
              have hM1 := am_ss (c' := (7, m_ob 1 kn co)) hM
              have hS1 := (am_sn (c' := (7, m_ob 1 kn co)) (show 238 ≠ 239 by decide)).trans hS
              show am_Rq _ 107 104 [some (.ref 238), some (.int x), some (.int y), some (.int u), some (.int z), some (.int (nI 0)), none] [.int (nI (am_b true))] _ _
              refine am_Rq.if1F (show decode (am_by 107) 104 = .ok (.ifCond .eq 5, 3) by decide +kernel) (by decide) (rfl) ?_
              refine am_Rq.blk (is := [(.iconst 0, 1)]) (q := (108, [some (.ref 238), some (.int x), some (.int y), some (.int u), some (.int z), some (.int (nI 0)), none], [.int (nI 0)])) (by decide +kernel) rfl ?_
              dsimp only
              refine am_Rq.ret (v := some (.int (nI 0))) (show decode (am_by 107) 108 = .ok (.ireturn, 1) by decide +kernel) rfl rfl ?_
              exact ⟨_, rfl, rfl, rfl⟩
        ·
          refine am_Rq.blk (is := [(.iconst 1, 1), (.goto 4, 3)]) (q := (43, [some (.ref 238), some (.int x), some (.int y), some (.int u), some (.int z), none, none], [.int (nI 1)])) (by decide +kernel) rfl ?_
          dsimp only
          refine am_Rq.blk (is := [(.istore 5, 2), (.aload_n 0, 1), (.iload_n 1, 1)]) (q := (47, [some (.ref 238), some (.int x), some (.int y), some (.int u), some (.int z), some (.int (nI 1)), none], [.int x, .ref 238])) (by decide +kernel) rfl ?_
          dsimp only
          refine am_Rq.callS (show decode (am_by 107) 47 = .ok (.invokestatic 68, 3) by decide +kernel) rfl [.int x] [.ref 238] rfl rfl (Nat.le_of_ble_eq_true rfl) rfl rfl (m_isHolder (x)) ?_
          rintro hq _ ⟨e1, rfl⟩
          rw [e1]
          clear e1 hq
          show am_Rq _ 107 50 [some (.ref 238), some (.int x), some (.int y), some (.int u), some (.int z), some (.int (nI 1)), none] [.int (nI (am_b (rg_r (nI 0) (nI 7) (x)))), .ref 238] _ _
          refine am_Rq.if1F (show decode (am_by 107) 50 = .ok (.ifCond .ne 7, 3) by decide +kernel) (by decide) (by rw [am_b_ne, hx]) ?_
          refine am_Rq.blk (is := [(.iconst 1, 1), (.goto 4, 3)]) (q := (58, [some (.ref 238), some (.int x), some (.int y), some (.int u), some (.int z), some (.int (nI 1)), none], [.int (nI 1), .ref 238])) (by decide +kernel) rfl ?_
          dsimp only
          refine am_Rq.blk (is := [(.iload 5, 2)]) (q := (60, [some (.ref 238), some (.int x), some (.int y), some (.int u), some (.int z), some (.int (nI 1)), none], [.int (nI 1), .int (nI 1), .ref 238])) (by decide +kernel) rfl ?_
          dsimp only
          refine am_Rq.if1T (t := 67) (show decode (am_by 107) 60 = .ok (.ifCond .ne 7, 3) by decide +kernel) (by decide) (rfl) ?_
          refine am_Rq.blk (is := [(.iconst 0, 1), (.aload_n 0, 1)]) (q := (69, [some (.ref 238), some (.int x), some (.int y), some (.int u), some (.int z), some (.int (nI 1)), none], [.ref 238, .int (nI 0), .int (nI 1), .ref 238])) (by decide +kernel) rfl ?_
          dsimp only
          refine am_Rq.getf (v := .ref 239) (show decode (am_by 107) 69 = .ok (.getfield 7, 3) by decide +kernel) rfl hM rfl ?_
          refine am_Rq.blk (is := [(.bipush 82, 2)]) (q := (74, [some (.ref 238), some (.int x), some (.int y), some (.int u), some (.int z), some (.int (nI 1)), none], [.int (nI 82), .ref 239, .int (nI 0), .int (nI 1), .ref 238])) (by decide +kernel) rfl ?_
          dsimp only
          refine am_Rq.ial (k := 82) (show decode (am_by 107) 74 = .ok (.iaload, 1) by decide +kernel) hS (by omega) (by omega) ?_
          refine am_Rq.blk (is := [(.bipush 10, 2)]) (q := (77, [some (.ref 238), some (.int x), some (.int y), some (.int u), some (.int z), some (.int (nI 1)), none], [.int (nI 10), .int (nI (s 82)), .int (nI 0), .int (nI 1), .ref 238])) (by decide +kernel) rfl ?_
          dsimp only
          refine am_Rq.if2 (t := 96) (show decode (am_by 107) 77 = .ok (.if_icmp .eq 19, 3) by decide +kernel) (by decide) (fun e5 => ?_) (fun e5 => ?_)
          ·
            refine am_Rq.blk (is := [(.iconst 1, 1), (.goto 4, 3)]) (q := (101, [some (.ref 238), some (.int x), some (.int y), some (.int u), some (.int z), some (.int (nI 1)), none], [.int (nI 1), .int (nI 0), .int (nI 1), .ref 238])) (by decide +kernel) rfl ?_
            dsimp only
            refine am_Rq.callV (show decode (am_by 107) 101 = .ok (.invokevirtual 57, 3) by decide +kernel) rfl [.int (nI (am_b true)), .int (nI (am_b false)), .int (nI (am_b true))] [] rfl rfl (Nat.le_of_ble_eq_true rfl) rfl hM rfl (m_refused hM true false true) ?_
            rintro _ _ ⟨rfl, rfl⟩
            have hM1 := am_ss (c' := (7, m_ob 1 kn co)) hM
            have hS1 := (am_sn (c' := (7, m_ob 1 kn co)) (show 238 ≠ 239 by decide)).trans hS
            show am_Rq _ 107 104 [some (.ref 238), some (.int x), some (.int y), some (.int u), some (.int z), some (.int (nI 1)), none] [.int (nI (am_b true))] _ _
            refine am_Rq.if1F (show decode (am_by 107) 104 = .ok (.ifCond .eq 5, 3) by decide +kernel) (by decide) (rfl) ?_
            refine am_Rq.blk (is := [(.iconst 0, 1)]) (q := (108, [some (.ref 238), some (.int x), some (.int y), some (.int u), some (.int z), some (.int (nI 1)), none], [.int (nI 0)])) (by decide +kernel) rfl ?_
            dsimp only
            refine am_Rq.ret (v := some (.int (nI 0))) (show decode (am_by 107) 108 = .ok (.ireturn, 1) by decide +kernel) rfl rfl ?_
            exact ⟨_, rfl, rfl, rfl⟩
          ·
            refine am_Rq.blk (is := [(.aload_n 0, 1)]) (q := (81, [some (.ref 238), some (.int x), some (.int y), some (.int u), some (.int z), some (.int (nI 1)), none], [.ref 238, .int (nI 0), .int (nI 1), .ref 238])) (by decide +kernel) rfl ?_
            dsimp only
            refine am_Rq.getf (v := .ref 239) (show decode (am_by 107) 81 = .ok (.getfield 7, 3) by decide +kernel) rfl hM rfl ?_
            refine am_Rq.blk (is := [(.bipush 80, 2)]) (q := (86, [some (.ref 238), some (.int x), some (.int y), some (.int u), some (.int z), some (.int (nI 1)), none], [.int (nI 80), .ref 239, .int (nI 0), .int (nI 1), .ref 238])) (by decide +kernel) rfl ?_
            dsimp only
            refine am_Rq.ial (k := 80) (show decode (am_by 107) 86 = .ok (.iaload, 1) by decide +kernel) hS (by omega) (by omega) ?_
            refine am_Rq.blk (is := [(.aload_n 0, 1)]) (q := (88, [some (.ref 238), some (.int x), some (.int y), some (.int u), some (.int z), some (.int (nI 1)), none], [.ref 238, .int (nI (s 80)), .int (nI 0), .int (nI 1), .ref 238])) (by decide +kernel) rfl ?_
            dsimp only
            refine am_Rq.callV (show decode (am_by 107) 88 = .ok (.invokevirtual 80, 3) by decide +kernel) rfl [] [.int (nI (s 80)), .int (nI 0), .int (nI 1), .ref 238] rfl rfl (Nat.le_of_ble_eq_true rfl) rfl hM rfl (m_grantedNow hM hS h82) ?_
            rintro hq _ ⟨e1, rfl⟩
            rw [e1]
            clear e1 hq
            show am_Rq _ 107 91 [some (.ref 238), some (.int x), some (.int y), some (.int u), some (.int z), some (.int (nI 1)), none] [.int (nI (sp_sm (fun g => s (83 + 7 * g + 1)) (s 82))), .int (nI (s 80)), .int (nI 0), .int (nI 1), .ref 238] _ _
            refine am_Rq.blk (is := [(.isub, 1), (.iload_n 2, 1)]) (q := (93, [some (.ref 238), some (.int x), some (.int y), some (.int u), some (.int z), some (.int (nI 1)), none], [.int y, .int ((nI (s 80)) - (nI (sp_sm (fun g => s (83 + 7 * g + 1)) (s 82)))), .int (nI 0), .int (nI 1), .ref 238])) (by decide +kernel) rfl ?_
            dsimp only
            refine am_Rq.if2 (t := 100) (show decode (am_by 107) 93 = .ok (.if_icmp .ge 7, 3) by decide +kernel) (by decide) (fun e6 => ?_) (fun e6 => ?_)
            ·
              refine am_Rq.blk (is := [(.iconst 0, 1)]) (q := (101, [some (.ref 238), some (.int x), some (.int y), some (.int u), some (.int z), some (.int (nI 1)), none], [.int (nI 0), .int (nI 0), .int (nI 1), .ref 238])) (by decide +kernel) rfl ?_
              dsimp only
              refine am_Rq.callV (show decode (am_by 107) 101 = .ok (.invokevirtual 57, 3) by decide +kernel) rfl [.int (nI (am_b true)), .int (nI (am_b false)), .int (nI (am_b false))] [] rfl rfl (Nat.le_of_ble_eq_true rfl) rfl hM rfl (m_refused hM true false false) ?_
              rintro _ _ ⟨rfl, rfl⟩
              have hM1 := am_ss (c' := (7, m_ob 1 kn co)) hM
              have hS1 := (am_sn (c' := (7, m_ob 1 kn co)) (show 238 ≠ 239 by decide)).trans hS
              show am_Rq _ 107 104 [some (.ref 238), some (.int x), some (.int y), some (.int u), some (.int z), some (.int (nI 1)), none] [.int (nI (am_b true))] _ _
              refine am_Rq.if1F (show decode (am_by 107) 104 = .ok (.ifCond .eq 5, 3) by decide +kernel) (by decide) (rfl) ?_
              refine am_Rq.blk (is := [(.iconst 0, 1)]) (q := (108, [some (.ref 238), some (.int x), some (.int y), some (.int u), some (.int z), some (.int (nI 1)), none], [.int (nI 0)])) (by decide +kernel) rfl ?_
              dsimp only
              refine am_Rq.ret (v := some (.int (nI 0))) (show decode (am_by 107) 108 = .ok (.ireturn, 1) by decide +kernel) rfl rfl ?_
              exact ⟨_, rfl, rfl, rfl⟩
            ·
              refine am_Rq.blk (is := [(.iconst 1, 1), (.goto 4, 3)]) (q := (101, [some (.ref 238), some (.int x), some (.int y), some (.int u), some (.int z), some (.int (nI 1)), none], [.int (nI 1), .int (nI 0), .int (nI 1), .ref 238])) (by decide +kernel) rfl ?_
              dsimp only
              refine am_Rq.callV (show decode (am_by 107) 101 = .ok (.invokevirtual 57, 3) by decide +kernel) rfl [.int (nI (am_b true)), .int (nI (am_b false)), .int (nI (am_b true))] [] rfl rfl (Nat.le_of_ble_eq_true rfl) rfl hM rfl (m_refused hM true false true) ?_
              rintro _ _ ⟨rfl, rfl⟩
              have hM1 := am_ss (c' := (7, m_ob 1 kn co)) hM
              have hS1 := (am_sn (c' := (7, m_ob 1 kn co)) (show 238 ≠ 239 by decide)).trans hS
              show am_Rq _ 107 104 [some (.ref 238), some (.int x), some (.int y), some (.int u), some (.int z), some (.int (nI 1)), none] [.int (nI (am_b true))] _ _
              refine am_Rq.if1F (show decode (am_by 107) 104 = .ok (.ifCond .eq 5, 3) by decide +kernel) (by decide) (rfl) ?_
              refine am_Rq.blk (is := [(.iconst 0, 1)]) (q := (108, [some (.ref 238), some (.int x), some (.int y), some (.int u), some (.int z), some (.int (nI 1)), none], [.int (nI 0)])) (by decide +kernel) rfl ?_
              dsimp only
              refine am_Rq.ret (v := some (.int (nI 0))) (show decode (am_by 107) 108 = .ok (.ireturn, 1) by decide +kernel) rfl rfl ?_
              exact ⟨_, rfl, rfl, rfl⟩
theorem m_grant_no2 {th kn co : Nat} (hM : hp[238]? = some (7, [.int (nI th), .ref 239, .ref 240, .int (nI kn), .ref 241, .ref 242, .ref 243, .ref 244, .long (lN co), .ref 245])) {s : Nat → Nat} (hS : hp[239]? = some (100, am_ia (fun i => nI (s i)) 160)) (h82 : s 82 ≤ 10) {k : Nat} (hk : k < 8) {y u z : Int32} (hx : rg_r (nI 1) (nI 2000) y = true → rg_r (nI 0) (nI 60) u = true → rg_r (nI 0) (nI 60) z = true → am_c2 .lt z u = false → False) : am_Rq (d + 2) 107 0 (am_en [.ref 238, .int (nI k), .int y, .int u, .int z] 7) [] hp (am_Ret fun hp1 v => hp1 = hp.set 238 (7, m_ob 2 kn co) ∧ v = some (.int (nI (0)))) := by
  show am_Rq _ 107 0 [some (.ref 238), some (.int (nI k)), some (.int y), some (.int u), some (.int z), none, none] [] _ _
  refine am_Rq.blk (is := [(.iload_n 2, 1), (.iconst 1, 1), (.sipush 2000, 3)]) (q := (5, [some (.ref 238), some (.int (nI k)), some (.int y), some (.int u), some (.int z), none, none], [.int (nI 2000), .int (nI 1), .int y])) (by decide +kernel) rfl ?_
  dsimp only
  refine am_Rq.callS (show decode (am_by 107) 5 = .ok (.invokestatic 39, 3) by decide +kernel) rfl [.int y, .int (nI 1), .int (nI 2000)] [] rfl rfl (Nat.le_of_ble_eq_true rfl) rfl rfl (m_in (y) (nI 1) (nI 2000)) ?_
  rintro hq _ ⟨e1, rfl⟩
  rw [e1]
  clear e1 hq
  show am_Rq _ 107 8 [some (.ref 238), some (.int (nI k)), some (.int y), some (.int u), some (.int z), none, none] [.int (nI (am_b (rg_r (nI 1) (nI 2000) (y))))] _ _
  refine am_Rq.if1 (t := 42) (show decode (am_by 107) 8 = .ok (.ifCond .eq 34, 3) by decide +kernel) (by decide) (fun e1 => ?_) (fun e1 => ?_)
  ·
    rw [am_b_eq, Bool.not_eq_true'] at e1
    refine am_Rq.blk (is := [(.iconst 0, 1), (.istore 5, 2), (.aload_n 0, 1), (.iload_n 1, 1)]) (q := (47, [some (.ref 238), some (.int (nI k)), some (.int y), some (.int u), some (.int z), some (.int (nI 0)), none], [.int (nI k), .ref 238])) (by decide +kernel) rfl ?_
    dsimp only
    refine am_Rq.callS (show decode (am_by 107) 47 = .ok (.invokestatic 68, 3) by decide +kernel) rfl [.int (nI k)] [.ref 238] rfl rfl (Nat.le_of_ble_eq_true rfl) rfl rfl (m_isHolder (nI k)) ?_
    rintro hq _ ⟨e1, rfl⟩
    rw [e1]
    clear e1 hq
    show am_Rq _ 107 50 [some (.ref 238), some (.int (nI k)), some (.int y), some (.int u), some (.int z), some (.int (nI 0)), none] [.int (nI (am_b (rg_r (nI 0) (nI 7) (nI k)))), .ref 238] _ _
    refine am_Rq.if1T (t := 57) (show decode (am_by 107) 50 = .ok (.ifCond .ne 7, 3) by decide +kernel) (by decide) (by rw [am_b_ne, rg_le (by omega) (show k ≤ 7 by omega) (by omega)]) ?_
    refine am_Rq.blk (is := [(.iconst 0, 1), (.iload 5, 2)]) (q := (60, [some (.ref 238), some (.int (nI k)), some (.int y), some (.int u), some (.int z), some (.int (nI 0)), none], [.int (nI 0), .int (nI 0), .ref 238])) (by decide +kernel) rfl ?_
    dsimp only
    refine am_Rq.if1F (show decode (am_by 107) 60 = .ok (.ifCond .ne 7, 3) by decide +kernel) (by decide) (rfl) ?_
    refine am_Rq.blk (is := [(.iconst 1, 1), (.goto 4, 3)]) (q := (68, [some (.ref 238), some (.int (nI k)), some (.int y), some (.int u), some (.int z), some (.int (nI 0)), none], [.int (nI 1), .int (nI 0), .ref 238])) (by decide +kernel) rfl ?_
    dsimp only
    refine am_Rq.blk (is := [(.aload_n 0, 1)]) (q := (69, [some (.ref 238), some (.int (nI k)), some (.int y), some (.int u), some (.int z), some (.int (nI 0)), none], [.ref 238, .int (nI 1), .int (nI 0), .ref 238])) (by decide +kernel) rfl ?_
    dsimp only
    refine am_Rq.getf (v := .ref 239) (show decode (am_by 107) 69 = .ok (.getfield 7, 3) by decide +kernel) rfl hM rfl ?_
    refine am_Rq.blk (is := [(.bipush 82, 2)]) (q := (74, [some (.ref 238), some (.int (nI k)), some (.int y), some (.int u), some (.int z), some (.int (nI 0)), none], [.int (nI 82), .ref 239, .int (nI 1), .int (nI 0), .ref 238])) (by decide +kernel) rfl ?_
    dsimp only
    refine am_Rq.ial (k := 82) (show decode (am_by 107) 74 = .ok (.iaload, 1) by decide +kernel) hS (by omega) (by omega) ?_
    refine am_Rq.blk (is := [(.bipush 10, 2)]) (q := (77, [some (.ref 238), some (.int (nI k)), some (.int y), some (.int u), some (.int z), some (.int (nI 0)), none], [.int (nI 10), .int (nI (s 82)), .int (nI 1), .int (nI 0), .ref 238])) (by decide +kernel) rfl ?_
    dsimp only
    refine am_Rq.if2 (t := 96) (show decode (am_by 107) 77 = .ok (.if_icmp .eq 19, 3) by decide +kernel) (by decide) (fun e2 => ?_) (fun e2 => ?_)
    ·
      refine am_Rq.blk (is := [(.iconst 1, 1), (.goto 4, 3)]) (q := (101, [some (.ref 238), some (.int (nI k)), some (.int y), some (.int u), some (.int z), some (.int (nI 0)), none], [.int (nI 1), .int (nI 1), .int (nI 0), .ref 238])) (by decide +kernel) rfl ?_
      dsimp only
      refine am_Rq.callV (show decode (am_by 107) 101 = .ok (.invokevirtual 57, 3) by decide +kernel) rfl [.int (nI (am_b false)), .int (nI (am_b true)), .int (nI (am_b true))] [] rfl rfl (Nat.le_of_ble_eq_true rfl) rfl hM rfl (m_refused hM false true true) ?_
      rintro _ _ ⟨rfl, rfl⟩
      have hM1 := am_ss (c' := (7, m_ob 2 kn co)) hM
      have hS1 := (am_sn (c' := (7, m_ob 2 kn co)) (show 238 ≠ 239 by decide)).trans hS
      show am_Rq _ 107 104 [some (.ref 238), some (.int (nI k)), some (.int y), some (.int u), some (.int z), some (.int (nI 0)), none] [.int (nI (am_b true))] _ _
      refine am_Rq.if1F (show decode (am_by 107) 104 = .ok (.ifCond .eq 5, 3) by decide +kernel) (by decide) (rfl) ?_
      refine am_Rq.blk (is := [(.iconst 0, 1)]) (q := (108, [some (.ref 238), some (.int (nI k)), some (.int y), some (.int u), some (.int z), some (.int (nI 0)), none], [.int (nI 0)])) (by decide +kernel) rfl ?_
      dsimp only
      refine am_Rq.ret (v := some (.int (nI 0))) (show decode (am_by 107) 108 = .ok (.ireturn, 1) by decide +kernel) rfl rfl ?_
      exact ⟨_, rfl, rfl, rfl⟩
    ·
      refine am_Rq.blk (is := [(.aload_n 0, 1)]) (q := (81, [some (.ref 238), some (.int (nI k)), some (.int y), some (.int u), some (.int z), some (.int (nI 0)), none], [.ref 238, .int (nI 1), .int (nI 0), .ref 238])) (by decide +kernel) rfl ?_
      dsimp only
      refine am_Rq.getf (v := .ref 239) (show decode (am_by 107) 81 = .ok (.getfield 7, 3) by decide +kernel) rfl hM rfl ?_
      refine am_Rq.blk (is := [(.bipush 80, 2)]) (q := (86, [some (.ref 238), some (.int (nI k)), some (.int y), some (.int u), some (.int z), some (.int (nI 0)), none], [.int (nI 80), .ref 239, .int (nI 1), .int (nI 0), .ref 238])) (by decide +kernel) rfl ?_
      dsimp only
      refine am_Rq.ial (k := 80) (show decode (am_by 107) 86 = .ok (.iaload, 1) by decide +kernel) hS (by omega) (by omega) ?_
      refine am_Rq.blk (is := [(.aload_n 0, 1)]) (q := (88, [some (.ref 238), some (.int (nI k)), some (.int y), some (.int u), some (.int z), some (.int (nI 0)), none], [.ref 238, .int (nI (s 80)), .int (nI 1), .int (nI 0), .ref 238])) (by decide +kernel) rfl ?_
      dsimp only
      refine am_Rq.callV (show decode (am_by 107) 88 = .ok (.invokevirtual 80, 3) by decide +kernel) rfl [] [.int (nI (s 80)), .int (nI 1), .int (nI 0), .ref 238] rfl rfl (Nat.le_of_ble_eq_true rfl) rfl hM rfl (m_grantedNow hM hS h82) ?_
      rintro hq _ ⟨e1, rfl⟩
      rw [e1]
      clear e1 hq
      show am_Rq _ 107 91 [some (.ref 238), some (.int (nI k)), some (.int y), some (.int u), some (.int z), some (.int (nI 0)), none] [.int (nI (sp_sm (fun g => s (83 + 7 * g + 1)) (s 82))), .int (nI (s 80)), .int (nI 1), .int (nI 0), .ref 238] _ _
      refine am_Rq.blk (is := [(.isub, 1), (.iload_n 2, 1)]) (q := (93, [some (.ref 238), some (.int (nI k)), some (.int y), some (.int u), some (.int z), some (.int (nI 0)), none], [.int y, .int ((nI (s 80)) - (nI (sp_sm (fun g => s (83 + 7 * g + 1)) (s 82)))), .int (nI 1), .int (nI 0), .ref 238])) (by decide +kernel) rfl ?_
      dsimp only
      refine am_Rq.if2 (t := 100) (show decode (am_by 107) 93 = .ok (.if_icmp .ge 7, 3) by decide +kernel) (by decide) (fun e3 => ?_) (fun e3 => ?_)
      ·
        refine am_Rq.blk (is := [(.iconst 0, 1)]) (q := (101, [some (.ref 238), some (.int (nI k)), some (.int y), some (.int u), some (.int z), some (.int (nI 0)), none], [.int (nI 0), .int (nI 1), .int (nI 0), .ref 238])) (by decide +kernel) rfl ?_
        dsimp only
        refine am_Rq.callV (show decode (am_by 107) 101 = .ok (.invokevirtual 57, 3) by decide +kernel) rfl [.int (nI (am_b false)), .int (nI (am_b true)), .int (nI (am_b false))] [] rfl rfl (Nat.le_of_ble_eq_true rfl) rfl hM rfl (m_refused hM false true false) ?_
        rintro _ _ ⟨rfl, rfl⟩
        have hM1 := am_ss (c' := (7, m_ob 2 kn co)) hM
        have hS1 := (am_sn (c' := (7, m_ob 2 kn co)) (show 238 ≠ 239 by decide)).trans hS
        show am_Rq _ 107 104 [some (.ref 238), some (.int (nI k)), some (.int y), some (.int u), some (.int z), some (.int (nI 0)), none] [.int (nI (am_b true))] _ _
        refine am_Rq.if1F (show decode (am_by 107) 104 = .ok (.ifCond .eq 5, 3) by decide +kernel) (by decide) (rfl) ?_
        refine am_Rq.blk (is := [(.iconst 0, 1)]) (q := (108, [some (.ref 238), some (.int (nI k)), some (.int y), some (.int u), some (.int z), some (.int (nI 0)), none], [.int (nI 0)])) (by decide +kernel) rfl ?_
        dsimp only
        refine am_Rq.ret (v := some (.int (nI 0))) (show decode (am_by 107) 108 = .ok (.ireturn, 1) by decide +kernel) rfl rfl ?_
        exact ⟨_, rfl, rfl, rfl⟩
      ·
        refine am_Rq.blk (is := [(.iconst 1, 1), (.goto 4, 3)]) (q := (101, [some (.ref 238), some (.int (nI k)), some (.int y), some (.int u), some (.int z), some (.int (nI 0)), none], [.int (nI 1), .int (nI 1), .int (nI 0), .ref 238])) (by decide +kernel) rfl ?_
        dsimp only
        refine am_Rq.callV (show decode (am_by 107) 101 = .ok (.invokevirtual 57, 3) by decide +kernel) rfl [.int (nI (am_b false)), .int (nI (am_b true)), .int (nI (am_b true))] [] rfl rfl (Nat.le_of_ble_eq_true rfl) rfl hM rfl (m_refused hM false true true) ?_
        rintro _ _ ⟨rfl, rfl⟩
        have hM1 := am_ss (c' := (7, m_ob 2 kn co)) hM
        have hS1 := (am_sn (c' := (7, m_ob 2 kn co)) (show 238 ≠ 239 by decide)).trans hS
        show am_Rq _ 107 104 [some (.ref 238), some (.int (nI k)), some (.int y), some (.int u), some (.int z), some (.int (nI 0)), none] [.int (nI (am_b true))] _ _
        refine am_Rq.if1F (show decode (am_by 107) 104 = .ok (.ifCond .eq 5, 3) by decide +kernel) (by decide) (rfl) ?_
        refine am_Rq.blk (is := [(.iconst 0, 1)]) (q := (108, [some (.ref 238), some (.int (nI k)), some (.int y), some (.int u), some (.int z), some (.int (nI 0)), none], [.int (nI 0)])) (by decide +kernel) rfl ?_
        dsimp only
        refine am_Rq.ret (v := some (.int (nI 0))) (show decode (am_by 107) 108 = .ok (.ireturn, 1) by decide +kernel) rfl rfl ?_
        exact ⟨_, rfl, rfl, rfl⟩
  ·
    rw [am_b_eq, Bool.not_eq_false'] at e1
    refine am_Rq.blk (is := [(.iload_n 3, 1), (.iconst 0, 1), (.bipush 60, 2)]) (q := (15, [some (.ref 238), some (.int (nI k)), some (.int y), some (.int u), some (.int z), none, none], [.int (nI 60), .int (nI 0), .int u])) (by decide +kernel) rfl ?_
    dsimp only
    refine am_Rq.callS (show decode (am_by 107) 15 = .ok (.invokestatic 39, 3) by decide +kernel) rfl [.int u, .int (nI 0), .int (nI 60)] [] rfl rfl (Nat.le_of_ble_eq_true rfl) rfl rfl (m_in (u) (nI 0) (nI 60)) ?_
    rintro hq _ ⟨e1, rfl⟩
    rw [e1]
    clear e1 hq
    show am_Rq _ 107 18 [some (.ref 238), some (.int (nI k)), some (.int y), some (.int u), some (.int z), none, none] [.int (nI (am_b (rg_r (nI 0) (nI 60) (u))))] _ _
    refine am_Rq.if1 (t := 42) (show decode (am_by 107) 18 = .ok (.ifCond .eq 24, 3) by decide +kernel) (by decide) (fun e2 => ?_) (fun e2 => ?_)
    ·
      rw [am_b_eq, Bool.not_eq_true'] at e2
      refine am_Rq.blk (is := [(.iconst 0, 1), (.istore 5, 2), (.aload_n 0, 1), (.iload_n 1, 1)]) (q := (47, [some (.ref 238), some (.int (nI k)), some (.int y), some (.int u), some (.int z), some (.int (nI 0)), none], [.int (nI k), .ref 238])) (by decide +kernel) rfl ?_
      dsimp only
      refine am_Rq.callS (show decode (am_by 107) 47 = .ok (.invokestatic 68, 3) by decide +kernel) rfl [.int (nI k)] [.ref 238] rfl rfl (Nat.le_of_ble_eq_true rfl) rfl rfl (m_isHolder (nI k)) ?_
      rintro hq _ ⟨e1, rfl⟩
      rw [e1]
      clear e1 hq
      show am_Rq _ 107 50 [some (.ref 238), some (.int (nI k)), some (.int y), some (.int u), some (.int z), some (.int (nI 0)), none] [.int (nI (am_b (rg_r (nI 0) (nI 7) (nI k)))), .ref 238] _ _
      refine am_Rq.if1T (t := 57) (show decode (am_by 107) 50 = .ok (.ifCond .ne 7, 3) by decide +kernel) (by decide) (by rw [am_b_ne, rg_le (by omega) (show k ≤ 7 by omega) (by omega)]) ?_
      refine am_Rq.blk (is := [(.iconst 0, 1), (.iload 5, 2)]) (q := (60, [some (.ref 238), some (.int (nI k)), some (.int y), some (.int u), some (.int z), some (.int (nI 0)), none], [.int (nI 0), .int (nI 0), .ref 238])) (by decide +kernel) rfl ?_
      dsimp only
      refine am_Rq.if1F (show decode (am_by 107) 60 = .ok (.ifCond .ne 7, 3) by decide +kernel) (by decide) (rfl) ?_
      refine am_Rq.blk (is := [(.iconst 1, 1), (.goto 4, 3)]) (q := (68, [some (.ref 238), some (.int (nI k)), some (.int y), some (.int u), some (.int z), some (.int (nI 0)), none], [.int (nI 1), .int (nI 0), .ref 238])) (by decide +kernel) rfl ?_
      dsimp only
      refine am_Rq.blk (is := [(.aload_n 0, 1)]) (q := (69, [some (.ref 238), some (.int (nI k)), some (.int y), some (.int u), some (.int z), some (.int (nI 0)), none], [.ref 238, .int (nI 1), .int (nI 0), .ref 238])) (by decide +kernel) rfl ?_
      dsimp only
      refine am_Rq.getf (v := .ref 239) (show decode (am_by 107) 69 = .ok (.getfield 7, 3) by decide +kernel) rfl hM rfl ?_
      refine am_Rq.blk (is := [(.bipush 82, 2)]) (q := (74, [some (.ref 238), some (.int (nI k)), some (.int y), some (.int u), some (.int z), some (.int (nI 0)), none], [.int (nI 82), .ref 239, .int (nI 1), .int (nI 0), .ref 238])) (by decide +kernel) rfl ?_
      dsimp only
      refine am_Rq.ial (k := 82) (show decode (am_by 107) 74 = .ok (.iaload, 1) by decide +kernel) hS (by omega) (by omega) ?_
      refine am_Rq.blk (is := [(.bipush 10, 2)]) (q := (77, [some (.ref 238), some (.int (nI k)), some (.int y), some (.int u), some (.int z), some (.int (nI 0)), none], [.int (nI 10), .int (nI (s 82)), .int (nI 1), .int (nI 0), .ref 238])) (by decide +kernel) rfl ?_
      dsimp only
      refine am_Rq.if2 (t := 96) (show decode (am_by 107) 77 = .ok (.if_icmp .eq 19, 3) by decide +kernel) (by decide) (fun e3 => ?_) (fun e3 => ?_)
      ·
        refine am_Rq.blk (is := [(.iconst 1, 1), (.goto 4, 3)]) (q := (101, [some (.ref 238), some (.int (nI k)), some (.int y), some (.int u), some (.int z), some (.int (nI 0)), none], [.int (nI 1), .int (nI 1), .int (nI 0), .ref 238])) (by decide +kernel) rfl ?_
        dsimp only
        refine am_Rq.callV (show decode (am_by 107) 101 = .ok (.invokevirtual 57, 3) by decide +kernel) rfl [.int (nI (am_b false)), .int (nI (am_b true)), .int (nI (am_b true))] [] rfl rfl (Nat.le_of_ble_eq_true rfl) rfl hM rfl (m_refused hM false true true) ?_
        rintro _ _ ⟨rfl, rfl⟩
        have hM1 := am_ss (c' := (7, m_ob 2 kn co)) hM
        have hS1 := (am_sn (c' := (7, m_ob 2 kn co)) (show 238 ≠ 239 by decide)).trans hS
        show am_Rq _ 107 104 [some (.ref 238), some (.int (nI k)), some (.int y), some (.int u), some (.int z), some (.int (nI 0)), none] [.int (nI (am_b true))] _ _
        refine am_Rq.if1F (show decode (am_by 107) 104 = .ok (.ifCond .eq 5, 3) by decide +kernel) (by decide) (rfl) ?_
        refine am_Rq.blk (is := [(.iconst 0, 1)]) (q := (108, [some (.ref 238), some (.int (nI k)), some (.int y), some (.int u), some (.int z), some (.int (nI 0)), none], [.int (nI 0)])) (by decide +kernel) rfl ?_
        dsimp only
        refine am_Rq.ret (v := some (.int (nI 0))) (show decode (am_by 107) 108 = .ok (.ireturn, 1) by decide +kernel) rfl rfl ?_
        exact ⟨_, rfl, rfl, rfl⟩
      ·
        refine am_Rq.blk (is := [(.aload_n 0, 1)]) (q := (81, [some (.ref 238), some (.int (nI k)), some (.int y), some (.int u), some (.int z), some (.int (nI 0)), none], [.ref 238, .int (nI 1), .int (nI 0), .ref 238])) (by decide +kernel) rfl ?_
        dsimp only
        refine am_Rq.getf (v := .ref 239) (show decode (am_by 107) 81 = .ok (.getfield 7, 3) by decide +kernel) rfl hM rfl ?_
        refine am_Rq.blk (is := [(.bipush 80, 2)]) (q := (86, [some (.ref 238), some (.int (nI k)), some (.int y), some (.int u), some (.int z), some (.int (nI 0)), none], [.int (nI 80), .ref 239, .int (nI 1), .int (nI 0), .ref 238])) (by decide +kernel) rfl ?_
        dsimp only
        refine am_Rq.ial (k := 80) (show decode (am_by 107) 86 = .ok (.iaload, 1) by decide +kernel) hS (by omega) (by omega) ?_
        refine am_Rq.blk (is := [(.aload_n 0, 1)]) (q := (88, [some (.ref 238), some (.int (nI k)), some (.int y), some (.int u), some (.int z), some (.int (nI 0)), none], [.ref 238, .int (nI (s 80)), .int (nI 1), .int (nI 0), .ref 238])) (by decide +kernel) rfl ?_
        dsimp only
        refine am_Rq.callV (show decode (am_by 107) 88 = .ok (.invokevirtual 80, 3) by decide +kernel) rfl [] [.int (nI (s 80)), .int (nI 1), .int (nI 0), .ref 238] rfl rfl (Nat.le_of_ble_eq_true rfl) rfl hM rfl (m_grantedNow hM hS h82) ?_
        rintro hq _ ⟨e1, rfl⟩
        rw [e1]
        clear e1 hq
        show am_Rq _ 107 91 [some (.ref 238), some (.int (nI k)), some (.int y), some (.int u), some (.int z), some (.int (nI 0)), none] [.int (nI (sp_sm (fun g => s (83 + 7 * g + 1)) (s 82))), .int (nI (s 80)), .int (nI 1), .int (nI 0), .ref 238] _ _
        refine am_Rq.blk (is := [(.isub, 1), (.iload_n 2, 1)]) (q := (93, [some (.ref 238), some (.int (nI k)), some (.int y), some (.int u), some (.int z), some (.int (nI 0)), none], [.int y, .int ((nI (s 80)) - (nI (sp_sm (fun g => s (83 + 7 * g + 1)) (s 82)))), .int (nI 1), .int (nI 0), .ref 238])) (by decide +kernel) rfl ?_
        dsimp only
        refine am_Rq.if2 (t := 100) (show decode (am_by 107) 93 = .ok (.if_icmp .ge 7, 3) by decide +kernel) (by decide) (fun e4 => ?_) (fun e4 => ?_)
        ·
          refine am_Rq.blk (is := [(.iconst 0, 1)]) (q := (101, [some (.ref 238), some (.int (nI k)), some (.int y), some (.int u), some (.int z), some (.int (nI 0)), none], [.int (nI 0), .int (nI 1), .int (nI 0), .ref 238])) (by decide +kernel) rfl ?_
          dsimp only
          refine am_Rq.callV (show decode (am_by 107) 101 = .ok (.invokevirtual 57, 3) by decide +kernel) rfl [.int (nI (am_b false)), .int (nI (am_b true)), .int (nI (am_b false))] [] rfl rfl (Nat.le_of_ble_eq_true rfl) rfl hM rfl (m_refused hM false true false) ?_
          rintro _ _ ⟨rfl, rfl⟩
          have hM1 := am_ss (c' := (7, m_ob 2 kn co)) hM
          have hS1 := (am_sn (c' := (7, m_ob 2 kn co)) (show 238 ≠ 239 by decide)).trans hS
          show am_Rq _ 107 104 [some (.ref 238), some (.int (nI k)), some (.int y), some (.int u), some (.int z), some (.int (nI 0)), none] [.int (nI (am_b true))] _ _
          refine am_Rq.if1F (show decode (am_by 107) 104 = .ok (.ifCond .eq 5, 3) by decide +kernel) (by decide) (rfl) ?_
          refine am_Rq.blk (is := [(.iconst 0, 1)]) (q := (108, [some (.ref 238), some (.int (nI k)), some (.int y), some (.int u), some (.int z), some (.int (nI 0)), none], [.int (nI 0)])) (by decide +kernel) rfl ?_
          dsimp only
          refine am_Rq.ret (v := some (.int (nI 0))) (show decode (am_by 107) 108 = .ok (.ireturn, 1) by decide +kernel) rfl rfl ?_
          exact ⟨_, rfl, rfl, rfl⟩
        ·
          refine am_Rq.blk (is := [(.iconst 1, 1), (.goto 4, 3)]) (q := (101, [some (.ref 238), some (.int (nI k)), some (.int y), some (.int u), some (.int z), some (.int (nI 0)), none], [.int (nI 1), .int (nI 1), .int (nI 0), .ref 238])) (by decide +kernel) rfl ?_
          dsimp only
          refine am_Rq.callV (show decode (am_by 107) 101 = .ok (.invokevirtual 57, 3) by decide +kernel) rfl [.int (nI (am_b false)), .int (nI (am_b true)), .int (nI (am_b true))] [] rfl rfl (Nat.le_of_ble_eq_true rfl) rfl hM rfl (m_refused hM false true true) ?_
          rintro _ _ ⟨rfl, rfl⟩
          have hM1 := am_ss (c' := (7, m_ob 2 kn co)) hM
          have hS1 := (am_sn (c' := (7, m_ob 2 kn co)) (show 238 ≠ 239 by decide)).trans hS
          show am_Rq _ 107 104 [some (.ref 238), some (.int (nI k)), some (.int y), some (.int u), some (.int z), some (.int (nI 0)), none] [.int (nI (am_b true))] _ _
          refine am_Rq.if1F (show decode (am_by 107) 104 = .ok (.ifCond .eq 5, 3) by decide +kernel) (by decide) (rfl) ?_
          refine am_Rq.blk (is := [(.iconst 0, 1)]) (q := (108, [some (.ref 238), some (.int (nI k)), some (.int y), some (.int u), some (.int z), some (.int (nI 0)), none], [.int (nI 0)])) (by decide +kernel) rfl ?_
          dsimp only
          refine am_Rq.ret (v := some (.int (nI 0))) (show decode (am_by 107) 108 = .ok (.ireturn, 1) by decide +kernel) rfl rfl ?_
          exact ⟨_, rfl, rfl, rfl⟩
    ·
      rw [am_b_eq, Bool.not_eq_false'] at e2
      refine am_Rq.blk (is := [(.iload 4, 2), (.iconst 0, 1), (.bipush 60, 2)]) (q := (26, [some (.ref 238), some (.int (nI k)), some (.int y), some (.int u), some (.int z), none, none], [.int (nI 60), .int (nI 0), .int z])) (by decide +kernel) rfl ?_
      dsimp only
      refine am_Rq.callS (show decode (am_by 107) 26 = .ok (.invokestatic 39, 3) by decide +kernel) rfl [.int z, .int (nI 0), .int (nI 60)] [] rfl rfl (Nat.le_of_ble_eq_true rfl) rfl rfl (m_in (z) (nI 0) (nI 60)) ?_
      rintro hq _ ⟨e1, rfl⟩
      rw [e1]
      clear e1 hq
      show am_Rq _ 107 29 [some (.ref 238), some (.int (nI k)), some (.int y), some (.int u), some (.int z), none, none] [.int (nI (am_b (rg_r (nI 0) (nI 60) (z))))] _ _
      refine am_Rq.if1 (t := 42) (show decode (am_by 107) 29 = .ok (.ifCond .eq 13, 3) by decide +kernel) (by decide) (fun e3 => ?_) (fun e3 => ?_)
      ·
        rw [am_b_eq, Bool.not_eq_true'] at e3
        refine am_Rq.blk (is := [(.iconst 0, 1), (.istore 5, 2), (.aload_n 0, 1), (.iload_n 1, 1)]) (q := (47, [some (.ref 238), some (.int (nI k)), some (.int y), some (.int u), some (.int z), some (.int (nI 0)), none], [.int (nI k), .ref 238])) (by decide +kernel) rfl ?_
        dsimp only
        refine am_Rq.callS (show decode (am_by 107) 47 = .ok (.invokestatic 68, 3) by decide +kernel) rfl [.int (nI k)] [.ref 238] rfl rfl (Nat.le_of_ble_eq_true rfl) rfl rfl (m_isHolder (nI k)) ?_
        rintro hq _ ⟨e1, rfl⟩
        rw [e1]
        clear e1 hq
        show am_Rq _ 107 50 [some (.ref 238), some (.int (nI k)), some (.int y), some (.int u), some (.int z), some (.int (nI 0)), none] [.int (nI (am_b (rg_r (nI 0) (nI 7) (nI k)))), .ref 238] _ _
        refine am_Rq.if1T (t := 57) (show decode (am_by 107) 50 = .ok (.ifCond .ne 7, 3) by decide +kernel) (by decide) (by rw [am_b_ne, rg_le (by omega) (show k ≤ 7 by omega) (by omega)]) ?_
        refine am_Rq.blk (is := [(.iconst 0, 1), (.iload 5, 2)]) (q := (60, [some (.ref 238), some (.int (nI k)), some (.int y), some (.int u), some (.int z), some (.int (nI 0)), none], [.int (nI 0), .int (nI 0), .ref 238])) (by decide +kernel) rfl ?_
        dsimp only
        refine am_Rq.if1F (show decode (am_by 107) 60 = .ok (.ifCond .ne 7, 3) by decide +kernel) (by decide) (rfl) ?_
        refine am_Rq.blk (is := [(.iconst 1, 1), (.goto 4, 3)]) (q := (68, [some (.ref 238), some (.int (nI k)), some (.int y), some (.int u), some (.int z), some (.int (nI 0)), none], [.int (nI 1), .int (nI 0), .ref 238])) (by decide +kernel) rfl ?_
        dsimp only
        refine am_Rq.blk (is := [(.aload_n 0, 1)]) (q := (69, [some (.ref 238), some (.int (nI k)), some (.int y), some (.int u), some (.int z), some (.int (nI 0)), none], [.ref 238, .int (nI 1), .int (nI 0), .ref 238])) (by decide +kernel) rfl ?_
        dsimp only
        refine am_Rq.getf (v := .ref 239) (show decode (am_by 107) 69 = .ok (.getfield 7, 3) by decide +kernel) rfl hM rfl ?_
        refine am_Rq.blk (is := [(.bipush 82, 2)]) (q := (74, [some (.ref 238), some (.int (nI k)), some (.int y), some (.int u), some (.int z), some (.int (nI 0)), none], [.int (nI 82), .ref 239, .int (nI 1), .int (nI 0), .ref 238])) (by decide +kernel) rfl ?_
        dsimp only
        refine am_Rq.ial (k := 82) (show decode (am_by 107) 74 = .ok (.iaload, 1) by decide +kernel) hS (by omega) (by omega) ?_
        refine am_Rq.blk (is := [(.bipush 10, 2)]) (q := (77, [some (.ref 238), some (.int (nI k)), some (.int y), some (.int u), some (.int z), some (.int (nI 0)), none], [.int (nI 10), .int (nI (s 82)), .int (nI 1), .int (nI 0), .ref 238])) (by decide +kernel) rfl ?_
        dsimp only
        refine am_Rq.if2 (t := 96) (show decode (am_by 107) 77 = .ok (.if_icmp .eq 19, 3) by decide +kernel) (by decide) (fun e4 => ?_) (fun e4 => ?_)
        ·
          refine am_Rq.blk (is := [(.iconst 1, 1), (.goto 4, 3)]) (q := (101, [some (.ref 238), some (.int (nI k)), some (.int y), some (.int u), some (.int z), some (.int (nI 0)), none], [.int (nI 1), .int (nI 1), .int (nI 0), .ref 238])) (by decide +kernel) rfl ?_
          dsimp only
          refine am_Rq.callV (show decode (am_by 107) 101 = .ok (.invokevirtual 57, 3) by decide +kernel) rfl [.int (nI (am_b false)), .int (nI (am_b true)), .int (nI (am_b true))] [] rfl rfl (Nat.le_of_ble_eq_true rfl) rfl hM rfl (m_refused hM false true true) ?_
          rintro _ _ ⟨rfl, rfl⟩
          have hM1 := am_ss (c' := (7, m_ob 2 kn co)) hM
          have hS1 := (am_sn (c' := (7, m_ob 2 kn co)) (show 238 ≠ 239 by decide)).trans hS
          show am_Rq _ 107 104 [some (.ref 238), some (.int (nI k)), some (.int y), some (.int u), some (.int z), some (.int (nI 0)), none] [.int (nI (am_b true))] _ _
          refine am_Rq.if1F (show decode (am_by 107) 104 = .ok (.ifCond .eq 5, 3) by decide +kernel) (by decide) (rfl) ?_
          refine am_Rq.blk (is := [(.iconst 0, 1)]) (q := (108, [some (.ref 238), some (.int (nI k)), some (.int y), some (.int u), some (.int z), some (.int (nI 0)), none], [.int (nI 0)])) (by decide +kernel) rfl ?_
          dsimp only
          refine am_Rq.ret (v := some (.int (nI 0))) (show decode (am_by 107) 108 = .ok (.ireturn, 1) by decide +kernel) rfl rfl ?_
          exact ⟨_, rfl, rfl, rfl⟩
        ·
          refine am_Rq.blk (is := [(.aload_n 0, 1)]) (q := (81, [some (.ref 238), some (.int (nI k)), some (.int y), some (.int u), some (.int z), some (.int (nI 0)), none], [.ref 238, .int (nI 1), .int (nI 0), .ref 238])) (by decide +kernel) rfl ?_
          dsimp only
          refine am_Rq.getf (v := .ref 239) (show decode (am_by 107) 81 = .ok (.getfield 7, 3) by decide +kernel) rfl hM rfl ?_
          refine am_Rq.blk (is := [(.bipush 80, 2)]) (q := (86, [some (.ref 238), some (.int (nI k)), some (.int y), some (.int u), some (.int z), some (.int (nI 0)), none], [.int (nI 80), .ref 239, .int (nI 1), .int (nI 0), .ref 238])) (by decide +kernel) rfl ?_
          dsimp only
          refine am_Rq.ial (k := 80) (show decode (am_by 107) 86 = .ok (.iaload, 1) by decide +kernel) hS (by omega) (by omega) ?_
          refine am_Rq.blk (is := [(.aload_n 0, 1)]) (q := (88, [some (.ref 238), some (.int (nI k)), some (.int y), some (.int u), some (.int z), some (.int (nI 0)), none], [.ref 238, .int (nI (s 80)), .int (nI 1), .int (nI 0), .ref 238])) (by decide +kernel) rfl ?_
          dsimp only
          refine am_Rq.callV (show decode (am_by 107) 88 = .ok (.invokevirtual 80, 3) by decide +kernel) rfl [] [.int (nI (s 80)), .int (nI 1), .int (nI 0), .ref 238] rfl rfl (Nat.le_of_ble_eq_true rfl) rfl hM rfl (m_grantedNow hM hS h82) ?_
          rintro hq _ ⟨e1, rfl⟩
          rw [e1]
          clear e1 hq
          show am_Rq _ 107 91 [some (.ref 238), some (.int (nI k)), some (.int y), some (.int u), some (.int z), some (.int (nI 0)), none] [.int (nI (sp_sm (fun g => s (83 + 7 * g + 1)) (s 82))), .int (nI (s 80)), .int (nI 1), .int (nI 0), .ref 238] _ _
          refine am_Rq.blk (is := [(.isub, 1), (.iload_n 2, 1)]) (q := (93, [some (.ref 238), some (.int (nI k)), some (.int y), some (.int u), some (.int z), some (.int (nI 0)), none], [.int y, .int ((nI (s 80)) - (nI (sp_sm (fun g => s (83 + 7 * g + 1)) (s 82)))), .int (nI 1), .int (nI 0), .ref 238])) (by decide +kernel) rfl ?_
          dsimp only
          refine am_Rq.if2 (t := 100) (show decode (am_by 107) 93 = .ok (.if_icmp .ge 7, 3) by decide +kernel) (by decide) (fun e5 => ?_) (fun e5 => ?_)
          ·
            refine am_Rq.blk (is := [(.iconst 0, 1)]) (q := (101, [some (.ref 238), some (.int (nI k)), some (.int y), some (.int u), some (.int z), some (.int (nI 0)), none], [.int (nI 0), .int (nI 1), .int (nI 0), .ref 238])) (by decide +kernel) rfl ?_
            dsimp only
            refine am_Rq.callV (show decode (am_by 107) 101 = .ok (.invokevirtual 57, 3) by decide +kernel) rfl [.int (nI (am_b false)), .int (nI (am_b true)), .int (nI (am_b false))] [] rfl rfl (Nat.le_of_ble_eq_true rfl) rfl hM rfl (m_refused hM false true false) ?_
            rintro _ _ ⟨rfl, rfl⟩
            have hM1 := am_ss (c' := (7, m_ob 2 kn co)) hM
            have hS1 := (am_sn (c' := (7, m_ob 2 kn co)) (show 238 ≠ 239 by decide)).trans hS
            show am_Rq _ 107 104 [some (.ref 238), some (.int (nI k)), some (.int y), some (.int u), some (.int z), some (.int (nI 0)), none] [.int (nI (am_b true))] _ _
            refine am_Rq.if1F (show decode (am_by 107) 104 = .ok (.ifCond .eq 5, 3) by decide +kernel) (by decide) (rfl) ?_
            refine am_Rq.blk (is := [(.iconst 0, 1)]) (q := (108, [some (.ref 238), some (.int (nI k)), some (.int y), some (.int u), some (.int z), some (.int (nI 0)), none], [.int (nI 0)])) (by decide +kernel) rfl ?_
            dsimp only
            refine am_Rq.ret (v := some (.int (nI 0))) (show decode (am_by 107) 108 = .ok (.ireturn, 1) by decide +kernel) rfl rfl ?_
            exact ⟨_, rfl, rfl, rfl⟩
          ·
            refine am_Rq.blk (is := [(.iconst 1, 1), (.goto 4, 3)]) (q := (101, [some (.ref 238), some (.int (nI k)), some (.int y), some (.int u), some (.int z), some (.int (nI 0)), none], [.int (nI 1), .int (nI 1), .int (nI 0), .ref 238])) (by decide +kernel) rfl ?_
            dsimp only
            refine am_Rq.callV (show decode (am_by 107) 101 = .ok (.invokevirtual 57, 3) by decide +kernel) rfl [.int (nI (am_b false)), .int (nI (am_b true)), .int (nI (am_b true))] [] rfl rfl (Nat.le_of_ble_eq_true rfl) rfl hM rfl (m_refused hM false true true) ?_
            rintro _ _ ⟨rfl, rfl⟩
            have hM1 := am_ss (c' := (7, m_ob 2 kn co)) hM
            have hS1 := (am_sn (c' := (7, m_ob 2 kn co)) (show 238 ≠ 239 by decide)).trans hS
            show am_Rq _ 107 104 [some (.ref 238), some (.int (nI k)), some (.int y), some (.int u), some (.int z), some (.int (nI 0)), none] [.int (nI (am_b true))] _ _
            refine am_Rq.if1F (show decode (am_by 107) 104 = .ok (.ifCond .eq 5, 3) by decide +kernel) (by decide) (rfl) ?_
            refine am_Rq.blk (is := [(.iconst 0, 1)]) (q := (108, [some (.ref 238), some (.int (nI k)), some (.int y), some (.int u), some (.int z), some (.int (nI 0)), none], [.int (nI 0)])) (by decide +kernel) rfl ?_
            dsimp only
            refine am_Rq.ret (v := some (.int (nI 0))) (show decode (am_by 107) 108 = .ok (.ireturn, 1) by decide +kernel) rfl rfl ?_
            exact ⟨_, rfl, rfl, rfl⟩
      ·
        rw [am_b_eq, Bool.not_eq_false'] at e3
        refine am_Rq.blk (is := [(.iload 4, 2), (.iload_n 3, 1)]) (q := (35, [some (.ref 238), some (.int (nI k)), some (.int y), some (.int u), some (.int z), none, none], [.int u, .int z])) (by decide +kernel) rfl ?_
        dsimp only
        refine am_Rq.if2 (t := 42) (show decode (am_by 107) 35 = .ok (.if_icmp .lt 7, 3) by decide +kernel) (by decide) (fun e4 => ?_) (fun e4 => ?_)
        ·
          refine am_Rq.blk (is := [(.iconst 0, 1), (.istore 5, 2), (.aload_n 0, 1), (.iload_n 1, 1)]) (q := (47, [some (.ref 238), some (.int (nI k)), some (.int y), some (.int u), some (.int z), some (.int (nI 0)), none], [.int (nI k), .ref 238])) (by decide +kernel) rfl ?_
          dsimp only
          refine am_Rq.callS (show decode (am_by 107) 47 = .ok (.invokestatic 68, 3) by decide +kernel) rfl [.int (nI k)] [.ref 238] rfl rfl (Nat.le_of_ble_eq_true rfl) rfl rfl (m_isHolder (nI k)) ?_
          rintro hq _ ⟨e1, rfl⟩
          rw [e1]
          clear e1 hq
          show am_Rq _ 107 50 [some (.ref 238), some (.int (nI k)), some (.int y), some (.int u), some (.int z), some (.int (nI 0)), none] [.int (nI (am_b (rg_r (nI 0) (nI 7) (nI k)))), .ref 238] _ _
          refine am_Rq.if1T (t := 57) (show decode (am_by 107) 50 = .ok (.ifCond .ne 7, 3) by decide +kernel) (by decide) (by rw [am_b_ne, rg_le (by omega) (show k ≤ 7 by omega) (by omega)]) ?_
          refine am_Rq.blk (is := [(.iconst 0, 1), (.iload 5, 2)]) (q := (60, [some (.ref 238), some (.int (nI k)), some (.int y), some (.int u), some (.int z), some (.int (nI 0)), none], [.int (nI 0), .int (nI 0), .ref 238])) (by decide +kernel) rfl ?_
          dsimp only
          refine am_Rq.if1F (show decode (am_by 107) 60 = .ok (.ifCond .ne 7, 3) by decide +kernel) (by decide) (rfl) ?_
          refine am_Rq.blk (is := [(.iconst 1, 1), (.goto 4, 3)]) (q := (68, [some (.ref 238), some (.int (nI k)), some (.int y), some (.int u), some (.int z), some (.int (nI 0)), none], [.int (nI 1), .int (nI 0), .ref 238])) (by decide +kernel) rfl ?_
          dsimp only
          refine am_Rq.blk (is := [(.aload_n 0, 1)]) (q := (69, [some (.ref 238), some (.int (nI k)), some (.int y), some (.int u), some (.int z), some (.int (nI 0)), none], [.ref 238, .int (nI 1), .int (nI 0), .ref 238])) (by decide +kernel) rfl ?_
          dsimp only
          refine am_Rq.getf (v := .ref 239) (show decode (am_by 107) 69 = .ok (.getfield 7, 3) by decide +kernel) rfl hM rfl ?_
          refine am_Rq.blk (is := [(.bipush 82, 2)]) (q := (74, [some (.ref 238), some (.int (nI k)), some (.int y), some (.int u), some (.int z), some (.int (nI 0)), none], [.int (nI 82), .ref 239, .int (nI 1), .int (nI 0), .ref 238])) (by decide +kernel) rfl ?_
          dsimp only
          refine am_Rq.ial (k := 82) (show decode (am_by 107) 74 = .ok (.iaload, 1) by decide +kernel) hS (by omega) (by omega) ?_
          refine am_Rq.blk (is := [(.bipush 10, 2)]) (q := (77, [some (.ref 238), some (.int (nI k)), some (.int y), some (.int u), some (.int z), some (.int (nI 0)), none], [.int (nI 10), .int (nI (s 82)), .int (nI 1), .int (nI 0), .ref 238])) (by decide +kernel) rfl ?_
          dsimp only
          refine am_Rq.if2 (t := 96) (show decode (am_by 107) 77 = .ok (.if_icmp .eq 19, 3) by decide +kernel) (by decide) (fun e5 => ?_) (fun e5 => ?_)
          ·
            refine am_Rq.blk (is := [(.iconst 1, 1), (.goto 4, 3)]) (q := (101, [some (.ref 238), some (.int (nI k)), some (.int y), some (.int u), some (.int z), some (.int (nI 0)), none], [.int (nI 1), .int (nI 1), .int (nI 0), .ref 238])) (by decide +kernel) rfl ?_
            dsimp only
            refine am_Rq.callV (show decode (am_by 107) 101 = .ok (.invokevirtual 57, 3) by decide +kernel) rfl [.int (nI (am_b false)), .int (nI (am_b true)), .int (nI (am_b true))] [] rfl rfl (Nat.le_of_ble_eq_true rfl) rfl hM rfl (m_refused hM false true true) ?_
            rintro _ _ ⟨rfl, rfl⟩
            have hM1 := am_ss (c' := (7, m_ob 2 kn co)) hM
            have hS1 := (am_sn (c' := (7, m_ob 2 kn co)) (show 238 ≠ 239 by decide)).trans hS
            show am_Rq _ 107 104 [some (.ref 238), some (.int (nI k)), some (.int y), some (.int u), some (.int z), some (.int (nI 0)), none] [.int (nI (am_b true))] _ _
            refine am_Rq.if1F (show decode (am_by 107) 104 = .ok (.ifCond .eq 5, 3) by decide +kernel) (by decide) (rfl) ?_
            refine am_Rq.blk (is := [(.iconst 0, 1)]) (q := (108, [some (.ref 238), some (.int (nI k)), some (.int y), some (.int u), some (.int z), some (.int (nI 0)), none], [.int (nI 0)])) (by decide +kernel) rfl ?_
            dsimp only
            refine am_Rq.ret (v := some (.int (nI 0))) (show decode (am_by 107) 108 = .ok (.ireturn, 1) by decide +kernel) rfl rfl ?_
            exact ⟨_, rfl, rfl, rfl⟩
          ·
            refine am_Rq.blk (is := [(.aload_n 0, 1)]) (q := (81, [some (.ref 238), some (.int (nI k)), some (.int y), some (.int u), some (.int z), some (.int (nI 0)), none], [.ref 238, .int (nI 1), .int (nI 0), .ref 238])) (by decide +kernel) rfl ?_
            dsimp only
            refine am_Rq.getf (v := .ref 239) (show decode (am_by 107) 81 = .ok (.getfield 7, 3) by decide +kernel) rfl hM rfl ?_
            refine am_Rq.blk (is := [(.bipush 80, 2)]) (q := (86, [some (.ref 238), some (.int (nI k)), some (.int y), some (.int u), some (.int z), some (.int (nI 0)), none], [.int (nI 80), .ref 239, .int (nI 1), .int (nI 0), .ref 238])) (by decide +kernel) rfl ?_
            dsimp only
            refine am_Rq.ial (k := 80) (show decode (am_by 107) 86 = .ok (.iaload, 1) by decide +kernel) hS (by omega) (by omega) ?_
            refine am_Rq.blk (is := [(.aload_n 0, 1)]) (q := (88, [some (.ref 238), some (.int (nI k)), some (.int y), some (.int u), some (.int z), some (.int (nI 0)), none], [.ref 238, .int (nI (s 80)), .int (nI 1), .int (nI 0), .ref 238])) (by decide +kernel) rfl ?_
            dsimp only
            refine am_Rq.callV (show decode (am_by 107) 88 = .ok (.invokevirtual 80, 3) by decide +kernel) rfl [] [.int (nI (s 80)), .int (nI 1), .int (nI 0), .ref 238] rfl rfl (Nat.le_of_ble_eq_true rfl) rfl hM rfl (m_grantedNow hM hS h82) ?_
            rintro hq _ ⟨e1, rfl⟩
            rw [e1]
            clear e1 hq
            show am_Rq _ 107 91 [some (.ref 238), some (.int (nI k)), some (.int y), some (.int u), some (.int z), some (.int (nI 0)), none] [.int (nI (sp_sm (fun g => s (83 + 7 * g + 1)) (s 82))), .int (nI (s 80)), .int (nI 1), .int (nI 0), .ref 238] _ _
            refine am_Rq.blk (is := [(.isub, 1), (.iload_n 2, 1)]) (q := (93, [some (.ref 238), some (.int (nI k)), some (.int y), some (.int u), some (.int z), some (.int (nI 0)), none], [.int y, .int ((nI (s 80)) - (nI (sp_sm (fun g => s (83 + 7 * g + 1)) (s 82)))), .int (nI 1), .int (nI 0), .ref 238])) (by decide +kernel) rfl ?_
            dsimp only
            refine am_Rq.if2 (t := 100) (show decode (am_by 107) 93 = .ok (.if_icmp .ge 7, 3) by decide +kernel) (by decide) (fun e6 => ?_) (fun e6 => ?_)
            ·
              refine am_Rq.blk (is := [(.iconst 0, 1)]) (q := (101, [some (.ref 238), some (.int (nI k)), some (.int y), some (.int u), some (.int z), some (.int (nI 0)), none], [.int (nI 0), .int (nI 1), .int (nI 0), .ref 238])) (by decide +kernel) rfl ?_
              dsimp only
              refine am_Rq.callV (show decode (am_by 107) 101 = .ok (.invokevirtual 57, 3) by decide +kernel) rfl [.int (nI (am_b false)), .int (nI (am_b true)), .int (nI (am_b false))] [] rfl rfl (Nat.le_of_ble_eq_true rfl) rfl hM rfl (m_refused hM false true false) ?_
              rintro _ _ ⟨rfl, rfl⟩
              have hM1 := am_ss (c' := (7, m_ob 2 kn co)) hM
              have hS1 := (am_sn (c' := (7, m_ob 2 kn co)) (show 238 ≠ 239 by decide)).trans hS
              show am_Rq _ 107 104 [some (.ref 238), some (.int (nI k)), some (.int y), some (.int u), some (.int z), some (.int (nI 0)), none] [.int (nI (am_b true))] _ _
              refine am_Rq.if1F (show decode (am_by 107) 104 = .ok (.ifCond .eq 5, 3) by decide +kernel) (by decide) (rfl) ?_
              refine am_Rq.blk (is := [(.iconst 0, 1)]) (q := (108, [some (.ref 238), some (.int (nI k)), some (.int y), some (.int u), some (.int z), some (.int (nI 0)), none], [.int (nI 0)])) (by decide +kernel) rfl ?_
              dsimp only
              refine am_Rq.ret (v := some (.int (nI 0))) (show decode (am_by 107) 108 = .ok (.ireturn, 1) by decide +kernel) rfl rfl ?_
              exact ⟨_, rfl, rfl, rfl⟩
            ·
              refine am_Rq.blk (is := [(.iconst 1, 1), (.goto 4, 3)]) (q := (101, [some (.ref 238), some (.int (nI k)), some (.int y), some (.int u), some (.int z), some (.int (nI 0)), none], [.int (nI 1), .int (nI 1), .int (nI 0), .ref 238])) (by decide +kernel) rfl ?_
              dsimp only
              refine am_Rq.callV (show decode (am_by 107) 101 = .ok (.invokevirtual 57, 3) by decide +kernel) rfl [.int (nI (am_b false)), .int (nI (am_b true)), .int (nI (am_b true))] [] rfl rfl (Nat.le_of_ble_eq_true rfl) rfl hM rfl (m_refused hM false true true) ?_
              rintro _ _ ⟨rfl, rfl⟩
              have hM1 := am_ss (c' := (7, m_ob 2 kn co)) hM
              have hS1 := (am_sn (c' := (7, m_ob 2 kn co)) (show 238 ≠ 239 by decide)).trans hS
              show am_Rq _ 107 104 [some (.ref 238), some (.int (nI k)), some (.int y), some (.int u), some (.int z), some (.int (nI 0)), none] [.int (nI (am_b true))] _ _
              refine am_Rq.if1F (show decode (am_by 107) 104 = .ok (.ifCond .eq 5, 3) by decide +kernel) (by decide) (rfl) ?_
              refine am_Rq.blk (is := [(.iconst 0, 1)]) (q := (108, [some (.ref 238), some (.int (nI k)), some (.int y), some (.int u), some (.int z), some (.int (nI 0)), none], [.int (nI 0)])) (by decide +kernel) rfl ?_
              dsimp only
              refine am_Rq.ret (v := some (.int (nI 0))) (show decode (am_by 107) 108 = .ok (.ireturn, 1) by decide +kernel) rfl rfl ?_
              exact ⟨_, rfl, rfl, rfl⟩
        ·
          refine am_Rq.blk (is := [(.iconst 1, 1), (.goto 4, 3)]) (q := (43, [some (.ref 238), some (.int (nI k)), some (.int y), some (.int u), some (.int z), none, none], [.int (nI 1)])) (by decide +kernel) rfl ?_
          dsimp only
          refine am_Rq.blk (is := [(.istore 5, 2), (.aload_n 0, 1), (.iload_n 1, 1)]) (q := (47, [some (.ref 238), some (.int (nI k)), some (.int y), some (.int u), some (.int z), some (.int (nI 1)), none], [.int (nI k), .ref 238])) (by decide +kernel) rfl ?_
          dsimp only
          refine am_Rq.callS (show decode (am_by 107) 47 = .ok (.invokestatic 68, 3) by decide +kernel) rfl [.int (nI k)] [.ref 238] rfl rfl (Nat.le_of_ble_eq_true rfl) rfl rfl (m_isHolder (nI k)) ?_
          rintro hq _ ⟨e1, rfl⟩
          rw [e1]
          clear e1 hq
          show am_Rq _ 107 50 [some (.ref 238), some (.int (nI k)), some (.int y), some (.int u), some (.int z), some (.int (nI 1)), none] [.int (nI (am_b (rg_r (nI 0) (nI 7) (nI k)))), .ref 238] _ _
          refine am_Rq.if1T (t := 57) (show decode (am_by 107) 50 = .ok (.ifCond .ne 7, 3) by decide +kernel) (by decide) (by rw [am_b_ne, rg_le (by omega) (show k ≤ 7 by omega) (by omega)]) ?_
          refine am_Rq.blk (is := [(.iconst 0, 1), (.iload 5, 2)]) (q := (60, [some (.ref 238), some (.int (nI k)), some (.int y), some (.int u), some (.int z), some (.int (nI 1)), none], [.int (nI 1), .int (nI 0), .ref 238])) (by decide +kernel) rfl ?_
          dsimp only
          refine am_Rq.if1T (t := 67) (show decode (am_by 107) 60 = .ok (.ifCond .ne 7, 3) by decide +kernel) (by decide) (rfl) ?_
          refine am_Rq.blk (is := [(.iconst 0, 1), (.aload_n 0, 1)]) (q := (69, [some (.ref 238), some (.int (nI k)), some (.int y), some (.int u), some (.int z), some (.int (nI 1)), none], [.ref 238, .int (nI 0), .int (nI 0), .ref 238])) (by decide +kernel) rfl ?_
          dsimp only
          refine am_Rq.getf (v := .ref 239) (show decode (am_by 107) 69 = .ok (.getfield 7, 3) by decide +kernel) rfl hM rfl ?_
          refine am_Rq.blk (is := [(.bipush 82, 2)]) (q := (74, [some (.ref 238), some (.int (nI k)), some (.int y), some (.int u), some (.int z), some (.int (nI 1)), none], [.int (nI 82), .ref 239, .int (nI 0), .int (nI 0), .ref 238])) (by decide +kernel) rfl ?_
          dsimp only
          refine am_Rq.ial (k := 82) (show decode (am_by 107) 74 = .ok (.iaload, 1) by decide +kernel) hS (by omega) (by omega) ?_
          refine am_Rq.blk (is := [(.bipush 10, 2)]) (q := (77, [some (.ref 238), some (.int (nI k)), some (.int y), some (.int u), some (.int z), some (.int (nI 1)), none], [.int (nI 10), .int (nI (s 82)), .int (nI 0), .int (nI 0), .ref 238])) (by decide +kernel) rfl ?_
          dsimp only
          refine am_Rq.if2 (t := 96) (show decode (am_by 107) 77 = .ok (.if_icmp .eq 19, 3) by decide +kernel) (by decide) (fun e5 => ?_) (fun e5 => ?_)
          ·
            refine am_Rq.blk (is := [(.iconst 1, 1), (.goto 4, 3)]) (q := (101, [some (.ref 238), some (.int (nI k)), some (.int y), some (.int u), some (.int z), some (.int (nI 1)), none], [.int (nI 1), .int (nI 0), .int (nI 0), .ref 238])) (by decide +kernel) rfl ?_
            dsimp only
            exact (hx e1 e2 e3 e4).elim
          ·
            refine am_Rq.blk (is := [(.aload_n 0, 1)]) (q := (81, [some (.ref 238), some (.int (nI k)), some (.int y), some (.int u), some (.int z), some (.int (nI 1)), none], [.ref 238, .int (nI 0), .int (nI 0), .ref 238])) (by decide +kernel) rfl ?_
            dsimp only
            refine am_Rq.getf (v := .ref 239) (show decode (am_by 107) 81 = .ok (.getfield 7, 3) by decide +kernel) rfl hM rfl ?_
            refine am_Rq.blk (is := [(.bipush 80, 2)]) (q := (86, [some (.ref 238), some (.int (nI k)), some (.int y), some (.int u), some (.int z), some (.int (nI 1)), none], [.int (nI 80), .ref 239, .int (nI 0), .int (nI 0), .ref 238])) (by decide +kernel) rfl ?_
            dsimp only
            refine am_Rq.ial (k := 80) (show decode (am_by 107) 86 = .ok (.iaload, 1) by decide +kernel) hS (by omega) (by omega) ?_
            refine am_Rq.blk (is := [(.aload_n 0, 1)]) (q := (88, [some (.ref 238), some (.int (nI k)), some (.int y), some (.int u), some (.int z), some (.int (nI 1)), none], [.ref 238, .int (nI (s 80)), .int (nI 0), .int (nI 0), .ref 238])) (by decide +kernel) rfl ?_
            dsimp only
            refine am_Rq.callV (show decode (am_by 107) 88 = .ok (.invokevirtual 80, 3) by decide +kernel) rfl [] [.int (nI (s 80)), .int (nI 0), .int (nI 0), .ref 238] rfl rfl (Nat.le_of_ble_eq_true rfl) rfl hM rfl (m_grantedNow hM hS h82) ?_
            rintro hq _ ⟨e1, rfl⟩
            rw [e1]
            clear e1 hq
            show am_Rq _ 107 91 [some (.ref 238), some (.int (nI k)), some (.int y), some (.int u), some (.int z), some (.int (nI 1)), none] [.int (nI (sp_sm (fun g => s (83 + 7 * g + 1)) (s 82))), .int (nI (s 80)), .int (nI 0), .int (nI 0), .ref 238] _ _
            refine am_Rq.blk (is := [(.isub, 1), (.iload_n 2, 1)]) (q := (93, [some (.ref 238), some (.int (nI k)), some (.int y), some (.int u), some (.int z), some (.int (nI 1)), none], [.int y, .int ((nI (s 80)) - (nI (sp_sm (fun g => s (83 + 7 * g + 1)) (s 82)))), .int (nI 0), .int (nI 0), .ref 238])) (by decide +kernel) rfl ?_
            dsimp only
            refine am_Rq.if2 (t := 100) (show decode (am_by 107) 93 = .ok (.if_icmp .ge 7, 3) by decide +kernel) (by decide) (fun e6 => ?_) (fun e6 => ?_)
            ·
              refine am_Rq.blk (is := [(.iconst 0, 1)]) (q := (101, [some (.ref 238), some (.int (nI k)), some (.int y), some (.int u), some (.int z), some (.int (nI 1)), none], [.int (nI 0), .int (nI 0), .int (nI 0), .ref 238])) (by decide +kernel) rfl ?_
              dsimp only
              exact (hx e1 e2 e3 e4).elim
            ·
              refine am_Rq.blk (is := [(.iconst 1, 1), (.goto 4, 3)]) (q := (101, [some (.ref 238), some (.int (nI k)), some (.int y), some (.int u), some (.int z), some (.int (nI 1)), none], [.int (nI 1), .int (nI 0), .int (nI 0), .ref 238])) (by decide +kernel) rfl ?_
              dsimp only
              exact (hx e1 e2 e3 e4).elim
theorem m_grant_no3 {th kn co : Nat} (hM : hp[238]? = some (7, [.int (nI th), .ref 239, .ref 240, .int (nI kn), .ref 241, .ref 242, .ref 243, .ref 244, .long (lN co), .ref 245])) {s : Nat → Nat} (hS : hp[239]? = some (100, am_ia (fun i => nI (s i)) 160)) (h82 : s 82 ≤ 10) {k n cl ln : Nat} (hk : k < 8) (n1 : 1 ≤ n) (n2 : n ≤ 2000) (c2 : cl ≤ 60) (l1 : cl ≤ ln) (l2 : ln ≤ 60) (h80 : s 80 ≤ 5000) (hg2 : sp_sm (fun g => s (83 + 7 * g + 1)) (s 82) < 2 ^ 31) (hg : s 82 = 10) : am_Rq (d + 2) 107 0 (am_en [.ref 238, .int (nI k), .int (nI n), .int (nI cl), .int (nI ln)] 7) [] hp (am_Ret fun hp1 v => hp1 = hp.set 238 (7, m_ob 3 kn co) ∧ v = some (.int (nI (0)))) := by
  show am_Rq _ 107 0 [some (.ref 238), some (.int (nI k)), some (.int (nI n)), some (.int (nI cl)), some (.int (nI ln)), none, none] [] _ _
  refine am_Rq.blk (is := [(.iload_n 2, 1), (.iconst 1, 1), (.sipush 2000, 3)]) (q := (5, [some (.ref 238), some (.int (nI k)), some (.int (nI n)), some (.int (nI cl)), some (.int (nI ln)), none, none], [.int (nI 2000), .int (nI 1), .int (nI n)])) (by decide +kernel) rfl ?_
  dsimp only
  refine am_Rq.callS (show decode (am_by 107) 5 = .ok (.invokestatic 39, 3) by decide +kernel) rfl [.int (nI n), .int (nI 1), .int (nI 2000)] [] rfl rfl (Nat.le_of_ble_eq_true rfl) rfl rfl (m_in (nI n) (nI 1) (nI 2000)) ?_
  rintro hq _ ⟨e1, rfl⟩
  rw [e1]
  clear e1 hq
  show am_Rq _ 107 8 [some (.ref 238), some (.int (nI k)), some (.int (nI n)), some (.int (nI cl)), some (.int (nI ln)), none, none] [.int (nI (am_b (rg_r (nI 1) (nI 2000) (nI n))))] _ _
  refine am_Rq.if1F (show decode (am_by 107) 8 = .ok (.ifCond .eq 34, 3) by decide +kernel) (by decide) (by rw [am_b_eq, rg_le n1 n2 (by omega)]; rfl) ?_
  refine am_Rq.blk (is := [(.iload_n 3, 1), (.iconst 0, 1), (.bipush 60, 2)]) (q := (15, [some (.ref 238), some (.int (nI k)), some (.int (nI n)), some (.int (nI cl)), some (.int (nI ln)), none, none], [.int (nI 60), .int (nI 0), .int (nI cl)])) (by decide +kernel) rfl ?_
  dsimp only
  refine am_Rq.callS (show decode (am_by 107) 15 = .ok (.invokestatic 39, 3) by decide +kernel) rfl [.int (nI cl), .int (nI 0), .int (nI 60)] [] rfl rfl (Nat.le_of_ble_eq_true rfl) rfl rfl (m_in (nI cl) (nI 0) (nI 60)) ?_
  rintro hq _ ⟨e1, rfl⟩
  rw [e1]
  clear e1 hq
  show am_Rq _ 107 18 [some (.ref 238), some (.int (nI k)), some (.int (nI n)), some (.int (nI cl)), some (.int (nI ln)), none, none] [.int (nI (am_b (rg_r (nI 0) (nI 60) (nI cl))))] _ _
  refine am_Rq.if1F (show decode (am_by 107) 18 = .ok (.ifCond .eq 24, 3) by decide +kernel) (by decide) (by rw [am_b_eq, rg_le (by omega) c2 (by omega)]; rfl) ?_
  refine am_Rq.blk (is := [(.iload 4, 2), (.iconst 0, 1), (.bipush 60, 2)]) (q := (26, [some (.ref 238), some (.int (nI k)), some (.int (nI n)), some (.int (nI cl)), some (.int (nI ln)), none, none], [.int (nI 60), .int (nI 0), .int (nI ln)])) (by decide +kernel) rfl ?_
  dsimp only
  refine am_Rq.callS (show decode (am_by 107) 26 = .ok (.invokestatic 39, 3) by decide +kernel) rfl [.int (nI ln), .int (nI 0), .int (nI 60)] [] rfl rfl (Nat.le_of_ble_eq_true rfl) rfl rfl (m_in (nI ln) (nI 0) (nI 60)) ?_
  rintro hq _ ⟨e1, rfl⟩
  rw [e1]
  clear e1 hq
  show am_Rq _ 107 29 [some (.ref 238), some (.int (nI k)), some (.int (nI n)), some (.int (nI cl)), some (.int (nI ln)), none, none] [.int (nI (am_b (rg_r (nI 0) (nI 60) (nI ln))))] _ _
  refine am_Rq.if1F (show decode (am_by 107) 29 = .ok (.ifCond .eq 13, 3) by decide +kernel) (by decide) (by rw [am_b_eq, rg_le (by omega) l2 (by omega)]; rfl) ?_
  refine am_Rq.blk (is := [(.iload 4, 2), (.iload_n 3, 1)]) (q := (35, [some (.ref 238), some (.int (nI k)), some (.int (nI n)), some (.int (nI cl)), some (.int (nI ln)), none, none], [.int (nI cl), .int (nI ln)])) (by decide +kernel) rfl ?_
  dsimp only
  refine am_Rq.if2F (show decode (am_by 107) 35 = .ok (.if_icmp .lt 7, 3) by decide +kernel) (by decide) (by rw [nm_lt (by omega) (by omega)]; exact decide_eq_false (by omega)) ?_
  refine am_Rq.blk (is := [(.iconst 1, 1), (.goto 4, 3)]) (q := (43, [some (.ref 238), some (.int (nI k)), some (.int (nI n)), some (.int (nI cl)), some (.int (nI ln)), none, none], [.int (nI 1)])) (by decide +kernel) rfl ?_
  dsimp only
  refine am_Rq.blk (is := [(.istore 5, 2), (.aload_n 0, 1), (.iload_n 1, 1)]) (q := (47, [some (.ref 238), some (.int (nI k)), some (.int (nI n)), some (.int (nI cl)), some (.int (nI ln)), some (.int (nI 1)), none], [.int (nI k), .ref 238])) (by decide +kernel) rfl ?_
  dsimp only
  refine am_Rq.callS (show decode (am_by 107) 47 = .ok (.invokestatic 68, 3) by decide +kernel) rfl [.int (nI k)] [.ref 238] rfl rfl (Nat.le_of_ble_eq_true rfl) rfl rfl (m_isHolder (nI k)) ?_
  rintro hq _ ⟨e1, rfl⟩
  rw [e1]
  clear e1 hq
  show am_Rq _ 107 50 [some (.ref 238), some (.int (nI k)), some (.int (nI n)), some (.int (nI cl)), some (.int (nI ln)), some (.int (nI 1)), none] [.int (nI (am_b (rg_r (nI 0) (nI 7) (nI k)))), .ref 238] _ _
  refine am_Rq.if1T (t := 57) (show decode (am_by 107) 50 = .ok (.ifCond .ne 7, 3) by decide +kernel) (by decide) (by rw [am_b_ne, rg_le (by omega) (show k ≤ 7 by omega) (by omega)]) ?_
  refine am_Rq.blk (is := [(.iconst 0, 1), (.iload 5, 2)]) (q := (60, [some (.ref 238), some (.int (nI k)), some (.int (nI n)), some (.int (nI cl)), some (.int (nI ln)), some (.int (nI 1)), none], [.int (nI 1), .int (nI 0), .ref 238])) (by decide +kernel) rfl ?_
  dsimp only
  refine am_Rq.if1T (t := 67) (show decode (am_by 107) 60 = .ok (.ifCond .ne 7, 3) by decide +kernel) (by decide) (rfl) ?_
  refine am_Rq.blk (is := [(.iconst 0, 1), (.aload_n 0, 1)]) (q := (69, [some (.ref 238), some (.int (nI k)), some (.int (nI n)), some (.int (nI cl)), some (.int (nI ln)), some (.int (nI 1)), none], [.ref 238, .int (nI 0), .int (nI 0), .ref 238])) (by decide +kernel) rfl ?_
  dsimp only
  refine am_Rq.getf (v := .ref 239) (show decode (am_by 107) 69 = .ok (.getfield 7, 3) by decide +kernel) rfl hM rfl ?_
  refine am_Rq.blk (is := [(.bipush 82, 2)]) (q := (74, [some (.ref 238), some (.int (nI k)), some (.int (nI n)), some (.int (nI cl)), some (.int (nI ln)), some (.int (nI 1)), none], [.int (nI 82), .ref 239, .int (nI 0), .int (nI 0), .ref 238])) (by decide +kernel) rfl ?_
  dsimp only
  refine am_Rq.ial (k := 82) (show decode (am_by 107) 74 = .ok (.iaload, 1) by decide +kernel) hS (by omega) (by omega) ?_
  refine am_Rq.blk (is := [(.bipush 10, 2)]) (q := (77, [some (.ref 238), some (.int (nI k)), some (.int (nI n)), some (.int (nI cl)), some (.int (nI ln)), some (.int (nI 1)), none], [.int (nI 10), .int (nI (s 82)), .int (nI 0), .int (nI 0), .ref 238])) (by decide +kernel) rfl ?_
  dsimp only
  refine am_Rq.if2T (t := 96) (show decode (am_by 107) 77 = .ok (.if_icmp .eq 19, 3) by decide +kernel) (by decide) (by rw [nm_eq (by omega) (by omega)]; exact decide_eq_true (by omega)) ?_
  refine am_Rq.blk (is := [(.iconst 1, 1), (.goto 4, 3)]) (q := (101, [some (.ref 238), some (.int (nI k)), some (.int (nI n)), some (.int (nI cl)), some (.int (nI ln)), some (.int (nI 1)), none], [.int (nI 1), .int (nI 0), .int (nI 0), .ref 238])) (by decide +kernel) rfl ?_
  dsimp only
  refine am_Rq.callV (show decode (am_by 107) 101 = .ok (.invokevirtual 57, 3) by decide +kernel) rfl [.int (nI (am_b false)), .int (nI (am_b false)), .int (nI (am_b true))] [] rfl rfl (Nat.le_of_ble_eq_true rfl) rfl hM rfl (m_refused hM false false true) ?_
  rintro _ _ ⟨rfl, rfl⟩
  have hM1 := am_ss (c' := (7, m_ob 3 kn co)) hM
  have hS1 := (am_sn (c' := (7, m_ob 3 kn co)) (show 238 ≠ 239 by decide)).trans hS
  show am_Rq _ 107 104 [some (.ref 238), some (.int (nI k)), some (.int (nI n)), some (.int (nI cl)), some (.int (nI ln)), some (.int (nI 1)), none] [.int (nI (am_b true))] _ _
  refine am_Rq.if1F (show decode (am_by 107) 104 = .ok (.ifCond .eq 5, 3) by decide +kernel) (by decide) (rfl) ?_
  refine am_Rq.blk (is := [(.iconst 0, 1)]) (q := (108, [some (.ref 238), some (.int (nI k)), some (.int (nI n)), some (.int (nI cl)), some (.int (nI ln)), some (.int (nI 1)), none], [.int (nI 0)])) (by decide +kernel) rfl ?_
  dsimp only
  refine am_Rq.ret (v := some (.int (nI 0))) (show decode (am_by 107) 108 = .ok (.ireturn, 1) by decide +kernel) rfl rfl ?_
  exact ⟨_, rfl, rfl, rfl⟩
theorem m_grant_no4 {th kn co : Nat} (hM : hp[238]? = some (7, [.int (nI th), .ref 239, .ref 240, .int (nI kn), .ref 241, .ref 242, .ref 243, .ref 244, .long (lN co), .ref 245])) {s : Nat → Nat} (hS : hp[239]? = some (100, am_ia (fun i => nI (s i)) 160)) (h82 : s 82 ≤ 10) {k n cl ln : Nat} (hk : k < 8) (n1 : 1 ≤ n) (n2 : n ≤ 2000) (c2 : cl ≤ 60) (l1 : cl ≤ ln) (l2 : ln ≤ 60) (h80 : s 80 ≤ 5000) (hg2 : sp_sm (fun g => s (83 + 7 * g + 1)) (s 82) < 2 ^ 31) (hg : s 82 < 10) (ho : s 80 < sp_sm (fun g => s (83 + 7 * g + 1)) (s 82) + n) : am_Rq (d + 2) 107 0 (am_en [.ref 238, .int (nI k), .int (nI n), .int (nI cl), .int (nI ln)] 7) [] hp (am_Ret fun hp1 v => hp1 = hp.set 238 (7, m_ob 3 kn co) ∧ v = some (.int (nI (0)))) := by
  show am_Rq _ 107 0 [some (.ref 238), some (.int (nI k)), some (.int (nI n)), some (.int (nI cl)), some (.int (nI ln)), none, none] [] _ _
  refine am_Rq.blk (is := [(.iload_n 2, 1), (.iconst 1, 1), (.sipush 2000, 3)]) (q := (5, [some (.ref 238), some (.int (nI k)), some (.int (nI n)), some (.int (nI cl)), some (.int (nI ln)), none, none], [.int (nI 2000), .int (nI 1), .int (nI n)])) (by decide +kernel) rfl ?_
  dsimp only
  refine am_Rq.callS (show decode (am_by 107) 5 = .ok (.invokestatic 39, 3) by decide +kernel) rfl [.int (nI n), .int (nI 1), .int (nI 2000)] [] rfl rfl (Nat.le_of_ble_eq_true rfl) rfl rfl (m_in (nI n) (nI 1) (nI 2000)) ?_
  rintro hq _ ⟨e1, rfl⟩
  rw [e1]
  clear e1 hq
  show am_Rq _ 107 8 [some (.ref 238), some (.int (nI k)), some (.int (nI n)), some (.int (nI cl)), some (.int (nI ln)), none, none] [.int (nI (am_b (rg_r (nI 1) (nI 2000) (nI n))))] _ _
  refine am_Rq.if1F (show decode (am_by 107) 8 = .ok (.ifCond .eq 34, 3) by decide +kernel) (by decide) (by rw [am_b_eq, rg_le n1 n2 (by omega)]; rfl) ?_
  refine am_Rq.blk (is := [(.iload_n 3, 1), (.iconst 0, 1), (.bipush 60, 2)]) (q := (15, [some (.ref 238), some (.int (nI k)), some (.int (nI n)), some (.int (nI cl)), some (.int (nI ln)), none, none], [.int (nI 60), .int (nI 0), .int (nI cl)])) (by decide +kernel) rfl ?_
  dsimp only
  refine am_Rq.callS (show decode (am_by 107) 15 = .ok (.invokestatic 39, 3) by decide +kernel) rfl [.int (nI cl), .int (nI 0), .int (nI 60)] [] rfl rfl (Nat.le_of_ble_eq_true rfl) rfl rfl (m_in (nI cl) (nI 0) (nI 60)) ?_
  rintro hq _ ⟨e1, rfl⟩
  rw [e1]
  clear e1 hq
  show am_Rq _ 107 18 [some (.ref 238), some (.int (nI k)), some (.int (nI n)), some (.int (nI cl)), some (.int (nI ln)), none, none] [.int (nI (am_b (rg_r (nI 0) (nI 60) (nI cl))))] _ _
  refine am_Rq.if1F (show decode (am_by 107) 18 = .ok (.ifCond .eq 24, 3) by decide +kernel) (by decide) (by rw [am_b_eq, rg_le (by omega) c2 (by omega)]; rfl) ?_
  refine am_Rq.blk (is := [(.iload 4, 2), (.iconst 0, 1), (.bipush 60, 2)]) (q := (26, [some (.ref 238), some (.int (nI k)), some (.int (nI n)), some (.int (nI cl)), some (.int (nI ln)), none, none], [.int (nI 60), .int (nI 0), .int (nI ln)])) (by decide +kernel) rfl ?_
  dsimp only
  refine am_Rq.callS (show decode (am_by 107) 26 = .ok (.invokestatic 39, 3) by decide +kernel) rfl [.int (nI ln), .int (nI 0), .int (nI 60)] [] rfl rfl (Nat.le_of_ble_eq_true rfl) rfl rfl (m_in (nI ln) (nI 0) (nI 60)) ?_
  rintro hq _ ⟨e1, rfl⟩
  rw [e1]
  clear e1 hq
  show am_Rq _ 107 29 [some (.ref 238), some (.int (nI k)), some (.int (nI n)), some (.int (nI cl)), some (.int (nI ln)), none, none] [.int (nI (am_b (rg_r (nI 0) (nI 60) (nI ln))))] _ _
  refine am_Rq.if1F (show decode (am_by 107) 29 = .ok (.ifCond .eq 13, 3) by decide +kernel) (by decide) (by rw [am_b_eq, rg_le (by omega) l2 (by omega)]; rfl) ?_
  refine am_Rq.blk (is := [(.iload 4, 2), (.iload_n 3, 1)]) (q := (35, [some (.ref 238), some (.int (nI k)), some (.int (nI n)), some (.int (nI cl)), some (.int (nI ln)), none, none], [.int (nI cl), .int (nI ln)])) (by decide +kernel) rfl ?_
  dsimp only
  refine am_Rq.if2F (show decode (am_by 107) 35 = .ok (.if_icmp .lt 7, 3) by decide +kernel) (by decide) (by rw [nm_lt (by omega) (by omega)]; exact decide_eq_false (by omega)) ?_
  refine am_Rq.blk (is := [(.iconst 1, 1), (.goto 4, 3)]) (q := (43, [some (.ref 238), some (.int (nI k)), some (.int (nI n)), some (.int (nI cl)), some (.int (nI ln)), none, none], [.int (nI 1)])) (by decide +kernel) rfl ?_
  dsimp only
  refine am_Rq.blk (is := [(.istore 5, 2), (.aload_n 0, 1), (.iload_n 1, 1)]) (q := (47, [some (.ref 238), some (.int (nI k)), some (.int (nI n)), some (.int (nI cl)), some (.int (nI ln)), some (.int (nI 1)), none], [.int (nI k), .ref 238])) (by decide +kernel) rfl ?_
  dsimp only
  refine am_Rq.callS (show decode (am_by 107) 47 = .ok (.invokestatic 68, 3) by decide +kernel) rfl [.int (nI k)] [.ref 238] rfl rfl (Nat.le_of_ble_eq_true rfl) rfl rfl (m_isHolder (nI k)) ?_
  rintro hq _ ⟨e1, rfl⟩
  rw [e1]
  clear e1 hq
  show am_Rq _ 107 50 [some (.ref 238), some (.int (nI k)), some (.int (nI n)), some (.int (nI cl)), some (.int (nI ln)), some (.int (nI 1)), none] [.int (nI (am_b (rg_r (nI 0) (nI 7) (nI k)))), .ref 238] _ _
  refine am_Rq.if1T (t := 57) (show decode (am_by 107) 50 = .ok (.ifCond .ne 7, 3) by decide +kernel) (by decide) (by rw [am_b_ne, rg_le (by omega) (show k ≤ 7 by omega) (by omega)]) ?_
  refine am_Rq.blk (is := [(.iconst 0, 1), (.iload 5, 2)]) (q := (60, [some (.ref 238), some (.int (nI k)), some (.int (nI n)), some (.int (nI cl)), some (.int (nI ln)), some (.int (nI 1)), none], [.int (nI 1), .int (nI 0), .ref 238])) (by decide +kernel) rfl ?_
  dsimp only
  refine am_Rq.if1T (t := 67) (show decode (am_by 107) 60 = .ok (.ifCond .ne 7, 3) by decide +kernel) (by decide) (rfl) ?_
  refine am_Rq.blk (is := [(.iconst 0, 1), (.aload_n 0, 1)]) (q := (69, [some (.ref 238), some (.int (nI k)), some (.int (nI n)), some (.int (nI cl)), some (.int (nI ln)), some (.int (nI 1)), none], [.ref 238, .int (nI 0), .int (nI 0), .ref 238])) (by decide +kernel) rfl ?_
  dsimp only
  refine am_Rq.getf (v := .ref 239) (show decode (am_by 107) 69 = .ok (.getfield 7, 3) by decide +kernel) rfl hM rfl ?_
  refine am_Rq.blk (is := [(.bipush 82, 2)]) (q := (74, [some (.ref 238), some (.int (nI k)), some (.int (nI n)), some (.int (nI cl)), some (.int (nI ln)), some (.int (nI 1)), none], [.int (nI 82), .ref 239, .int (nI 0), .int (nI 0), .ref 238])) (by decide +kernel) rfl ?_
  dsimp only
  refine am_Rq.ial (k := 82) (show decode (am_by 107) 74 = .ok (.iaload, 1) by decide +kernel) hS (by omega) (by omega) ?_
  refine am_Rq.blk (is := [(.bipush 10, 2)]) (q := (77, [some (.ref 238), some (.int (nI k)), some (.int (nI n)), some (.int (nI cl)), some (.int (nI ln)), some (.int (nI 1)), none], [.int (nI 10), .int (nI (s 82)), .int (nI 0), .int (nI 0), .ref 238])) (by decide +kernel) rfl ?_
  dsimp only
  refine am_Rq.if2F (show decode (am_by 107) 77 = .ok (.if_icmp .eq 19, 3) by decide +kernel) (by decide) (by rw [nm_eq (by omega) (by omega)]; exact decide_eq_false (by omega)) ?_
  refine am_Rq.blk (is := [(.aload_n 0, 1)]) (q := (81, [some (.ref 238), some (.int (nI k)), some (.int (nI n)), some (.int (nI cl)), some (.int (nI ln)), some (.int (nI 1)), none], [.ref 238, .int (nI 0), .int (nI 0), .ref 238])) (by decide +kernel) rfl ?_
  dsimp only
  refine am_Rq.getf (v := .ref 239) (show decode (am_by 107) 81 = .ok (.getfield 7, 3) by decide +kernel) rfl hM rfl ?_
  refine am_Rq.blk (is := [(.bipush 80, 2)]) (q := (86, [some (.ref 238), some (.int (nI k)), some (.int (nI n)), some (.int (nI cl)), some (.int (nI ln)), some (.int (nI 1)), none], [.int (nI 80), .ref 239, .int (nI 0), .int (nI 0), .ref 238])) (by decide +kernel) rfl ?_
  dsimp only
  refine am_Rq.ial (k := 80) (show decode (am_by 107) 86 = .ok (.iaload, 1) by decide +kernel) hS (by omega) (by omega) ?_
  refine am_Rq.blk (is := [(.aload_n 0, 1)]) (q := (88, [some (.ref 238), some (.int (nI k)), some (.int (nI n)), some (.int (nI cl)), some (.int (nI ln)), some (.int (nI 1)), none], [.ref 238, .int (nI (s 80)), .int (nI 0), .int (nI 0), .ref 238])) (by decide +kernel) rfl ?_
  dsimp only
  refine am_Rq.callV (show decode (am_by 107) 88 = .ok (.invokevirtual 80, 3) by decide +kernel) rfl [] [.int (nI (s 80)), .int (nI 0), .int (nI 0), .ref 238] rfl rfl (Nat.le_of_ble_eq_true rfl) rfl hM rfl (m_grantedNow hM hS h82) ?_
  rintro hq _ ⟨e1, rfl⟩
  rw [e1]
  clear e1 hq
  show am_Rq _ 107 91 [some (.ref 238), some (.int (nI k)), some (.int (nI n)), some (.int (nI cl)), some (.int (nI ln)), some (.int (nI 1)), none] [.int (nI (sp_sm (fun g => s (83 + 7 * g + 1)) (s 82))), .int (nI (s 80)), .int (nI 0), .int (nI 0), .ref 238] _ _
  refine am_Rq.blk (is := [(.isub, 1), (.iload_n 2, 1)]) (q := (93, [some (.ref 238), some (.int (nI k)), some (.int (nI n)), some (.int (nI cl)), some (.int (nI ln)), some (.int (nI 1)), none], [.int (nI n), .int ((nI (s 80)) - (nI (sp_sm (fun g => s (83 + 7 * g + 1)) (s 82)))), .int (nI 0), .int (nI 0), .ref 238])) (by decide +kernel) rfl ?_
  dsimp only
  refine am_Rq.if2F (show decode (am_by 107) 93 = .ok (.if_icmp .ge 7, 3) by decide +kernel) (by decide) (by exact decide_eq_false (by rw [Int32.not_le, nm_subLt (by omega) hg2 (by omega)]; exact ho)) ?_
  refine am_Rq.blk (is := [(.iconst 1, 1), (.goto 4, 3)]) (q := (101, [some (.ref 238), some (.int (nI k)), some (.int (nI n)), some (.int (nI cl)), some (.int (nI ln)), some (.int (nI 1)), none], [.int (nI 1), .int (nI 0), .int (nI 0), .ref 238])) (by decide +kernel) rfl ?_
  dsimp only
  refine am_Rq.callV (show decode (am_by 107) 101 = .ok (.invokevirtual 57, 3) by decide +kernel) rfl [.int (nI (am_b false)), .int (nI (am_b false)), .int (nI (am_b true))] [] rfl rfl (Nat.le_of_ble_eq_true rfl) rfl hM rfl (m_refused hM false false true) ?_
  rintro _ _ ⟨rfl, rfl⟩
  have hM1 := am_ss (c' := (7, m_ob 3 kn co)) hM
  have hS1 := (am_sn (c' := (7, m_ob 3 kn co)) (show 238 ≠ 239 by decide)).trans hS
  show am_Rq _ 107 104 [some (.ref 238), some (.int (nI k)), some (.int (nI n)), some (.int (nI cl)), some (.int (nI ln)), some (.int (nI 1)), none] [.int (nI (am_b true))] _ _
  refine am_Rq.if1F (show decode (am_by 107) 104 = .ok (.ifCond .eq 5, 3) by decide +kernel) (by decide) (rfl) ?_
  refine am_Rq.blk (is := [(.iconst 0, 1)]) (q := (108, [some (.ref 238), some (.int (nI k)), some (.int (nI n)), some (.int (nI cl)), some (.int (nI ln)), some (.int (nI 1)), none], [.int (nI 0)])) (by decide +kernel) rfl ?_
  dsimp only
  refine am_Rq.ret (v := some (.int (nI 0))) (show decode (am_by 107) 108 = .ok (.ireturn, 1) by decide +kernel) rfl rfl ?_
  exact ⟨_, rfl, rfl, rfl⟩
theorem m_leave_no {th kn co : Nat} (hM : hp[238]? = some (7, [.int (nI th), .ref 239, .ref 240, .int (nI kn), .ref 241, .ref 242, .ref 243, .ref 244, .long (lN co), .ref 245])) {s : Nat → Nat} (hS : hp[239]? = some (100, am_ia (fun i => nI (s i)) 160)) {x : Int32} (hx : rg_r (nI 0) (nI 7) x = false) : am_Rq (d + 2) 109 0 (am_en [.ref 238, .int x] 5) [] hp (am_Ret fun hp1 v => hp1 = hp.set 238 (7, m_ob 1 kn co) ∧ v = some (.int (nI (0)))) := by
  show am_Rq _ 109 0 [some (.ref 238), some (.int x), none, none, none] [] _ _
  refine am_Rq.blk (is := [(.aload_n 0, 1), (.iload_n 1, 1)]) (q := (2, [some (.ref 238), some (.int x), none, none, none], [.int x, .ref 238])) (by decide +kernel) rfl ?_
  dsimp only
  refine am_Rq.callS (show decode (am_by 109) 2 = .ok (.invokestatic 68, 3) by decide +kernel) rfl [.int x] [.ref 238] rfl rfl (Nat.le_of_ble_eq_true rfl) rfl rfl (m_isHolder (x)) ?_
  rintro hq _ ⟨e1, rfl⟩
  rw [e1]
  clear e1 hq
  show am_Rq _ 109 5 [some (.ref 238), some (.int x), none, none, none] [.int (nI (am_b (rg_r (nI 0) (nI 7) (x)))), .ref 238] _ _
  refine am_Rq.if1F (show decode (am_by 109) 5 = .ok (.ifCond .ne 7, 3) by decide +kernel) (by decide) (by rw [am_b_ne, hx]) ?_
  refine am_Rq.blk (is := [(.iconst 1, 1), (.goto 4, 3)]) (q := (13, [some (.ref 238), some (.int x), none, none, none], [.int (nI 1), .ref 238])) (by decide +kernel) rfl ?_
  dsimp only
  refine am_Rq.blk (is := [(.iconst 0, 1), (.iconst 0, 1)]) (q := (15, [some (.ref 238), some (.int x), none, none, none], [.int (nI 0), .int (nI 0), .int (nI 1), .ref 238])) (by decide +kernel) rfl ?_
  dsimp only
  refine am_Rq.callV (show decode (am_by 109) 15 = .ok (.invokevirtual 57, 3) by decide +kernel) rfl [.int (nI (am_b true)), .int (nI (am_b false)), .int (nI (am_b false))] [] rfl rfl (Nat.le_of_ble_eq_true rfl) rfl hM rfl (m_refused hM true false false) ?_
  rintro _ _ ⟨rfl, rfl⟩
  have hM1 := am_ss (c' := (7, m_ob 1 kn co)) hM
  have hS1 := (am_sn (c' := (7, m_ob 1 kn co)) (show 238 ≠ 239 by decide)).trans hS
  show am_Rq _ 109 18 [some (.ref 238), some (.int x), none, none, none] [.int (nI (am_b true))] _ _
  refine am_Rq.if1F (show decode (am_by 109) 18 = .ok (.ifCond .eq 5, 3) by decide +kernel) (by decide) (rfl) ?_
  refine am_Rq.blk (is := [(.iconst 0, 1)]) (q := (22, [some (.ref 238), some (.int x), none, none, none], [.int (nI 0)])) (by decide +kernel) rfl ?_
  dsimp only
  refine am_Rq.ret (v := some (.int (nI 0))) (show decode (am_by 109) 22 = .ok (.ireturn, 1) by decide +kernel) rfl rfl ?_
  exact ⟨_, rfl, rfl, rfl⟩
theorem m_exercise_no1 {th kn co : Nat} (hM : hp[238]? = some (7, [.int (nI th), .ref 239, .ref 240, .int (nI kn), .ref 241, .ref 242, .ref 243, .ref 244, .long (lN co), .ref 245])) {s : Nat → Nat} (hS : hp[239]? = some (100, am_ia (fun i => nI (s i)) 160)) {x y : Int32} (hx : rg_r (nI 0) (nI (s 82) - nI 1) x = false) : am_Rq (d + 2) 111 0 (am_en [.ref 238, .int x, .int y] 5) [] hp (am_Ret fun hp1 v => hp1 = hp.set 238 (7, m_ob 1 kn co) ∧ v = some (.int (nI (0)))) := by
  show am_Rq _ 111 0 [some (.ref 238), some (.int x), some (.int y), none, none] [] _ _
  refine am_Rq.blk (is := [(.aload_n 0, 1), (.iload_n 1, 1)]) (q := (2, [some (.ref 238), some (.int x), some (.int y), none, none], [.int x, .ref 238])) (by decide +kernel) rfl ?_
  dsimp only
  refine am_Rq.callV (show decode (am_by 111) 2 = .ok (.invokevirtual 87, 3) by decide +kernel) rfl [.int x] [] rfl rfl (Nat.le_of_ble_eq_true rfl) rfl hM rfl (m_isGrant hM hS (x)) ?_
  rintro hq _ ⟨e1, rfl⟩
  rw [e1]
  clear e1 hq
  show am_Rq _ 111 5 [some (.ref 238), some (.int x), some (.int y), none, none] [.int (nI (am_b (rg_r (nI 0) (nI (s 82) - nI 1) (x))))] _ _
  refine am_Rq.blk (is := [(.istore_n 3, 1), (.iload_n 3, 1)]) (q := (7, [some (.ref 238), some (.int x), some (.int y), some (.int (nI (am_b (rg_r (nI 0) (nI (s 82) - nI 1) (x))))), none], [.int (nI (am_b (rg_r (nI 0) (nI (s 82) - nI 1) (x))))])) (by decide +kernel) rfl ?_
  dsimp only
  refine am_Rq.if1T (t := 49) (show decode (am_by 111) 7 = .ok (.ifCond .eq 42, 3) by decide +kernel) (by decide) (by rw [am_b_eq, hx]; rfl) ?_
  refine am_Rq.blk (is := [(.iconst 0, 1), (.istore 4, 2), (.aload_n 0, 1), (.iload_n 3, 1)]) (q := (54, [some (.ref 238), some (.int x), some (.int y), some (.int (nI (am_b (rg_r (nI 0) (nI (s 82) - nI 1) (x))))), some (.int (nI 0))], [.int (nI (am_b (rg_r (nI 0) (nI (s 82) - nI 1) (x)))), .ref 238])) (by decide +kernel) rfl ?_
  dsimp only
  refine am_Rq.if1F (show decode (am_by 111) 54 = .ok (.ifCond .ne 7, 3) by decide +kernel) (by decide) (by rw [am_b_ne, hx]) ?_
  refine am_Rq.blk (is := [(.iconst 1, 1), (.goto 4, 3)]) (q := (62, [some (.ref 238), some (.int x), some (.int y), some (.int (nI (am_b (rg_r (nI 0) (nI (s 82) - nI 1) (x))))), some (.int (nI 0))], [.int (nI 1), .ref 238])) (by decide +kernel) rfl ?_
  dsimp only
  refine am_Rq.blk (is := [(.iload_n 2, 1), (.iconst 1, 1)]) (q := (64, [some (.ref 238), some (.int x), some (.int y), some (.int (nI (am_b (rg_r (nI 0) (nI (s 82) - nI 1) (x))))), some (.int (nI 0))], [.int (nI 1), .int y, .int (nI 1), .ref 238])) (by decide +kernel) rfl ?_
  dsimp only
  refine am_Rq.if2 (t := 71) (show decode (am_by 111) 64 = .ok (.if_icmp .ge 7, 3) by decide +kernel) (by decide) (fun e1 => ?_) (fun e1 => ?_)
  ·
    refine am_Rq.blk (is := [(.iconst 0, 1), (.iload 4, 2)]) (q := (74, [some (.ref 238), some (.int x), some (.int y), some (.int (nI (am_b (rg_r (nI 0) (nI (s 82) - nI 1) (x))))), some (.int (nI 0))], [.int (nI 0), .int (nI 0), .int (nI 1), .ref 238])) (by decide +kernel) rfl ?_
    dsimp only
    refine am_Rq.if1F (show decode (am_by 111) 74 = .ok (.ifCond .ne 7, 3) by decide +kernel) (by decide) (rfl) ?_
    refine am_Rq.blk (is := [(.iconst 1, 1), (.goto 4, 3)]) (q := (82, [some (.ref 238), some (.int x), some (.int y), some (.int (nI (am_b (rg_r (nI 0) (nI (s 82) - nI 1) (x))))), some (.int (nI 0))], [.int (nI 1), .int (nI 0), .int (nI 1), .ref 238])) (by decide +kernel) rfl ?_
    dsimp only
    refine am_Rq.callV (show decode (am_by 111) 82 = .ok (.invokevirtual 57, 3) by decide +kernel) rfl [.int (nI (am_b true)), .int (nI (am_b false)), .int (nI (am_b true))] [] rfl rfl (Nat.le_of_ble_eq_true rfl) rfl hM rfl (m_refused hM true false true) ?_
    rintro _ _ ⟨rfl, rfl⟩
    have hM1 := am_ss (c' := (7, m_ob 1 kn co)) hM
    have hS1 := (am_sn (c' := (7, m_ob 1 kn co)) (show 238 ≠ 239 by decide)).trans hS
    show am_Rq _ 111 85 [some (.ref 238), some (.int x), some (.int y), some (.int (nI (am_b (rg_r (nI 0) (nI (s 82) - nI 1) (x))))), some (.int (nI 0))] [.int (nI (am_b true))] _ _
    refine am_Rq.if1F (show decode (am_by 111) 85 = .ok (.ifCond .eq 5, 3) by decide +kernel) (by decide) (rfl) ?_
    refine am_Rq.blk (is := [(.iconst 0, 1)]) (q := (89, [some (.ref 238), some (.int x), some (.int y), some (.int (nI (am_b (rg_r (nI 0) (nI (s 82) - nI 1) (x))))), some (.int (nI 0))], [.int (nI 0)])) (by decide +kernel) rfl ?_
    dsimp only
    refine am_Rq.ret (v := some (.int (nI 0))) (show decode (am_by 111) 89 = .ok (.ireturn, 1) by decide +kernel) rfl rfl ?_
    exact ⟨_, rfl, rfl, rfl⟩
  ·
    refine am_Rq.blk (is := [(.iconst 1, 1), (.goto 4, 3)]) (q := (72, [some (.ref 238), some (.int x), some (.int y), some (.int (nI (am_b (rg_r (nI 0) (nI (s 82) - nI 1) (x))))), some (.int (nI 0))], [.int (nI 1), .int (nI 1), .ref 238])) (by decide +kernel) rfl ?_
    dsimp only
    refine am_Rq.blk (is := [(.iload 4, 2)]) (q := (74, [some (.ref 238), some (.int x), some (.int y), some (.int (nI (am_b (rg_r (nI 0) (nI (s 82) - nI 1) (x))))), some (.int (nI 0))], [.int (nI 0), .int (nI 1), .int (nI 1), .ref 238])) (by decide +kernel) rfl ?_
    dsimp only
    refine am_Rq.if1F (show decode (am_by 111) 74 = .ok (.ifCond .ne 7, 3) by decide +kernel) (by decide) (rfl) ?_
    refine am_Rq.blk (is := [(.iconst 1, 1), (.goto 4, 3)]) (q := (82, [some (.ref 238), some (.int x), some (.int y), some (.int (nI (am_b (rg_r (nI 0) (nI (s 82) - nI 1) (x))))), some (.int (nI 0))], [.int (nI 1), .int (nI 1), .int (nI 1), .ref 238])) (by decide +kernel) rfl ?_
    dsimp only
    refine am_Rq.callV (show decode (am_by 111) 82 = .ok (.invokevirtual 57, 3) by decide +kernel) rfl [.int (nI (am_b true)), .int (nI (am_b true)), .int (nI (am_b true))] [] rfl rfl (Nat.le_of_ble_eq_true rfl) rfl hM rfl (m_refused hM true true true) ?_
    rintro _ _ ⟨rfl, rfl⟩
    have hM1 := am_ss (c' := (7, m_ob 1 kn co)) hM
    have hS1 := (am_sn (c' := (7, m_ob 1 kn co)) (show 238 ≠ 239 by decide)).trans hS
    show am_Rq _ 111 85 [some (.ref 238), some (.int x), some (.int y), some (.int (nI (am_b (rg_r (nI 0) (nI (s 82) - nI 1) (x))))), some (.int (nI 0))] [.int (nI (am_b true))] _ _
    refine am_Rq.if1F (show decode (am_by 111) 85 = .ok (.ifCond .eq 5, 3) by decide +kernel) (by decide) (rfl) ?_
    refine am_Rq.blk (is := [(.iconst 0, 1)]) (q := (89, [some (.ref 238), some (.int x), some (.int y), some (.int (nI (am_b (rg_r (nI 0) (nI (s 82) - nI 1) (x))))), some (.int (nI 0))], [.int (nI 0)])) (by decide +kernel) rfl ?_
    dsimp only
    refine am_Rq.ret (v := some (.int (nI 0))) (show decode (am_by 111) 89 = .ok (.ireturn, 1) by decide +kernel) rfl rfl ?_
    exact ⟨_, rfl, rfl, rfl⟩
theorem m_exercise_no2 {th kn co : Nat} (hM : hp[238]? = some (7, [.int (nI th), .ref 239, .ref 240, .int (nI kn), .ref 241, .ref 242, .ref 243, .ref 244, .long (lN co), .ref 245])) {s : Nat → Nat} (hS : hp[239]? = some (100, am_ia (fun i => nI (s i)) 160)) {g : Nat} (hg : g < s 82) (h82 : s 82 ≤ 10) {u : Int32} (hu : u < nI 1) : am_Rq (d + 2) 111 0 (am_en [.ref 238, .int (nI g), .int u] 5) [] hp (am_Ret fun hp1 v => hp1 = hp.set 238 (7, m_ob 2 kn co) ∧ v = some (.int (nI (0)))) := by
  show am_Rq _ 111 0 [some (.ref 238), some (.int (nI g)), some (.int u), none, none] [] _ _
  refine am_Rq.blk (is := [(.aload_n 0, 1), (.iload_n 1, 1)]) (q := (2, [some (.ref 238), some (.int (nI g)), some (.int u), none, none], [.int (nI g), .ref 238])) (by decide +kernel) rfl ?_
  dsimp only
  refine am_Rq.callV (show decode (am_by 111) 2 = .ok (.invokevirtual 87, 3) by decide +kernel) rfl [.int (nI g)] [] rfl rfl (Nat.le_of_ble_eq_true rfl) rfl hM rfl (m_isGrant hM hS (nI g)) ?_
  rintro hq _ ⟨e1, rfl⟩
  rw [e1]
  clear e1 hq
  show am_Rq _ 111 5 [some (.ref 238), some (.int (nI g)), some (.int u), none, none] [.int (nI (am_b (rg_r (nI 0) (nI (s 82) - nI 1) (nI g))))] _ _
  refine am_Rq.blk (is := [(.istore_n 3, 1), (.iload_n 3, 1)]) (q := (7, [some (.ref 238), some (.int (nI g)), some (.int u), some (.int (nI (am_b (rg_r (nI 0) (nI (s 82) - nI 1) (nI g))))), none], [.int (nI (am_b (rg_r (nI 0) (nI (s 82) - nI 1) (nI g))))])) (by decide +kernel) rfl ?_
  dsimp only
  refine am_Rq.if1F (show decode (am_by 111) 7 = .ok (.ifCond .eq 42, 3) by decide +kernel) (by decide) (by rw [am_b_eq, rg_lt hg (by omega)]; rfl) ?_
  refine am_Rq.blk (is := [(.iload_n 2, 1), (.iconst 1, 1)]) (q := (12, [some (.ref 238), some (.int (nI g)), some (.int u), some (.int (nI (am_b (rg_r (nI 0) (nI (s 82) - nI 1) (nI g))))), none], [.int (nI 1), .int u])) (by decide +kernel) rfl ?_
  dsimp only
  refine am_Rq.if2T (t := 49) (show decode (am_by 111) 12 = .ok (.if_icmp .lt 37, 3) by decide +kernel) (by decide) (by exact decide_eq_true hu) ?_
  refine am_Rq.blk (is := [(.iconst 0, 1), (.istore 4, 2), (.aload_n 0, 1), (.iload_n 3, 1)]) (q := (54, [some (.ref 238), some (.int (nI g)), some (.int u), some (.int (nI (am_b (rg_r (nI 0) (nI (s 82) - nI 1) (nI g))))), some (.int (nI 0))], [.int (nI (am_b (rg_r (nI 0) (nI (s 82) - nI 1) (nI g)))), .ref 238])) (by decide +kernel) rfl ?_
  dsimp only
  refine am_Rq.if1T (t := 61) (show decode (am_by 111) 54 = .ok (.ifCond .ne 7, 3) by decide +kernel) (by decide) (by rw [am_b_ne, rg_lt hg (by omega)]) ?_
  refine am_Rq.blk (is := [(.iconst 0, 1), (.iload_n 2, 1), (.iconst 1, 1)]) (q := (64, [some (.ref 238), some (.int (nI g)), some (.int u), some (.int (nI (am_b (rg_r (nI 0) (nI (s 82) - nI 1) (nI g))))), some (.int (nI 0))], [.int (nI 1), .int u, .int (nI 0), .ref 238])) (by decide +kernel) rfl ?_
  dsimp only
  refine am_Rq.if2F (show decode (am_by 111) 64 = .ok (.if_icmp .ge 7, 3) by decide +kernel) (by decide) (by exact decide_eq_false (by rw [Int32.not_le]; exact hu)) ?_
  refine am_Rq.blk (is := [(.iconst 1, 1), (.goto 4, 3)]) (q := (72, [some (.ref 238), some (.int (nI g)), some (.int u), some (.int (nI (am_b (rg_r (nI 0) (nI (s 82) - nI 1) (nI g))))), some (.int (nI 0))], [.int (nI 1), .int (nI 0), .ref 238])) (by decide +kernel) rfl ?_
  dsimp only
  refine am_Rq.blk (is := [(.iload 4, 2)]) (q := (74, [some (.ref 238), some (.int (nI g)), some (.int u), some (.int (nI (am_b (rg_r (nI 0) (nI (s 82) - nI 1) (nI g))))), some (.int (nI 0))], [.int (nI 0), .int (nI 1), .int (nI 0), .ref 238])) (by decide +kernel) rfl ?_
  dsimp only
  refine am_Rq.if1F (show decode (am_by 111) 74 = .ok (.ifCond .ne 7, 3) by decide +kernel) (by decide) (rfl) ?_
  refine am_Rq.blk (is := [(.iconst 1, 1), (.goto 4, 3)]) (q := (82, [some (.ref 238), some (.int (nI g)), some (.int u), some (.int (nI (am_b (rg_r (nI 0) (nI (s 82) - nI 1) (nI g))))), some (.int (nI 0))], [.int (nI 1), .int (nI 1), .int (nI 0), .ref 238])) (by decide +kernel) rfl ?_
  dsimp only
  refine am_Rq.callV (show decode (am_by 111) 82 = .ok (.invokevirtual 57, 3) by decide +kernel) rfl [.int (nI (am_b false)), .int (nI (am_b true)), .int (nI (am_b true))] [] rfl rfl (Nat.le_of_ble_eq_true rfl) rfl hM rfl (m_refused hM false true true) ?_
  rintro _ _ ⟨rfl, rfl⟩
  have hM1 := am_ss (c' := (7, m_ob 2 kn co)) hM
  have hS1 := (am_sn (c' := (7, m_ob 2 kn co)) (show 238 ≠ 239 by decide)).trans hS
  show am_Rq _ 111 85 [some (.ref 238), some (.int (nI g)), some (.int u), some (.int (nI (am_b (rg_r (nI 0) (nI (s 82) - nI 1) (nI g))))), some (.int (nI 0))] [.int (nI (am_b true))] _ _
  refine am_Rq.if1F (show decode (am_by 111) 85 = .ok (.ifCond .eq 5, 3) by decide +kernel) (by decide) (rfl) ?_
  refine am_Rq.blk (is := [(.iconst 0, 1)]) (q := (89, [some (.ref 238), some (.int (nI g)), some (.int u), some (.int (nI (am_b (rg_r (nI 0) (nI (s 82) - nI 1) (nI g))))), some (.int (nI 0))], [.int (nI 0)])) (by decide +kernel) rfl ?_
  dsimp only
  refine am_Rq.ret (v := some (.int (nI 0))) (show decode (am_by 111) 89 = .ok (.ireturn, 1) by decide +kernel) rfl rfl ?_
  exact ⟨_, rfl, rfl, rfl⟩
theorem m_exercise_no3 {th kn co : Nat} (hM : hp[238]? = some (7, [.int (nI th), .ref 239, .ref 240, .int (nI kn), .ref 241, .ref 242, .ref 243, .ref 244, .long (lN co), .ref 245])) {s : Nat → Nat} (hS : hp[239]? = some (100, am_ia (fun i => nI (s i)) 160)) {g n : Nat} (hg : g < s 82) (h82 : s 82 ≤ 10) (h1 : 1 ≤ n) (hm : s 81 < 2 ^ 31) (hf : s (83 + 7 * g + 4) ≤ s 81) (hS2 : s (83 + 7 * g + 1) ≤ 2000) (hN : s (83 + 7 * g + 3) ≤ 60) (hC : s (83 + 7 * g + 2) ≤ 60) (hE : s (83 + 7 * g + 5) ≤ 1) (hX : s (83 + 7 * g + 6) ≤ 2000) (hn2 : n < 2 ^ 31) (ho : c_vg s g < s (83 + 7 * g + 6) + n) : am_Rq (d + 2) 111 0 (am_en [.ref 238, .int (nI g), .int (nI n)] 5) [] hp (am_Ret fun hp1 v => hp1 = hp.set 238 (7, m_ob 3 kn co) ∧ v = some (.int (nI (0)))) := by
  show am_Rq _ 111 0 [some (.ref 238), some (.int (nI g)), some (.int (nI n)), none, none] [] _ _
  have hv : c_vg s g ≤ 2000 := Nat.le_trans (g_v_le _ _ _ _ _) hS2
  refine am_Rq.blk (is := [(.aload_n 0, 1), (.iload_n 1, 1)]) (q := (2, [some (.ref 238), some (.int (nI g)), some (.int (nI n)), none, none], [.int (nI g), .ref 238])) (by decide +kernel) rfl ?_
  dsimp only
  refine am_Rq.callV (show decode (am_by 111) 2 = .ok (.invokevirtual 87, 3) by decide +kernel) rfl [.int (nI g)] [] rfl rfl (Nat.le_of_ble_eq_true rfl) rfl hM rfl (m_isGrant hM hS (nI g)) ?_
  rintro hq _ ⟨e1, rfl⟩
  rw [e1]
  clear e1 hq
  show am_Rq _ 111 5 [some (.ref 238), some (.int (nI g)), some (.int (nI n)), none, none] [.int (nI (am_b (rg_r (nI 0) (nI (s 82) - nI 1) (nI g))))] _ _
  refine am_Rq.blk (is := [(.istore_n 3, 1), (.iload_n 3, 1)]) (q := (7, [some (.ref 238), some (.int (nI g)), some (.int (nI n)), some (.int (nI (am_b (rg_r (nI 0) (nI (s 82) - nI 1) (nI g))))), none], [.int (nI (am_b (rg_r (nI 0) (nI (s 82) - nI 1) (nI g))))])) (by decide +kernel) rfl ?_
  dsimp only
  refine am_Rq.if1F (show decode (am_by 111) 7 = .ok (.ifCond .eq 42, 3) by decide +kernel) (by decide) (by rw [am_b_eq, rg_lt hg (by omega)]; rfl) ?_
  refine am_Rq.blk (is := [(.iload_n 2, 1), (.iconst 1, 1)]) (q := (12, [some (.ref 238), some (.int (nI g)), some (.int (nI n)), some (.int (nI (am_b (rg_r (nI 0) (nI (s 82) - nI 1) (nI g))))), none], [.int (nI 1), .int (nI n)])) (by decide +kernel) rfl ?_
  dsimp only
  refine am_Rq.if2F (show decode (am_by 111) 12 = .ok (.if_icmp .lt 37, 3) by decide +kernel) (by decide) (by rw [nm_lt (by omega) (by omega)]; exact decide_eq_false (by omega)) ?_
  refine am_Rq.blk (is := [(.aload_n 0, 1), (.iload_n 1, 1)]) (q := (17, [some (.ref 238), some (.int (nI g)), some (.int (nI n)), some (.int (nI (am_b (rg_r (nI 0) (nI (s 82) - nI 1) (nI g))))), none], [.int (nI g), .ref 238])) (by decide +kernel) rfl ?_
  dsimp only
  refine am_Rq.callV (show decode (am_by 111) 17 = .ok (.invokevirtual 84, 3) by decide +kernel) rfl [.int (nI g)] [] rfl rfl (Nat.le_of_ble_eq_true rfl) rfl hM rfl (m_vestedOf hM hS (by omega) hm hf hS2 hN hC hE) ?_
  rintro hq _ ⟨e1, rfl⟩
  rw [e1]
  clear e1 hq
  show am_Rq _ 111 20 [some (.ref 238), some (.int (nI g)), some (.int (nI n)), some (.int (nI (am_b (rg_r (nI 0) (nI (s 82) - nI 1) (nI g))))), none] [.int (nI (c_vg s g))] _ _
  refine am_Rq.blk (is := [(.aload_n 0, 1), (.iload_n 1, 1), (.bipush 6, 2)]) (q := (24, [some (.ref 238), some (.int (nI g)), some (.int (nI n)), some (.int (nI (am_b (rg_r (nI 0) (nI (s 82) - nI 1) (nI g))))), none], [.int (nI 6), .int (nI g), .ref 238, .int (nI (c_vg s g))])) (by decide +kernel) rfl ?_
  dsimp only
  refine am_Rq.callV (show decode (am_by 111) 24 = .ok (.invokevirtual 77, 3) by decide +kernel) rfl [.int (nI g), .int (nI 6)] [.int (nI (c_vg s g))] rfl rfl (Nat.le_of_ble_eq_true rfl) rfl hM rfl (m_grantOf hM hS (by omega) (by omega)) ?_
  rintro hq _ ⟨e1, rfl⟩
  rw [e1]
  clear e1 hq
  show am_Rq _ 111 27 [some (.ref 238), some (.int (nI g)), some (.int (nI n)), some (.int (nI (am_b (rg_r (nI 0) (nI (s 82) - nI 1) (nI g))))), none] [.int (nI (s (83 + 7 * g + 6))), .int (nI (c_vg s g))] _ _
  refine am_Rq.blk (is := [(.isub, 1), (.iload_n 2, 1)]) (q := (29, [some (.ref 238), some (.int (nI g)), some (.int (nI n)), some (.int (nI (am_b (rg_r (nI 0) (nI (s 82) - nI 1) (nI g))))), none], [.int (nI n), .int ((nI (c_vg s g)) - (nI (s (83 + 7 * g + 6))))])) (by decide +kernel) rfl ?_
  dsimp only
  refine am_Rq.if2T (t := 49) (show decode (am_by 111) 29 = .ok (.if_icmp .lt 20, 3) by decide +kernel) (by decide) (by exact decide_eq_true (by rw [nm_subLt (by omega) (by omega) hn2]; exact ho)) ?_
  refine am_Rq.blk (is := [(.iconst 0, 1), (.istore 4, 2), (.aload_n 0, 1), (.iload_n 3, 1)]) (q := (54, [some (.ref 238), some (.int (nI g)), some (.int (nI n)), some (.int (nI (am_b (rg_r (nI 0) (nI (s 82) - nI 1) (nI g))))), some (.int (nI 0))], [.int (nI (am_b (rg_r (nI 0) (nI (s 82) - nI 1) (nI g)))), .ref 238])) (by decide +kernel) rfl ?_
  dsimp only
  refine am_Rq.if1T (t := 61) (show decode (am_by 111) 54 = .ok (.ifCond .ne 7, 3) by decide +kernel) (by decide) (by rw [am_b_ne, rg_lt hg (by omega)]) ?_
  refine am_Rq.blk (is := [(.iconst 0, 1), (.iload_n 2, 1), (.iconst 1, 1)]) (q := (64, [some (.ref 238), some (.int (nI g)), some (.int (nI n)), some (.int (nI (am_b (rg_r (nI 0) (nI (s 82) - nI 1) (nI g))))), some (.int (nI 0))], [.int (nI 1), .int (nI n), .int (nI 0), .ref 238])) (by decide +kernel) rfl ?_
  dsimp only
  refine am_Rq.if2T (t := 71) (show decode (am_by 111) 64 = .ok (.if_icmp .ge 7, 3) by decide +kernel) (by decide) (by rw [nm_ge (by omega) (by omega)]; exact decide_eq_true (by omega)) ?_
  refine am_Rq.blk (is := [(.iconst 0, 1), (.iload 4, 2)]) (q := (74, [some (.ref 238), some (.int (nI g)), some (.int (nI n)), some (.int (nI (am_b (rg_r (nI 0) (nI (s 82) - nI 1) (nI g))))), some (.int (nI 0))], [.int (nI 0), .int (nI 0), .int (nI 0), .ref 238])) (by decide +kernel) rfl ?_
  dsimp only
  refine am_Rq.if1F (show decode (am_by 111) 74 = .ok (.ifCond .ne 7, 3) by decide +kernel) (by decide) (rfl) ?_
  refine am_Rq.blk (is := [(.iconst 1, 1), (.goto 4, 3)]) (q := (82, [some (.ref 238), some (.int (nI g)), some (.int (nI n)), some (.int (nI (am_b (rg_r (nI 0) (nI (s 82) - nI 1) (nI g))))), some (.int (nI 0))], [.int (nI 1), .int (nI 0), .int (nI 0), .ref 238])) (by decide +kernel) rfl ?_
  dsimp only
  refine am_Rq.callV (show decode (am_by 111) 82 = .ok (.invokevirtual 57, 3) by decide +kernel) rfl [.int (nI (am_b false)), .int (nI (am_b false)), .int (nI (am_b true))] [] rfl rfl (Nat.le_of_ble_eq_true rfl) rfl hM rfl (m_refused hM false false true) ?_
  rintro _ _ ⟨rfl, rfl⟩
  have hM1 := am_ss (c' := (7, m_ob 3 kn co)) hM
  have hS1 := (am_sn (c' := (7, m_ob 3 kn co)) (show 238 ≠ 239 by decide)).trans hS
  show am_Rq _ 111 85 [some (.ref 238), some (.int (nI g)), some (.int (nI n)), some (.int (nI (am_b (rg_r (nI 0) (nI (s 82) - nI 1) (nI g))))), some (.int (nI 0))] [.int (nI (am_b true))] _ _
  refine am_Rq.if1F (show decode (am_by 111) 85 = .ok (.ifCond .eq 5, 3) by decide +kernel) (by decide) (rfl) ?_
  refine am_Rq.blk (is := [(.iconst 0, 1)]) (q := (89, [some (.ref 238), some (.int (nI g)), some (.int (nI n)), some (.int (nI (am_b (rg_r (nI 0) (nI (s 82) - nI 1) (nI g))))), some (.int (nI 0))], [.int (nI 0)])) (by decide +kernel) rfl ?_
  dsimp only
  refine am_Rq.ret (v := some (.int (nI 0))) (show decode (am_by 111) 89 = .ok (.ireturn, 1) by decide +kernel) rfl rfl ?_
  exact ⟨_, rfl, rfl, rfl⟩
theorem m_exercise_no4 {th kn co : Nat} (hM : hp[238]? = some (7, [.int (nI th), .ref 239, .ref 240, .int (nI kn), .ref 241, .ref 242, .ref 243, .ref 244, .long (lN co), .ref 245])) {s : Nat → Nat} (hS : hp[239]? = some (100, am_ia (fun i => nI (s i)) 160)) {g n : Nat} (hg : g < s 82) (h82 : s 82 ≤ 10) (h1 : 1 ≤ n) (hm : s 81 < 2 ^ 31) (hf : s (83 + 7 * g + 4) ≤ s 81) (hS2 : s (83 + 7 * g + 1) ≤ 2000) (hN : s (83 + 7 * g + 3) ≤ 60) (hC : s (83 + 7 * g + 2) ≤ 60) (hE : s (83 + 7 * g + 5) ≤ 1) (hX : s (83 + 7 * g + 6) ≤ 2000) (hi : m_iss s 0 ≤ 20000) (ho : s (83 + 7 * g + 6) + n ≤ c_vg s g) (h20 : 20000 < m_iss s 0 + n) : am_Rq (d + 2) 111 0 (am_en [.ref 238, .int (nI g), .int (nI n)] 5) [] hp (am_Ret fun hp1 v => hp1 = hp.set 238 (7, m_ob 3 kn co) ∧ v = some (.int (nI (0)))) := by
  show am_Rq _ 111 0 [some (.ref 238), some (.int (nI g)), some (.int (nI n)), none, none] [] _ _
  have hv : c_vg s g ≤ 2000 := Nat.le_trans (g_v_le _ _ _ _ _) hS2
  refine am_Rq.blk (is := [(.aload_n 0, 1), (.iload_n 1, 1)]) (q := (2, [some (.ref 238), some (.int (nI g)), some (.int (nI n)), none, none], [.int (nI g), .ref 238])) (by decide +kernel) rfl ?_
  dsimp only
  refine am_Rq.callV (show decode (am_by 111) 2 = .ok (.invokevirtual 87, 3) by decide +kernel) rfl [.int (nI g)] [] rfl rfl (Nat.le_of_ble_eq_true rfl) rfl hM rfl (m_isGrant hM hS (nI g)) ?_
  rintro hq _ ⟨e1, rfl⟩
  rw [e1]
  clear e1 hq
  show am_Rq _ 111 5 [some (.ref 238), some (.int (nI g)), some (.int (nI n)), none, none] [.int (nI (am_b (rg_r (nI 0) (nI (s 82) - nI 1) (nI g))))] _ _
  refine am_Rq.blk (is := [(.istore_n 3, 1), (.iload_n 3, 1)]) (q := (7, [some (.ref 238), some (.int (nI g)), some (.int (nI n)), some (.int (nI (am_b (rg_r (nI 0) (nI (s 82) - nI 1) (nI g))))), none], [.int (nI (am_b (rg_r (nI 0) (nI (s 82) - nI 1) (nI g))))])) (by decide +kernel) rfl ?_
  dsimp only
  refine am_Rq.if1F (show decode (am_by 111) 7 = .ok (.ifCond .eq 42, 3) by decide +kernel) (by decide) (by rw [am_b_eq, rg_lt hg (by omega)]; rfl) ?_
  refine am_Rq.blk (is := [(.iload_n 2, 1), (.iconst 1, 1)]) (q := (12, [some (.ref 238), some (.int (nI g)), some (.int (nI n)), some (.int (nI (am_b (rg_r (nI 0) (nI (s 82) - nI 1) (nI g))))), none], [.int (nI 1), .int (nI n)])) (by decide +kernel) rfl ?_
  dsimp only
  refine am_Rq.if2F (show decode (am_by 111) 12 = .ok (.if_icmp .lt 37, 3) by decide +kernel) (by decide) (by rw [nm_lt (by omega) (by omega)]; exact decide_eq_false (by omega)) ?_
  refine am_Rq.blk (is := [(.aload_n 0, 1), (.iload_n 1, 1)]) (q := (17, [some (.ref 238), some (.int (nI g)), some (.int (nI n)), some (.int (nI (am_b (rg_r (nI 0) (nI (s 82) - nI 1) (nI g))))), none], [.int (nI g), .ref 238])) (by decide +kernel) rfl ?_
  dsimp only
  refine am_Rq.callV (show decode (am_by 111) 17 = .ok (.invokevirtual 84, 3) by decide +kernel) rfl [.int (nI g)] [] rfl rfl (Nat.le_of_ble_eq_true rfl) rfl hM rfl (m_vestedOf hM hS (by omega) hm hf hS2 hN hC hE) ?_
  rintro hq _ ⟨e1, rfl⟩
  rw [e1]
  clear e1 hq
  show am_Rq _ 111 20 [some (.ref 238), some (.int (nI g)), some (.int (nI n)), some (.int (nI (am_b (rg_r (nI 0) (nI (s 82) - nI 1) (nI g))))), none] [.int (nI (c_vg s g))] _ _
  refine am_Rq.blk (is := [(.aload_n 0, 1), (.iload_n 1, 1), (.bipush 6, 2)]) (q := (24, [some (.ref 238), some (.int (nI g)), some (.int (nI n)), some (.int (nI (am_b (rg_r (nI 0) (nI (s 82) - nI 1) (nI g))))), none], [.int (nI 6), .int (nI g), .ref 238, .int (nI (c_vg s g))])) (by decide +kernel) rfl ?_
  dsimp only
  refine am_Rq.callV (show decode (am_by 111) 24 = .ok (.invokevirtual 77, 3) by decide +kernel) rfl [.int (nI g), .int (nI 6)] [.int (nI (c_vg s g))] rfl rfl (Nat.le_of_ble_eq_true rfl) rfl hM rfl (m_grantOf hM hS (by omega) (by omega)) ?_
  rintro hq _ ⟨e1, rfl⟩
  rw [e1]
  clear e1 hq
  show am_Rq _ 111 27 [some (.ref 238), some (.int (nI g)), some (.int (nI n)), some (.int (nI (am_b (rg_r (nI 0) (nI (s 82) - nI 1) (nI g))))), none] [.int (nI (s (83 + 7 * g + 6))), .int (nI (c_vg s g))] _ _
  refine am_Rq.blk (is := [(.isub, 1)]) (q := (28, [some (.ref 238), some (.int (nI g)), some (.int (nI n)), some (.int (nI (am_b (rg_r (nI 0) (nI (s 82) - nI 1) (nI g))))), none], [.int ((nI (c_vg s g)) - (nI (s (83 + 7 * g + 6))))])) (by decide +kernel) rfl ?_
  dsimp only
  rw [show (nI (c_vg s g)) - (nI (s (83 + 7 * g + 6))) = nI ((c_vg s g) - (s (83 + 7 * g + 6))) from nm_isub (by omega)]
  refine am_Rq.blk (is := [(.iload_n 2, 1)]) (q := (29, [some (.ref 238), some (.int (nI g)), some (.int (nI n)), some (.int (nI (am_b (rg_r (nI 0) (nI (s 82) - nI 1) (nI g))))), none], [.int (nI n), .int (nI ((c_vg s g) - (s (83 + 7 * g + 6))))])) (by decide +kernel) rfl ?_
  dsimp only
  refine am_Rq.if2F (show decode (am_by 111) 29 = .ok (.if_icmp .lt 20, 3) by decide +kernel) (by decide) (by rw [nm_lt (by omega) (by omega)]; exact decide_eq_false (by omega)) ?_
  refine am_Rq.blk (is := [(.aload_n 0, 1), (.iconst 0, 1)]) (q := (34, [some (.ref 238), some (.int (nI g)), some (.int (nI n)), some (.int (nI (am_b (rg_r (nI 0) (nI (s 82) - nI 1) (nI g))))), none], [.int (nI 0), .ref 238])) (by decide +kernel) rfl ?_
  dsimp only
  refine am_Rq.callV (show decode (am_by 111) 34 = .ok (.invokevirtual 49, 3) by decide +kernel) rfl [.int (nI 0)] [] rfl rfl (Nat.le_of_ble_eq_true rfl) rfl hM rfl (m_issued hM hS (c := 0) (by omega)) ?_
  rintro hq _ ⟨e1, rfl⟩
  rw [e1]
  clear e1 hq
  show am_Rq _ 111 37 [some (.ref 238), some (.int (nI g)), some (.int (nI n)), some (.int (nI (am_b (rg_r (nI 0) (nI (s 82) - nI 1) (nI g))))), none] [.int (nI (m_iss s 0))] _ _
  refine am_Rq.blk (is := [(.iload_n 2, 1), (.iadd, 1)]) (q := (39, [some (.ref 238), some (.int (nI g)), some (.int (nI n)), some (.int (nI (am_b (rg_r (nI 0) (nI (s 82) - nI 1) (nI g))))), none], [.int ((nI (m_iss s 0)) + (nI n))])) (by decide +kernel) rfl ?_
  dsimp only
  rw [show (nI (m_iss s 0)) + (nI n) = nI ((m_iss s 0) + n) from nI_add _ _]
  refine am_Rq.blk (is := [(.sipush 20000, 3)]) (q := (42, [some (.ref 238), some (.int (nI g)), some (.int (nI n)), some (.int (nI (am_b (rg_r (nI 0) (nI (s 82) - nI 1) (nI g))))), none], [.int (nI 20000), .int (nI ((m_iss s 0) + n))])) (by decide +kernel) rfl ?_
  dsimp only
  refine am_Rq.if2T (t := 49) (show decode (am_by 111) 42 = .ok (.if_icmp .gt 7, 3) by decide +kernel) (by decide) (by rw [nm_gt (by omega) (by omega)]; exact decide_eq_true (by omega)) ?_
  refine am_Rq.blk (is := [(.iconst 0, 1), (.istore 4, 2), (.aload_n 0, 1), (.iload_n 3, 1)]) (q := (54, [some (.ref 238), some (.int (nI g)), some (.int (nI n)), some (.int (nI (am_b (rg_r (nI 0) (nI (s 82) - nI 1) (nI g))))), some (.int (nI 0))], [.int (nI (am_b (rg_r (nI 0) (nI (s 82) - nI 1) (nI g)))), .ref 238])) (by decide +kernel) rfl ?_
  dsimp only
  refine am_Rq.if1T (t := 61) (show decode (am_by 111) 54 = .ok (.ifCond .ne 7, 3) by decide +kernel) (by decide) (by rw [am_b_ne, rg_lt hg (by omega)]) ?_
  refine am_Rq.blk (is := [(.iconst 0, 1), (.iload_n 2, 1), (.iconst 1, 1)]) (q := (64, [some (.ref 238), some (.int (nI g)), some (.int (nI n)), some (.int (nI (am_b (rg_r (nI 0) (nI (s 82) - nI 1) (nI g))))), some (.int (nI 0))], [.int (nI 1), .int (nI n), .int (nI 0), .ref 238])) (by decide +kernel) rfl ?_
  dsimp only
  refine am_Rq.if2T (t := 71) (show decode (am_by 111) 64 = .ok (.if_icmp .ge 7, 3) by decide +kernel) (by decide) (by rw [nm_ge (by omega) (by omega)]; exact decide_eq_true (by omega)) ?_
  refine am_Rq.blk (is := [(.iconst 0, 1), (.iload 4, 2)]) (q := (74, [some (.ref 238), some (.int (nI g)), some (.int (nI n)), some (.int (nI (am_b (rg_r (nI 0) (nI (s 82) - nI 1) (nI g))))), some (.int (nI 0))], [.int (nI 0), .int (nI 0), .int (nI 0), .ref 238])) (by decide +kernel) rfl ?_
  dsimp only
  refine am_Rq.if1F (show decode (am_by 111) 74 = .ok (.ifCond .ne 7, 3) by decide +kernel) (by decide) (rfl) ?_
  refine am_Rq.blk (is := [(.iconst 1, 1), (.goto 4, 3)]) (q := (82, [some (.ref 238), some (.int (nI g)), some (.int (nI n)), some (.int (nI (am_b (rg_r (nI 0) (nI (s 82) - nI 1) (nI g))))), some (.int (nI 0))], [.int (nI 1), .int (nI 0), .int (nI 0), .ref 238])) (by decide +kernel) rfl ?_
  dsimp only
  refine am_Rq.callV (show decode (am_by 111) 82 = .ok (.invokevirtual 57, 3) by decide +kernel) rfl [.int (nI (am_b false)), .int (nI (am_b false)), .int (nI (am_b true))] [] rfl rfl (Nat.le_of_ble_eq_true rfl) rfl hM rfl (m_refused hM false false true) ?_
  rintro _ _ ⟨rfl, rfl⟩
  have hM1 := am_ss (c' := (7, m_ob 3 kn co)) hM
  have hS1 := (am_sn (c' := (7, m_ob 3 kn co)) (show 238 ≠ 239 by decide)).trans hS
  show am_Rq _ 111 85 [some (.ref 238), some (.int (nI g)), some (.int (nI n)), some (.int (nI (am_b (rg_r (nI 0) (nI (s 82) - nI 1) (nI g))))), some (.int (nI 0))] [.int (nI (am_b true))] _ _
  refine am_Rq.if1F (show decode (am_by 111) 85 = .ok (.ifCond .eq 5, 3) by decide +kernel) (by decide) (rfl) ?_
  refine am_Rq.blk (is := [(.iconst 0, 1)]) (q := (89, [some (.ref 238), some (.int (nI g)), some (.int (nI n)), some (.int (nI (am_b (rg_r (nI 0) (nI (s 82) - nI 1) (nI g))))), some (.int (nI 0))], [.int (nI 0)])) (by decide +kernel) rfl ?_
  dsimp only
  refine am_Rq.ret (v := some (.int (nI 0))) (show decode (am_by 111) 89 = .ok (.ireturn, 1) by decide +kernel) rfl rfl ?_
  exact ⟨_, rfl, rfl, rfl⟩
end M11
