/-! The reference: set, gets, brings, flip (rows by prog/m20.py). -/
theorem m_Sl.th {hp : am_H} {s : Nat → Nat} {th kn co k : Nat} (hM : hp[238]? = some (7, m_ob th kn co)) (h : m_Sl hp s th kn) : m_Sl (hp.set 238 (7, m_ob k kn co)) s k kn := by
  obtain ⟨-, hS, ⟨f1, h1⟩, ⟨f2, h2⟩, ⟨f3, h3⟩, ⟨f4, h4⟩⟩ := h
  exact ⟨⟨co, am_ss hM⟩, (am_sn (by omega)).trans hS, ⟨_, (am_sn (by omega)).trans h1⟩, ⟨_, (am_sn (by omega)).trans h2⟩, ⟨_, (am_sn (by omega)).trans h3⟩, ⟨_, (am_sn (by omega)).trans h4⟩⟩
theorem m_fr238 {hp : am_H} {c c' : am_C} (h : hp[238]? = some c) (hl : c'.2.length = c.2.length) : am_fr (fun x => x = 238 ∨ x = 241 ∨ x = 242 ∨ x = 243 ∨ x = 244) hp (hp.set 238 c') := am_fr.rf.set (Or.inl rfl) h hl
theorem sl_br_tail {K : Nat} {s : Nat → Nat} (ok : c_ok K (mt s)) {A e h : Nat} : sl_br (mt s) A e h 5 = sl_br (mt s) A e h (s 0 + 1) := by
  have h0 := mt_s0 ok
  refine sp_sm_tail (fun c c1 c2 => ?_) (by omega)
  have h7 := mt_out ok (c := c) (by omega) c2
  have hs := (ok.1 c c2).2.2.2.2.2.2.2.2.2.2.2
  unfold sp_sh
  rw [if_pos (by rw [← hs]; exact h7)]
theorem m_c1n {x : Int32} {b : Bool} (h : am_c1 .ne x = b) : am_c1 .eq x = !b := by
  subst h
  simp only [am_c1, ne_eq, decide_not, Bool.not_not]
section M20
variable {d : Nat} {hp : am_H}
theorem m_set {th kn co : Nat} (hM : hp[238]? = some (7, [.int (nI th), .ref 239, .ref 240, .int (nI kn), .ref 241, .ref 242, .ref 243, .ref 244, .long (lN co), .ref 245])) {s : Nat → Nat} (hS : hp[239]? = some (100, am_ia (fun i => nI (s i)) 160)) {K : Nat} (ok : c_ok K (mt s)) (hK : K ≤ 900) (hQ : m_Sl hp s th kn) {A : Nat} (hA : A ≤ 2000000000) : am_Rq (d + 8) 119 0 (am_en [.ref 238, .int (nI A)] 2) [] hp (am_Ret fun hp1 v => v = some (.int (sl_v (sl_set (mt s) A))) ∧ m_Sl hp1 s 0 kn ∧ am_fr (fun x => x = 238 ∨ x = 241 ∨ x = 242 ∨ x = 243 ∨ x = 244) hp hp1) := by
  show am_Rq _ 119 0 [some (.ref 238), some (.int (nI A))] [] _ _
  refine am_Rq.blk (is := [(.aload_n 0, 1), (.iload_n 1, 1), (.iconst 0, 1), (.ldc 138, 2)]) (q := (5, [some (.ref 238), some (.int (nI A))], [.int (nI 2000000000), .int (nI 0), .int (nI A), .ref 238])) (by decide +kernel) rfl ?_
  dsimp only
  refine am_Rq.callS (show decode (am_by 119) 5 = .ok (.invokestatic 39, 3) by decide +kernel) rfl [.int (nI A), .int (nI 0), .int (nI 2000000000)] [.ref 238] rfl rfl (Nat.le_of_ble_eq_true rfl) rfl rfl (m_in (nI A) (nI 0) (nI 2000000000)) ?_
  rintro hq _ ⟨e1, rfl⟩
  rw [e1]
  clear e1 hq
  show am_Rq _ 119 8 [some (.ref 238), some (.int (nI A))] [.int (nI (am_b (rg_r (nI 0) (nI 2000000000) (nI A)))), .ref 238] _ _
  refine am_Rq.if1T (t := 15) (show decode (am_by 119) 8 = .ok (.ifCond .ne 7, 3) by decide +kernel) (by decide) (by rw [am_b_ne, rg_le (by omega) hA (by omega)]) ?_
  refine am_Rq.blk (is := [(.iconst 0, 1), (.iconst 0, 1), (.iconst 0, 1)]) (q := (18, [some (.ref 238), some (.int (nI A))], [.int (nI 0), .int (nI 0), .int (nI 0), .ref 238])) (by decide +kernel) rfl ?_
  dsimp only
  refine am_Rq.callV (show decode (am_by 119) 18 = .ok (.invokevirtual 57, 3) by decide +kernel) rfl [.int (nI (am_b false)), .int (nI (am_b false)), .int (nI (am_b false))] [] rfl rfl (Nat.le_of_ble_eq_true rfl) rfl hM rfl (m_refused hM false false false) ?_
  rintro _ _ ⟨rfl, rfl⟩
  have hM1 := am_ss (c' := (7, m_ob 0 kn co)) hM
  have hS1 := (am_sn (c' := (7, m_ob 0 kn co)) (show 238 ≠ 239 by decide)).trans hS
  show am_Rq _ 119 21 [some (.ref 238), some (.int (nI A))] [.int (nI (am_b false))] _ _
  refine am_Rq.if1T (t := 28) (show decode (am_by 119) 21 = .ok (.ifCond .eq 7, 3) by decide +kernel) (by decide) (rfl) ?_
  have hQ1 := m_Sl.th (k := 0) hM hQ
  have hf0 := m_fr238 (c' := (7, m_ob 0 kn co)) hM rfl
  show am_Rq _ _ _ _ _ (List.set hp 238 (7, m_ob 0 kn co)) _
  generalize hze : (List.set hp 238 _ : am_H) = hz0 at hM1 hS1 hQ1 hf0 ⊢
  clear hze
  refine am_Rq.blk (is := [(.aload_n 0, 1), (.iload_n 1, 1)]) (q := (30, [some (.ref 238), some (.int (nI A))], [.int (nI A), .ref 238])) (by decide +kernel) rfl ?_
  dsimp only
  refine am_Rq.callV (show decode (am_by 119) 30 = .ok (.invokevirtual 139, 3) by decide +kernel) rfl [.int (nI A)] [] rfl rfl (Nat.le_of_ble_eq_true rfl) rfl hM1 rfl (m_setOf (A := A) hQ1 ok hK hA) ?_
  rintro hp1 _ ⟨rfl, hQs1, hf1⟩
  show am_Rq _ 119 33 [some (.ref 238), some (.int (nI A))] [.int (sl_v (sl_set (mt s) A))] _ _
  obtain ⟨⟨co1, hMc1⟩, -⟩ := id hQs1
  refine am_Rq.ret (v := some (.int (sl_v (sl_set (mt s) A)))) (show decode (am_by 119) 33 = .ok (.ireturn, 1) by decide +kernel) rfl rfl ?_
  exact ⟨_, rfl, rfl, hQs1, (hf0.trans (hf1.mono (A' := fun x => x = 238 ∨ x = 241 ∨ x = 242 ∨ x = 243 ∨ x = 244) (fun x q => by omega)))⟩
theorem m_set_no {th kn co : Nat} (hM : hp[238]? = some (7, [.int (nI th), .ref 239, .ref 240, .int (nI kn), .ref 241, .ref 242, .ref 243, .ref 244, .long (lN co), .ref 245])) {s : Nat → Nat} (hS : hp[239]? = some (100, am_ia (fun i => nI (s i)) 160)) {K : Nat} (ok : c_ok K (mt s)) (hK : K ≤ 900) {x : Int32} (hx : rg_r (nI 0) (nI 2000000000) x = false) : am_Rq (d + 8) 119 0 (am_en [.ref 238, .int x] 2) [] hp (am_Ret fun hp1 v => hp1 = hp.set 238 (7, m_ob 1 kn co) ∧ v = some (.int (nI (0)))) := by
  show am_Rq _ 119 0 [some (.ref 238), some (.int x)] [] _ _
  refine am_Rq.blk (is := [(.aload_n 0, 1), (.iload_n 1, 1), (.iconst 0, 1), (.ldc 138, 2)]) (q := (5, [some (.ref 238), some (.int x)], [.int (nI 2000000000), .int (nI 0), .int x, .ref 238])) (by decide +kernel) rfl ?_
  dsimp only
  refine am_Rq.callS (show decode (am_by 119) 5 = .ok (.invokestatic 39, 3) by decide +kernel) rfl [.int x, .int (nI 0), .int (nI 2000000000)] [.ref 238] rfl rfl (Nat.le_of_ble_eq_true rfl) rfl rfl (m_in (x) (nI 0) (nI 2000000000)) ?_
  rintro hq _ ⟨e1, rfl⟩
  rw [e1]
  clear e1 hq
  show am_Rq _ 119 8 [some (.ref 238), some (.int x)] [.int (nI (am_b (rg_r (nI 0) (nI 2000000000) (x)))), .ref 238] _ _
  refine am_Rq.if1F (show decode (am_by 119) 8 = .ok (.ifCond .ne 7, 3) by decide +kernel) (by decide) (by rw [am_b_ne, hx]) ?_
  refine am_Rq.blk (is := [(.iconst 1, 1), (.goto 4, 3)]) (q := (16, [some (.ref 238), some (.int x)], [.int (nI 1), .ref 238])) (by decide +kernel) rfl ?_
  dsimp only
  refine am_Rq.blk (is := [(.iconst 0, 1), (.iconst 0, 1)]) (q := (18, [some (.ref 238), some (.int x)], [.int (nI 0), .int (nI 0), .int (nI 1), .ref 238])) (by decide +kernel) rfl ?_
  dsimp only
  refine am_Rq.callV (show decode (am_by 119) 18 = .ok (.invokevirtual 57, 3) by decide +kernel) rfl [.int (nI (am_b true)), .int (nI (am_b false)), .int (nI (am_b false))] [] rfl rfl (Nat.le_of_ble_eq_true rfl) rfl hM rfl (m_refused hM true false false) ?_
  rintro _ _ ⟨rfl, rfl⟩
  have hM1 := am_ss (c' := (7, m_ob 1 kn co)) hM
  have hS1 := (am_sn (c' := (7, m_ob 1 kn co)) (show 238 ≠ 239 by decide)).trans hS
  show am_Rq _ 119 21 [some (.ref 238), some (.int x)] [.int (nI (am_b true))] _ _
  refine am_Rq.if1F (show decode (am_by 119) 21 = .ok (.ifCond .eq 7, 3) by decide +kernel) (by decide) (rfl) ?_
  refine am_Rq.blk (is := [(.iconst 0, 1), (.goto 8, 3)]) (q := (33, [some (.ref 238), some (.int x)], [.int (nI 0)])) (by decide +kernel) rfl ?_
  dsimp only
  refine am_Rq.ret (v := some (.int (nI 0))) (show decode (am_by 119) 33 = .ok (.ireturn, 1) by decide +kernel) rfl rfl ?_
  exact ⟨_, rfl, rfl, rfl⟩
theorem m_gets_no1 {th kn co : Nat} (hM : hp[238]? = some (7, [.int (nI th), .ref 239, .ref 240, .int (nI kn), .ref 241, .ref 242, .ref 243, .ref 244, .long (lN co), .ref 245])) {s : Nat → Nat} (hS : hp[239]? = some (100, am_ia (fun i => nI (s i)) 160)) {K : Nat} (ok : c_ok K (mt s)) (hK : K ≤ 900) {x y z : Int32} (hx : rg_r (nI 0) (nI 2000000000) x = false) : am_Rq (d + 8) 133 0 (am_en [.ref 238, .int x, .int y, .int z] 5) [] hp (am_Ret fun hp1 v => hp1 = hp.set 238 (7, m_ob 1 kn co) ∧ v = some (.int (nI (0)))) := by
  show am_Rq _ 133 0 [some (.ref 238), some (.int x), some (.int y), some (.int z), none] [] _ _
  refine am_Rq.blk (is := [(.iload_n 1, 1), (.iconst 0, 1), (.ldc 138, 2)]) (q := (4, [some (.ref 238), some (.int x), some (.int y), some (.int z), none], [.int (nI 2000000000), .int (nI 0), .int x])) (by decide +kernel) rfl ?_
  dsimp only
  refine am_Rq.callS (show decode (am_by 133) 4 = .ok (.invokestatic 39, 3) by decide +kernel) rfl [.int x, .int (nI 0), .int (nI 2000000000)] [] rfl rfl (Nat.le_of_ble_eq_true rfl) rfl rfl (m_in (x) (nI 0) (nI 2000000000)) ?_
  rintro hq _ ⟨e1, rfl⟩
  rw [e1]
  clear e1 hq
  show am_Rq _ 133 7 [some (.ref 238), some (.int x), some (.int y), some (.int z), none] [.int (nI (am_b (rg_r (nI 0) (nI 2000000000) (x))))] _ _
  refine am_Rq.if1T (t := 21) (show decode (am_by 133) 7 = .ok (.ifCond .eq 14, 3) by decide +kernel) (by decide) (by rw [am_b_eq, hx]; rfl) ?_
  refine am_Rq.blk (is := [(.iconst 1, 1), (.goto 4, 3)]) (q := (26, [some (.ref 238), some (.int x), some (.int y), some (.int z), none], [.int (nI 1)])) (by decide +kernel) rfl ?_
  dsimp only
  refine am_Rq.blk (is := [(.istore 4, 2), (.aload_n 0, 1), (.iload 4, 2), (.iload_n 3, 1), (.iconst (-1), 1)]) (q := (33, [some (.ref 238), some (.int x), some (.int y), some (.int z), some (.int (nI 1))], [.int (am_ic (-1)), .int z, .int (nI 1), .ref 238])) (by decide +kernel) rfl ?_
  dsimp only
  refine am_Rq.if2 (t := 48) (show decode (am_by 133) 33 = .ok (.if_icmp .eq 15, 3) by decide +kernel) (by decide) (fun e1 => ?_) (fun e1 => ?_)
  ·
    refine am_Rq.blk (is := [(.iconst 0, 1), (.iconst 0, 1)]) (q := (50, [some (.ref 238), some (.int x), some (.int y), some (.int z), some (.int (nI 1))], [.int (nI 0), .int (nI 0), .int (nI 1), .ref 238])) (by decide +kernel) rfl ?_
    dsimp only
    refine am_Rq.callV (show decode (am_by 133) 50 = .ok (.invokevirtual 57, 3) by decide +kernel) rfl [.int (nI (am_b true)), .int (nI (am_b false)), .int (nI (am_b false))] [] rfl rfl (Nat.le_of_ble_eq_true rfl) rfl hM rfl (m_refused hM true false false) ?_
    rintro _ _ ⟨rfl, rfl⟩
    have hM1 := am_ss (c' := (7, m_ob 1 kn co)) hM
    have hS1 := (am_sn (c' := (7, m_ob 1 kn co)) (show 238 ≠ 239 by decide)).trans hS
    show am_Rq _ 133 53 [some (.ref 238), some (.int x), some (.int y), some (.int z), some (.int (nI 1))] [.int (nI (am_b true))] _ _
    refine am_Rq.if1F (show decode (am_by 133) 53 = .ok (.ifCond .eq 5, 3) by decide +kernel) (by decide) (rfl) ?_
    refine am_Rq.blk (is := [(.iconst 0, 1)]) (q := (57, [some (.ref 238), some (.int x), some (.int y), some (.int z), some (.int (nI 1))], [.int (nI 0)])) (by decide +kernel) rfl ?_
    dsimp only
    refine am_Rq.ret (v := some (.int (nI 0))) (show decode (am_by 133) 57 = .ok (.ireturn, 1) by decide +kernel) rfl rfl ?_
    exact ⟨_, rfl, rfl, rfl⟩
  ·
    refine am_Rq.blk (is := [(.aload_n 0, 1), (.iload_n 3, 1)]) (q := (38, [some (.ref 238), some (.int x), some (.int y), some (.int z), some (.int (nI 1))], [.int z, .ref 238, .int (nI 1), .ref 238])) (by decide +kernel) rfl ?_
    dsimp only
    refine am_Rq.callV (show decode (am_by 133) 38 = .ok (.invokevirtual 64, 3) by decide +kernel) rfl [.int z] [.int (nI 1), .ref 238] rfl rfl (Nat.le_of_ble_eq_true rfl) rfl hM rfl (m_isClass hM hS (z)) ?_
    rintro hq _ ⟨e1, rfl⟩
    rw [e1]
    clear e1 hq
    show am_Rq _ 133 41 [some (.ref 238), some (.int x), some (.int y), some (.int z), some (.int (nI 1))] [.int (nI (am_b (rg_r (nI 0) (nI (s 0)) (z)))), .int (nI 1), .ref 238] _ _
    refine am_Rq.if1 (t := 48) (show decode (am_by 133) 41 = .ok (.ifCond .ne 7, 3) by decide +kernel) (by decide) (fun e2 => ?_) (fun e2 => ?_)
    ·
      rw [am_b_ne] at e2
      refine am_Rq.blk (is := [(.iconst 0, 1), (.iconst 0, 1)]) (q := (50, [some (.ref 238), some (.int x), some (.int y), some (.int z), some (.int (nI 1))], [.int (nI 0), .int (nI 0), .int (nI 1), .ref 238])) (by decide +kernel) rfl ?_
      dsimp only
      refine am_Rq.callV (show decode (am_by 133) 50 = .ok (.invokevirtual 57, 3) by decide +kernel) rfl [.int (nI (am_b true)), .int (nI (am_b false)), .int (nI (am_b false))] [] rfl rfl (Nat.le_of_ble_eq_true rfl) rfl hM rfl (m_refused hM true false false) ?_
      rintro _ _ ⟨rfl, rfl⟩
      have hM1 := am_ss (c' := (7, m_ob 1 kn co)) hM
      have hS1 := (am_sn (c' := (7, m_ob 1 kn co)) (show 238 ≠ 239 by decide)).trans hS
      show am_Rq _ 133 53 [some (.ref 238), some (.int x), some (.int y), some (.int z), some (.int (nI 1))] [.int (nI (am_b true))] _ _
      refine am_Rq.if1F (show decode (am_by 133) 53 = .ok (.ifCond .eq 5, 3) by decide +kernel) (by decide) (rfl) ?_
      refine am_Rq.blk (is := [(.iconst 0, 1)]) (q := (57, [some (.ref 238), some (.int x), some (.int y), some (.int z), some (.int (nI 1))], [.int (nI 0)])) (by decide +kernel) rfl ?_
      dsimp only
      refine am_Rq.ret (v := some (.int (nI 0))) (show decode (am_by 133) 57 = .ok (.ireturn, 1) by decide +kernel) rfl rfl ?_
      exact ⟨_, rfl, rfl, rfl⟩
    ·
      rw [am_b_ne] at e2
      refine am_Rq.blk (is := [(.iconst 1, 1), (.goto 4, 3)]) (q := (49, [some (.ref 238), some (.int x), some (.int y), some (.int z), some (.int (nI 1))], [.int (nI 1), .int (nI 1), .ref 238])) (by decide +kernel) rfl ?_
      dsimp only
      refine am_Rq.blk (is := [(.iconst 0, 1)]) (q := (50, [some (.ref 238), some (.int x), some (.int y), some (.int z), some (.int (nI 1))], [.int (nI 0), .int (nI 1), .int (nI 1), .ref 238])) (by decide +kernel) rfl ?_
      dsimp only
      refine am_Rq.callV (show decode (am_by 133) 50 = .ok (.invokevirtual 57, 3) by decide +kernel) rfl [.int (nI (am_b true)), .int (nI (am_b true)), .int (nI (am_b false))] [] rfl rfl (Nat.le_of_ble_eq_true rfl) rfl hM rfl (m_refused hM true true false) ?_
      rintro _ _ ⟨rfl, rfl⟩
      have hM1 := am_ss (c' := (7, m_ob 1 kn co)) hM
      have hS1 := (am_sn (c' := (7, m_ob 1 kn co)) (show 238 ≠ 239 by decide)).trans hS
      show am_Rq _ 133 53 [some (.ref 238), some (.int x), some (.int y), some (.int z), some (.int (nI 1))] [.int (nI (am_b true))] _ _
      refine am_Rq.if1F (show decode (am_by 133) 53 = .ok (.ifCond .eq 5, 3) by decide +kernel) (by decide) (rfl) ?_
      refine am_Rq.blk (is := [(.iconst 0, 1)]) (q := (57, [some (.ref 238), some (.int x), some (.int y), some (.int z), some (.int (nI 1))], [.int (nI 0)])) (by decide +kernel) rfl ?_
      dsimp only
      refine am_Rq.ret (v := some (.int (nI 0))) (show decode (am_by 133) 57 = .ok (.ireturn, 1) by decide +kernel) rfl rfl ?_
      exact ⟨_, rfl, rfl, rfl⟩
theorem m_gets_no2 {th kn co : Nat} (hM : hp[238]? = some (7, [.int (nI th), .ref 239, .ref 240, .int (nI kn), .ref 241, .ref 242, .ref 243, .ref 244, .long (lN co), .ref 245])) {s : Nat → Nat} (hS : hp[239]? = some (100, am_ia (fun i => nI (s i)) 160)) {K : Nat} (ok : c_ok K (mt s)) (hK : K ≤ 900) {A : Nat} (hA : A ≤ 2000000000) {x z : Int32} (hx : am_c1 .ne (x &&& (nI (m_bi (mt s) 5) ^^^ am_ic (-1))) = true) : am_Rq (d + 8) 133 0 (am_en [.ref 238, .int (nI A), .int x, .int z] 5) [] hp (am_Ret fun hp1 v => hp1 = hp.set 238 (7, m_ob 1 kn co) ∧ v = some (.int (nI (0)))) := by
  show am_Rq _ 133 0 [some (.ref 238), some (.int (nI A)), some (.int x), some (.int z), none] [] _ _
  refine am_Rq.blk (is := [(.iload_n 1, 1), (.iconst 0, 1), (.ldc 138, 2)]) (q := (4, [some (.ref 238), some (.int (nI A)), some (.int x), some (.int z), none], [.int (nI 2000000000), .int (nI 0), .int (nI A)])) (by decide +kernel) rfl ?_
  dsimp only
  refine am_Rq.callS (show decode (am_by 133) 4 = .ok (.invokestatic 39, 3) by decide +kernel) rfl [.int (nI A), .int (nI 0), .int (nI 2000000000)] [] rfl rfl (Nat.le_of_ble_eq_true rfl) rfl rfl (m_in (nI A) (nI 0) (nI 2000000000)) ?_
  rintro hq _ ⟨e1, rfl⟩
  rw [e1]
  clear e1 hq
  show am_Rq _ 133 7 [some (.ref 238), some (.int (nI A)), some (.int x), some (.int z), none] [.int (nI (am_b (rg_r (nI 0) (nI 2000000000) (nI A))))] _ _
  refine am_Rq.if1F (show decode (am_by 133) 7 = .ok (.ifCond .eq 14, 3) by decide +kernel) (by decide) (by rw [am_b_eq, rg_le (by omega) hA (by omega)]; rfl) ?_
  refine am_Rq.blk (is := [(.iload_n 2, 1), (.aload_n 0, 1)]) (q := (12, [some (.ref 238), some (.int (nI A)), some (.int x), some (.int z), none], [.ref 238, .int x])) (by decide +kernel) rfl ?_
  dsimp only
  refine am_Rq.callV (show decode (am_by 133) 12 = .ok (.invokevirtual 125, 3) by decide +kernel) rfl [] [.int x] rfl rfl (Nat.le_of_ble_eq_true rfl) rfl hM rfl (m_bits hM hS ok hK) ?_
  rintro hq _ ⟨e1, rfl⟩
  rw [e1]
  clear e1 hq
  show am_Rq _ 133 15 [some (.ref 238), some (.int (nI A)), some (.int x), some (.int z), none] [.int (nI (m_bi (mt s) 5)), .int x] _ _
  refine am_Rq.blk (is := [(.iconst (-1), 1), (.ixor, 1), (.iand, 1)]) (q := (18, [some (.ref 238), some (.int (nI A)), some (.int x), some (.int z), none], [.int (x &&& ((nI (m_bi (mt s) 5)) ^^^ (am_ic (-1))))])) (by decide +kernel) rfl ?_
  dsimp only
  refine am_Rq.if1F (show decode (am_by 133) 18 = .ok (.ifCond .eq 7, 3) by decide +kernel) (by decide) (m_c1n hx) ?_
  refine am_Rq.blk (is := [(.iconst 1, 1), (.goto 4, 3)]) (q := (26, [some (.ref 238), some (.int (nI A)), some (.int x), some (.int z), none], [.int (nI 1)])) (by decide +kernel) rfl ?_
  dsimp only
  refine am_Rq.blk (is := [(.istore 4, 2), (.aload_n 0, 1), (.iload 4, 2), (.iload_n 3, 1), (.iconst (-1), 1)]) (q := (33, [some (.ref 238), some (.int (nI A)), some (.int x), some (.int z), some (.int (nI 1))], [.int (am_ic (-1)), .int z, .int (nI 1), .ref 238])) (by decide +kernel) rfl ?_
  dsimp only
  refine am_Rq.if2 (t := 48) (show decode (am_by 133) 33 = .ok (.if_icmp .eq 15, 3) by decide +kernel) (by decide) (fun e1 => ?_) (fun e1 => ?_)
  ·
    refine am_Rq.blk (is := [(.iconst 0, 1), (.iconst 0, 1)]) (q := (50, [some (.ref 238), some (.int (nI A)), some (.int x), some (.int z), some (.int (nI 1))], [.int (nI 0), .int (nI 0), .int (nI 1), .ref 238])) (by decide +kernel) rfl ?_
    dsimp only
    refine am_Rq.callV (show decode (am_by 133) 50 = .ok (.invokevirtual 57, 3) by decide +kernel) rfl [.int (nI (am_b true)), .int (nI (am_b false)), .int (nI (am_b false))] [] rfl rfl (Nat.le_of_ble_eq_true rfl) rfl hM rfl (m_refused hM true false false) ?_
    rintro _ _ ⟨rfl, rfl⟩
    have hM1 := am_ss (c' := (7, m_ob 1 kn co)) hM
    have hS1 := (am_sn (c' := (7, m_ob 1 kn co)) (show 238 ≠ 239 by decide)).trans hS
    show am_Rq _ 133 53 [some (.ref 238), some (.int (nI A)), some (.int x), some (.int z), some (.int (nI 1))] [.int (nI (am_b true))] _ _
    refine am_Rq.if1F (show decode (am_by 133) 53 = .ok (.ifCond .eq 5, 3) by decide +kernel) (by decide) (rfl) ?_
    refine am_Rq.blk (is := [(.iconst 0, 1)]) (q := (57, [some (.ref 238), some (.int (nI A)), some (.int x), some (.int z), some (.int (nI 1))], [.int (nI 0)])) (by decide +kernel) rfl ?_
    dsimp only
    refine am_Rq.ret (v := some (.int (nI 0))) (show decode (am_by 133) 57 = .ok (.ireturn, 1) by decide +kernel) rfl rfl ?_
    exact ⟨_, rfl, rfl, rfl⟩
  ·
    refine am_Rq.blk (is := [(.aload_n 0, 1), (.iload_n 3, 1)]) (q := (38, [some (.ref 238), some (.int (nI A)), some (.int x), some (.int z), some (.int (nI 1))], [.int z, .ref 238, .int (nI 1), .ref 238])) (by decide +kernel) rfl ?_
    dsimp only
    refine am_Rq.callV (show decode (am_by 133) 38 = .ok (.invokevirtual 64, 3) by decide +kernel) rfl [.int z] [.int (nI 1), .ref 238] rfl rfl (Nat.le_of_ble_eq_true rfl) rfl hM rfl (m_isClass hM hS (z)) ?_
    rintro hq _ ⟨e1, rfl⟩
    rw [e1]
    clear e1 hq
    show am_Rq _ 133 41 [some (.ref 238), some (.int (nI A)), some (.int x), some (.int z), some (.int (nI 1))] [.int (nI (am_b (rg_r (nI 0) (nI (s 0)) (z)))), .int (nI 1), .ref 238] _ _
    refine am_Rq.if1 (t := 48) (show decode (am_by 133) 41 = .ok (.ifCond .ne 7, 3) by decide +kernel) (by decide) (fun e2 => ?_) (fun e2 => ?_)
    ·
      rw [am_b_ne] at e2
      refine am_Rq.blk (is := [(.iconst 0, 1), (.iconst 0, 1)]) (q := (50, [some (.ref 238), some (.int (nI A)), some (.int x), some (.int z), some (.int (nI 1))], [.int (nI 0), .int (nI 0), .int (nI 1), .ref 238])) (by decide +kernel) rfl ?_
      dsimp only
      refine am_Rq.callV (show decode (am_by 133) 50 = .ok (.invokevirtual 57, 3) by decide +kernel) rfl [.int (nI (am_b true)), .int (nI (am_b false)), .int (nI (am_b false))] [] rfl rfl (Nat.le_of_ble_eq_true rfl) rfl hM rfl (m_refused hM true false false) ?_
      rintro _ _ ⟨rfl, rfl⟩
      have hM1 := am_ss (c' := (7, m_ob 1 kn co)) hM
      have hS1 := (am_sn (c' := (7, m_ob 1 kn co)) (show 238 ≠ 239 by decide)).trans hS
      show am_Rq _ 133 53 [some (.ref 238), some (.int (nI A)), some (.int x), some (.int z), some (.int (nI 1))] [.int (nI (am_b true))] _ _
      refine am_Rq.if1F (show decode (am_by 133) 53 = .ok (.ifCond .eq 5, 3) by decide +kernel) (by decide) (rfl) ?_
      refine am_Rq.blk (is := [(.iconst 0, 1)]) (q := (57, [some (.ref 238), some (.int (nI A)), some (.int x), some (.int z), some (.int (nI 1))], [.int (nI 0)])) (by decide +kernel) rfl ?_
      dsimp only
      refine am_Rq.ret (v := some (.int (nI 0))) (show decode (am_by 133) 57 = .ok (.ireturn, 1) by decide +kernel) rfl rfl ?_
      exact ⟨_, rfl, rfl, rfl⟩
    ·
      rw [am_b_ne] at e2
      refine am_Rq.blk (is := [(.iconst 1, 1), (.goto 4, 3)]) (q := (49, [some (.ref 238), some (.int (nI A)), some (.int x), some (.int z), some (.int (nI 1))], [.int (nI 1), .int (nI 1), .ref 238])) (by decide +kernel) rfl ?_
      dsimp only
      refine am_Rq.blk (is := [(.iconst 0, 1)]) (q := (50, [some (.ref 238), some (.int (nI A)), some (.int x), some (.int z), some (.int (nI 1))], [.int (nI 0), .int (nI 1), .int (nI 1), .ref 238])) (by decide +kernel) rfl ?_
      dsimp only
      refine am_Rq.callV (show decode (am_by 133) 50 = .ok (.invokevirtual 57, 3) by decide +kernel) rfl [.int (nI (am_b true)), .int (nI (am_b true)), .int (nI (am_b false))] [] rfl rfl (Nat.le_of_ble_eq_true rfl) rfl hM rfl (m_refused hM true true false) ?_
      rintro _ _ ⟨rfl, rfl⟩
      have hM1 := am_ss (c' := (7, m_ob 1 kn co)) hM
      have hS1 := (am_sn (c' := (7, m_ob 1 kn co)) (show 238 ≠ 239 by decide)).trans hS
      show am_Rq _ 133 53 [some (.ref 238), some (.int (nI A)), some (.int x), some (.int z), some (.int (nI 1))] [.int (nI (am_b true))] _ _
      refine am_Rq.if1F (show decode (am_by 133) 53 = .ok (.ifCond .eq 5, 3) by decide +kernel) (by decide) (rfl) ?_
      refine am_Rq.blk (is := [(.iconst 0, 1)]) (q := (57, [some (.ref 238), some (.int (nI A)), some (.int x), some (.int z), some (.int (nI 1))], [.int (nI 0)])) (by decide +kernel) rfl ?_
      dsimp only
      refine am_Rq.ret (v := some (.int (nI 0))) (show decode (am_by 133) 57 = .ok (.ireturn, 1) by decide +kernel) rfl rfl ?_
      exact ⟨_, rfl, rfl, rfl⟩
theorem m_gets_no3 {th kn co : Nat} (hM : hp[238]? = some (7, [.int (nI th), .ref 239, .ref 240, .int (nI kn), .ref 241, .ref 242, .ref 243, .ref 244, .long (lN co), .ref 245])) {s : Nat → Nat} (hS : hp[239]? = some (100, am_ia (fun i => nI (s i)) 160)) {K : Nat} (ok : c_ok K (mt s)) (hK : K ≤ 900) {A : Nat} (hA : A ≤ 2000000000) {e : Nat} (he : e < 16) (hcv : c_cv (mt s) e 5 = true) {z : Int32} (hz : am_c2 .eq z (am_ic (-1)) = false) (hx : rg_r (nI 0) (nI (s 0)) z = false) : am_Rq (d + 8) 133 0 (am_en [.ref 238, .int (nI A), .int (nI e), .int z] 5) [] hp (am_Ret fun hp1 v => hp1 = hp.set 238 (7, m_ob 2 kn co) ∧ v = some (.int (nI (0)))) := by
  show am_Rq _ 133 0 [some (.ref 238), some (.int (nI A)), some (.int (nI e)), some (.int z), none] [] _ _
  have hcx : am_c1 .ne (nI e &&& (nI (m_bi (mt s) 5) ^^^ am_ic (-1))) = false := by rw [m_cvE he, hcv]; rfl
  refine am_Rq.blk (is := [(.iload_n 1, 1), (.iconst 0, 1), (.ldc 138, 2)]) (q := (4, [some (.ref 238), some (.int (nI A)), some (.int (nI e)), some (.int z), none], [.int (nI 2000000000), .int (nI 0), .int (nI A)])) (by decide +kernel) rfl ?_
  dsimp only
  refine am_Rq.callS (show decode (am_by 133) 4 = .ok (.invokestatic 39, 3) by decide +kernel) rfl [.int (nI A), .int (nI 0), .int (nI 2000000000)] [] rfl rfl (Nat.le_of_ble_eq_true rfl) rfl rfl (m_in (nI A) (nI 0) (nI 2000000000)) ?_
  rintro hq _ ⟨e1, rfl⟩
  rw [e1]
  clear e1 hq
  show am_Rq _ 133 7 [some (.ref 238), some (.int (nI A)), some (.int (nI e)), some (.int z), none] [.int (nI (am_b (rg_r (nI 0) (nI 2000000000) (nI A))))] _ _
  refine am_Rq.if1F (show decode (am_by 133) 7 = .ok (.ifCond .eq 14, 3) by decide +kernel) (by decide) (by rw [am_b_eq, rg_le (by omega) hA (by omega)]; rfl) ?_
  refine am_Rq.blk (is := [(.iload_n 2, 1), (.aload_n 0, 1)]) (q := (12, [some (.ref 238), some (.int (nI A)), some (.int (nI e)), some (.int z), none], [.ref 238, .int (nI e)])) (by decide +kernel) rfl ?_
  dsimp only
  refine am_Rq.callV (show decode (am_by 133) 12 = .ok (.invokevirtual 125, 3) by decide +kernel) rfl [] [.int (nI e)] rfl rfl (Nat.le_of_ble_eq_true rfl) rfl hM rfl (m_bits hM hS ok hK) ?_
  rintro hq _ ⟨e1, rfl⟩
  rw [e1]
  clear e1 hq
  show am_Rq _ 133 15 [some (.ref 238), some (.int (nI A)), some (.int (nI e)), some (.int z), none] [.int (nI (m_bi (mt s) 5)), .int (nI e)] _ _
  refine am_Rq.blk (is := [(.iconst (-1), 1), (.ixor, 1), (.iand, 1)]) (q := (18, [some (.ref 238), some (.int (nI A)), some (.int (nI e)), some (.int z), none], [.int ((nI e) &&& ((nI (m_bi (mt s) 5)) ^^^ (am_ic (-1))))])) (by decide +kernel) rfl ?_
  dsimp only
  refine am_Rq.if1T (t := 25) (show decode (am_by 133) 18 = .ok (.ifCond .eq 7, 3) by decide +kernel) (by decide) (m_c1n hcx) ?_
  refine am_Rq.blk (is := [(.iconst 0, 1), (.istore 4, 2), (.aload_n 0, 1), (.iload 4, 2), (.iload_n 3, 1), (.iconst (-1), 1)]) (q := (33, [some (.ref 238), some (.int (nI A)), some (.int (nI e)), some (.int z), some (.int (nI 0))], [.int (am_ic (-1)), .int z, .int (nI 0), .ref 238])) (by decide +kernel) rfl ?_
  dsimp only
  refine am_Rq.if2F (show decode (am_by 133) 33 = .ok (.if_icmp .eq 15, 3) by decide +kernel) (by decide) (hz) ?_
  refine am_Rq.blk (is := [(.aload_n 0, 1), (.iload_n 3, 1)]) (q := (38, [some (.ref 238), some (.int (nI A)), some (.int (nI e)), some (.int z), some (.int (nI 0))], [.int z, .ref 238, .int (nI 0), .ref 238])) (by decide +kernel) rfl ?_
  dsimp only
  refine am_Rq.callV (show decode (am_by 133) 38 = .ok (.invokevirtual 64, 3) by decide +kernel) rfl [.int z] [.int (nI 0), .ref 238] rfl rfl (Nat.le_of_ble_eq_true rfl) rfl hM rfl (m_isClass hM hS (z)) ?_
  rintro hq _ ⟨e1, rfl⟩
  rw [e1]
  clear e1 hq
  show am_Rq _ 133 41 [some (.ref 238), some (.int (nI A)), some (.int (nI e)), some (.int z), some (.int (nI 0))] [.int (nI (am_b (rg_r (nI 0) (nI (s 0)) (z)))), .int (nI 0), .ref 238] _ _
  refine am_Rq.if1F (show decode (am_by 133) 41 = .ok (.ifCond .ne 7, 3) by decide +kernel) (by decide) (by rw [am_b_ne, hx]) ?_
  refine am_Rq.blk (is := [(.iconst 1, 1), (.goto 4, 3)]) (q := (49, [some (.ref 238), some (.int (nI A)), some (.int (nI e)), some (.int z), some (.int (nI 0))], [.int (nI 1), .int (nI 0), .ref 238])) (by decide +kernel) rfl ?_
  dsimp only
  refine am_Rq.blk (is := [(.iconst 0, 1)]) (q := (50, [some (.ref 238), some (.int (nI A)), some (.int (nI e)), some (.int z), some (.int (nI 0))], [.int (nI 0), .int (nI 1), .int (nI 0), .ref 238])) (by decide +kernel) rfl ?_
  dsimp only
  refine am_Rq.callV (show decode (am_by 133) 50 = .ok (.invokevirtual 57, 3) by decide +kernel) rfl [.int (nI (am_b false)), .int (nI (am_b true)), .int (nI (am_b false))] [] rfl rfl (Nat.le_of_ble_eq_true rfl) rfl hM rfl (m_refused hM false true false) ?_
  rintro _ _ ⟨rfl, rfl⟩
  have hM1 := am_ss (c' := (7, m_ob 2 kn co)) hM
  have hS1 := (am_sn (c' := (7, m_ob 2 kn co)) (show 238 ≠ 239 by decide)).trans hS
  show am_Rq _ 133 53 [some (.ref 238), some (.int (nI A)), some (.int (nI e)), some (.int z), some (.int (nI 0))] [.int (nI (am_b true))] _ _
  refine am_Rq.if1F (show decode (am_by 133) 53 = .ok (.ifCond .eq 5, 3) by decide +kernel) (by decide) (rfl) ?_
  refine am_Rq.blk (is := [(.iconst 0, 1)]) (q := (57, [some (.ref 238), some (.int (nI A)), some (.int (nI e)), some (.int z), some (.int (nI 0))], [.int (nI 0)])) (by decide +kernel) rfl ?_
  dsimp only
  refine am_Rq.ret (v := some (.int (nI 0))) (show decode (am_by 133) 57 = .ok (.ireturn, 1) by decide +kernel) rfl rfl ?_
  exact ⟨_, rfl, rfl, rfl⟩
theorem m_gets1 {th kn co : Nat} (hM : hp[238]? = some (7, [.int (nI th), .ref 239, .ref 240, .int (nI kn), .ref 241, .ref 242, .ref 243, .ref 244, .long (lN co), .ref 245])) {s : Nat → Nat} (hS : hp[239]? = some (100, am_ia (fun i => nI (s i)) 160)) {K : Nat} (ok : c_ok K (mt s)) (hK : K ≤ 900) (hQ : m_Sl hp s th kn) {A : Nat} (hA : A ≤ 2000000000) {e : Nat} (he : e < 16) (hcv : c_cv (mt s) e 5 = true)  : am_Rq (d + 8) 133 0 (am_en [.ref 238, .int (nI A), .int (nI e), .int (am_ic (-1))] 5) [] hp (am_Ret fun hp1 v => v = some (.int (nI (sl_dv (mt s) A e 5))) ∧ m_Sl hp1 s 0 kn ∧ am_fr (fun x => x = 238 ∨ x = 241 ∨ x = 242 ∨ x = 243 ∨ x = 244) hp hp1) := by
  show am_Rq _ 133 0 [some (.ref 238), some (.int (nI A)), some (.int (nI e)), some (.int (am_ic (-1))), none] [] _ _
  have hcx : am_c1 .ne (nI e &&& (nI (m_bi (mt s) 5) ^^^ am_ic (-1))) = false := by rw [m_cvE he, hcv]; rfl
  refine am_Rq.blk (is := [(.iload_n 1, 1), (.iconst 0, 1), (.ldc 138, 2)]) (q := (4, [some (.ref 238), some (.int (nI A)), some (.int (nI e)), some (.int (am_ic (-1))), none], [.int (nI 2000000000), .int (nI 0), .int (nI A)])) (by decide +kernel) rfl ?_
  dsimp only
  refine am_Rq.callS (show decode (am_by 133) 4 = .ok (.invokestatic 39, 3) by decide +kernel) rfl [.int (nI A), .int (nI 0), .int (nI 2000000000)] [] rfl rfl (Nat.le_of_ble_eq_true rfl) rfl rfl (m_in (nI A) (nI 0) (nI 2000000000)) ?_
  rintro hq _ ⟨e1, rfl⟩
  rw [e1]
  clear e1 hq
  show am_Rq _ 133 7 [some (.ref 238), some (.int (nI A)), some (.int (nI e)), some (.int (am_ic (-1))), none] [.int (nI (am_b (rg_r (nI 0) (nI 2000000000) (nI A))))] _ _
  refine am_Rq.if1F (show decode (am_by 133) 7 = .ok (.ifCond .eq 14, 3) by decide +kernel) (by decide) (by rw [am_b_eq, rg_le (by omega) hA (by omega)]; rfl) ?_
  refine am_Rq.blk (is := [(.iload_n 2, 1), (.aload_n 0, 1)]) (q := (12, [some (.ref 238), some (.int (nI A)), some (.int (nI e)), some (.int (am_ic (-1))), none], [.ref 238, .int (nI e)])) (by decide +kernel) rfl ?_
  dsimp only
  refine am_Rq.callV (show decode (am_by 133) 12 = .ok (.invokevirtual 125, 3) by decide +kernel) rfl [] [.int (nI e)] rfl rfl (Nat.le_of_ble_eq_true rfl) rfl hM rfl (m_bits hM hS ok hK) ?_
  rintro hq _ ⟨e1, rfl⟩
  rw [e1]
  clear e1 hq
  show am_Rq _ 133 15 [some (.ref 238), some (.int (nI A)), some (.int (nI e)), some (.int (am_ic (-1))), none] [.int (nI (m_bi (mt s) 5)), .int (nI e)] _ _
  refine am_Rq.blk (is := [(.iconst (-1), 1), (.ixor, 1), (.iand, 1)]) (q := (18, [some (.ref 238), some (.int (nI A)), some (.int (nI e)), some (.int (am_ic (-1))), none], [.int ((nI e) &&& ((nI (m_bi (mt s) 5)) ^^^ (am_ic (-1))))])) (by decide +kernel) rfl ?_
  dsimp only
  refine am_Rq.if1T (t := 25) (show decode (am_by 133) 18 = .ok (.ifCond .eq 7, 3) by decide +kernel) (by decide) (m_c1n hcx) ?_
  refine am_Rq.blk (is := [(.iconst 0, 1), (.istore 4, 2), (.aload_n 0, 1), (.iload 4, 2), (.iload_n 3, 1), (.iconst (-1), 1)]) (q := (33, [some (.ref 238), some (.int (nI A)), some (.int (nI e)), some (.int (am_ic (-1))), some (.int (nI 0))], [.int (am_ic (-1)), .int (am_ic (-1)), .int (nI 0), .ref 238])) (by decide +kernel) rfl ?_
  dsimp only
  refine am_Rq.if2T (t := 48) (show decode (am_by 133) 33 = .ok (.if_icmp .eq 15, 3) by decide +kernel) (by decide) (rfl) ?_
  refine am_Rq.blk (is := [(.iconst 0, 1), (.iconst 0, 1)]) (q := (50, [some (.ref 238), some (.int (nI A)), some (.int (nI e)), some (.int (am_ic (-1))), some (.int (nI 0))], [.int (nI 0), .int (nI 0), .int (nI 0), .ref 238])) (by decide +kernel) rfl ?_
  dsimp only
  refine am_Rq.callV (show decode (am_by 133) 50 = .ok (.invokevirtual 57, 3) by decide +kernel) rfl [.int (nI (am_b false)), .int (nI (am_b false)), .int (nI (am_b false))] [] rfl rfl (Nat.le_of_ble_eq_true rfl) rfl hM rfl (m_refused hM false false false) ?_
  rintro _ _ ⟨rfl, rfl⟩
  have hM1 := am_ss (c' := (7, m_ob 0 kn co)) hM
  have hS1 := (am_sn (c' := (7, m_ob 0 kn co)) (show 238 ≠ 239 by decide)).trans hS
  show am_Rq _ 133 53 [some (.ref 238), some (.int (nI A)), some (.int (nI e)), some (.int (am_ic (-1))), some (.int (nI 0))] [.int (nI (am_b false))] _ _
  refine am_Rq.if1T (t := 58) (show decode (am_by 133) 53 = .ok (.ifCond .eq 5, 3) by decide +kernel) (by decide) (rfl) ?_
  have hQ1 := m_Sl.th (k := 0) hM hQ
  have hf0 := m_fr238 (c' := (7, m_ob 0 kn co)) hM rfl
  show am_Rq _ _ _ _ _ (List.set hp 238 (7, m_ob 0 kn co)) _
  generalize hze : (List.set hp 238 _ : am_H) = hz0 at hM1 hS1 hQ1 hf0 ⊢
  clear hze
  refine am_Rq.blk (is := [(.aload_n 0, 1), (.iload_n 1, 1), (.iload_n 2, 1)]) (q := (61, [some (.ref 238), some (.int (nI A)), some (.int (nI e)), some (.int (am_ic (-1))), some (.int (nI 0))], [.int (nI e), .int (nI A), .ref 238])) (by decide +kernel) rfl ?_
  dsimp only
  obtain ⟨-, hS2, ⟨f1, y1⟩, ⟨f2, y2⟩, ⟨f3, y3⟩, ⟨f4, y4⟩⟩ := id hQ1
  refine am_Rq.callV (show decode (am_by 133) 61 = .ok (.invokevirtual 128, 3) by decide +kernel) rfl [.int (nI A), .int (nI e)] [] rfl rfl (Nat.le_of_ble_eq_true rfl) rfl hM1 rfl (m_divide (e := e) hM1 hS2 ok hK hA he y1 y2 y3 y4) ?_
  rintro hp1 _ ⟨rfl, hMd, hGd, ⟨f5, y5⟩, ⟨f6, y6⟩, ⟨f7, y7⟩, hf1⟩
  have hc1_239 := (hf1.2.2 (239) (fun q => by omega)).trans hS2
  show am_Rq _ 133 64 [some (.ref 238), some (.int (nI A)), some (.int (nI e)), some (.int (am_ic (-1))), some (.int (nI 0))] [] _ _
  refine am_Rq.blk (is := [(.iload_n 3, 1), (.iconst (-1), 1)]) (q := (66, [some (.ref 238), some (.int (nI A)), some (.int (nI e)), some (.int (am_ic (-1))), some (.int (nI 0))], [.int (am_ic (-1)), .int (am_ic (-1))])) (by decide +kernel) rfl ?_
  dsimp only
  refine am_Rq.if2F (show decode (am_by 133) 66 = .ok (.if_icmp .ne 10, 3) by decide +kernel) (by decide) (rfl) ?_
  refine am_Rq.blk (is := [(.aload_n 0, 1)]) (q := (70, [some (.ref 238), some (.int (nI A)), some (.int (nI e)), some (.int (am_ic (-1))), some (.int (nI 0))], [.ref 238])) (by decide +kernel) rfl ?_
  dsimp only
  refine am_Rq.getf (v := .long (lN (sl_dv (mt s) A e 5))) (show decode (am_by 133) 70 = .ok (.getfield 113, 3) by decide +kernel) rfl hMd rfl ?_
  refine am_Rq.blk (is := [(.goto 9, 3)]) (q := (82, [some (.ref 238), some (.int (nI A)), some (.int (nI e)), some (.int (am_ic (-1))), some (.int (nI 0))], [.long (lN (sl_dv (mt s) A e 5))])) (by decide +kernel) rfl ?_
  dsimp only
  refine am_Rq.blk (is := [(.l2i, 1)]) (q := (83, [some (.ref 238), some (.int (nI A)), some (.int (nI e)), some (.int (am_ic (-1))), some (.int (nI 0))], [.int ((lN (sl_dv (mt s) A e 5)).toInt32)])) (by decide +kernel) rfl ?_
  dsimp only
  rw [show (lN (sl_dv (mt s) A e 5)).toInt32 = nI (sl_dv (mt s) A e 5) from nm_i _]
  refine am_Rq.ret (v := some (.int (nI (sl_dv (mt s) A e 5)))) (show decode (am_by 133) 83 = .ok (.ireturn, 1) by decide +kernel) rfl rfl ?_
  exact ⟨_, rfl, rfl, ⟨⟨_, hMd⟩, hc1_239, ⟨_, y5⟩, ⟨_, y6⟩, ⟨_, y7⟩, ⟨_, hGd⟩⟩, (hf0.trans (hf1.mono (A' := fun x => x = 238 ∨ x = 241 ∨ x = 242 ∨ x = 243 ∨ x = 244) (fun x q => by omega)))⟩
theorem m_gets2 {th kn co : Nat} (hM : hp[238]? = some (7, [.int (nI th), .ref 239, .ref 240, .int (nI kn), .ref 241, .ref 242, .ref 243, .ref 244, .long (lN co), .ref 245])) {s : Nat → Nat} (hS : hp[239]? = some (100, am_ia (fun i => nI (s i)) 160)) {K : Nat} (ok : c_ok K (mt s)) (hK : K ≤ 900) (hQ : m_Sl hp s th kn) {A : Nat} (hA : A ≤ 2000000000) {e : Nat} (he : e < 16) (hcv : c_cv (mt s) e 5 = true) {c : Nat} (hc : c ≤ s 0) : am_Rq (d + 8) 133 0 (am_en [.ref 238, .int (nI A), .int (nI e), .int (nI c)] 5) [] hp (am_Ret fun hp1 v => v = some (.int (nI (sl_dv (mt s) A e c))) ∧ m_Sl hp1 s 0 kn ∧ am_fr (fun x => x = 238 ∨ x = 241 ∨ x = 242 ∨ x = 243 ∨ x = 244) hp hp1) := by
  show am_Rq _ 133 0 [some (.ref 238), some (.int (nI A)), some (.int (nI e)), some (.int (nI c)), none] [] _ _
  have hcx : am_c1 .ne (nI e &&& (nI (m_bi (mt s) 5) ^^^ am_ic (-1))) = false := by rw [m_cvE he, hcv]; rfl
  have hs0 := mt_s0 ok
  refine am_Rq.blk (is := [(.iload_n 1, 1), (.iconst 0, 1), (.ldc 138, 2)]) (q := (4, [some (.ref 238), some (.int (nI A)), some (.int (nI e)), some (.int (nI c)), none], [.int (nI 2000000000), .int (nI 0), .int (nI A)])) (by decide +kernel) rfl ?_
  dsimp only
  refine am_Rq.callS (show decode (am_by 133) 4 = .ok (.invokestatic 39, 3) by decide +kernel) rfl [.int (nI A), .int (nI 0), .int (nI 2000000000)] [] rfl rfl (Nat.le_of_ble_eq_true rfl) rfl rfl (m_in (nI A) (nI 0) (nI 2000000000)) ?_
  rintro hq _ ⟨e1, rfl⟩
  rw [e1]
  clear e1 hq
  show am_Rq _ 133 7 [some (.ref 238), some (.int (nI A)), some (.int (nI e)), some (.int (nI c)), none] [.int (nI (am_b (rg_r (nI 0) (nI 2000000000) (nI A))))] _ _
  refine am_Rq.if1F (show decode (am_by 133) 7 = .ok (.ifCond .eq 14, 3) by decide +kernel) (by decide) (by rw [am_b_eq, rg_le (by omega) hA (by omega)]; rfl) ?_
  refine am_Rq.blk (is := [(.iload_n 2, 1), (.aload_n 0, 1)]) (q := (12, [some (.ref 238), some (.int (nI A)), some (.int (nI e)), some (.int (nI c)), none], [.ref 238, .int (nI e)])) (by decide +kernel) rfl ?_
  dsimp only
  refine am_Rq.callV (show decode (am_by 133) 12 = .ok (.invokevirtual 125, 3) by decide +kernel) rfl [] [.int (nI e)] rfl rfl (Nat.le_of_ble_eq_true rfl) rfl hM rfl (m_bits hM hS ok hK) ?_
  rintro hq _ ⟨e1, rfl⟩
  rw [e1]
  clear e1 hq
  show am_Rq _ 133 15 [some (.ref 238), some (.int (nI A)), some (.int (nI e)), some (.int (nI c)), none] [.int (nI (m_bi (mt s) 5)), .int (nI e)] _ _
  refine am_Rq.blk (is := [(.iconst (-1), 1), (.ixor, 1), (.iand, 1)]) (q := (18, [some (.ref 238), some (.int (nI A)), some (.int (nI e)), some (.int (nI c)), none], [.int ((nI e) &&& ((nI (m_bi (mt s) 5)) ^^^ (am_ic (-1))))])) (by decide +kernel) rfl ?_
  dsimp only
  refine am_Rq.if1T (t := 25) (show decode (am_by 133) 18 = .ok (.ifCond .eq 7, 3) by decide +kernel) (by decide) (m_c1n hcx) ?_
  refine am_Rq.blk (is := [(.iconst 0, 1), (.istore 4, 2), (.aload_n 0, 1), (.iload 4, 2), (.iload_n 3, 1), (.iconst (-1), 1)]) (q := (33, [some (.ref 238), some (.int (nI A)), some (.int (nI e)), some (.int (nI c)), some (.int (nI 0))], [.int (am_ic (-1)), .int (nI c), .int (nI 0), .ref 238])) (by decide +kernel) rfl ?_
  dsimp only
  refine am_Rq.if2F (show decode (am_by 133) 33 = .ok (.if_icmp .eq 15, 3) by decide +kernel) (by decide) (c_nm2 (by omega)) ?_
  refine am_Rq.blk (is := [(.aload_n 0, 1), (.iload_n 3, 1)]) (q := (38, [some (.ref 238), some (.int (nI A)), some (.int (nI e)), some (.int (nI c)), some (.int (nI 0))], [.int (nI c), .ref 238, .int (nI 0), .ref 238])) (by decide +kernel) rfl ?_
  dsimp only
  refine am_Rq.callV (show decode (am_by 133) 38 = .ok (.invokevirtual 64, 3) by decide +kernel) rfl [.int (nI c)] [.int (nI 0), .ref 238] rfl rfl (Nat.le_of_ble_eq_true rfl) rfl hM rfl (m_isClass hM hS (nI c)) ?_
  rintro hq _ ⟨e1, rfl⟩
  rw [e1]
  clear e1 hq
  show am_Rq _ 133 41 [some (.ref 238), some (.int (nI A)), some (.int (nI e)), some (.int (nI c)), some (.int (nI 0))] [.int (nI (am_b (rg_r (nI 0) (nI (s 0)) (nI c)))), .int (nI 0), .ref 238] _ _
  refine am_Rq.if1T (t := 48) (show decode (am_by 133) 41 = .ok (.ifCond .ne 7, 3) by decide +kernel) (by decide) (by rw [am_b_ne, rg_le (by omega) hc (by omega)]) ?_
  refine am_Rq.blk (is := [(.iconst 0, 1), (.iconst 0, 1)]) (q := (50, [some (.ref 238), some (.int (nI A)), some (.int (nI e)), some (.int (nI c)), some (.int (nI 0))], [.int (nI 0), .int (nI 0), .int (nI 0), .ref 238])) (by decide +kernel) rfl ?_
  dsimp only
  refine am_Rq.callV (show decode (am_by 133) 50 = .ok (.invokevirtual 57, 3) by decide +kernel) rfl [.int (nI (am_b false)), .int (nI (am_b false)), .int (nI (am_b false))] [] rfl rfl (Nat.le_of_ble_eq_true rfl) rfl hM rfl (m_refused hM false false false) ?_
  rintro _ _ ⟨rfl, rfl⟩
  have hM1 := am_ss (c' := (7, m_ob 0 kn co)) hM
  have hS1 := (am_sn (c' := (7, m_ob 0 kn co)) (show 238 ≠ 239 by decide)).trans hS
  show am_Rq _ 133 53 [some (.ref 238), some (.int (nI A)), some (.int (nI e)), some (.int (nI c)), some (.int (nI 0))] [.int (nI (am_b false))] _ _
  refine am_Rq.if1T (t := 58) (show decode (am_by 133) 53 = .ok (.ifCond .eq 5, 3) by decide +kernel) (by decide) (rfl) ?_
  have hQ1 := m_Sl.th (k := 0) hM hQ
  have hf0 := m_fr238 (c' := (7, m_ob 0 kn co)) hM rfl
  show am_Rq _ _ _ _ _ (List.set hp 238 (7, m_ob 0 kn co)) _
  generalize hze : (List.set hp 238 _ : am_H) = hz0 at hM1 hS1 hQ1 hf0 ⊢
  clear hze
  refine am_Rq.blk (is := [(.aload_n 0, 1), (.iload_n 1, 1), (.iload_n 2, 1)]) (q := (61, [some (.ref 238), some (.int (nI A)), some (.int (nI e)), some (.int (nI c)), some (.int (nI 0))], [.int (nI e), .int (nI A), .ref 238])) (by decide +kernel) rfl ?_
  dsimp only
  obtain ⟨-, hS2, ⟨f1, y1⟩, ⟨f2, y2⟩, ⟨f3, y3⟩, ⟨f4, y4⟩⟩ := id hQ1
  refine am_Rq.callV (show decode (am_by 133) 61 = .ok (.invokevirtual 128, 3) by decide +kernel) rfl [.int (nI A), .int (nI e)] [] rfl rfl (Nat.le_of_ble_eq_true rfl) rfl hM1 rfl (m_divide (e := e) hM1 hS2 ok hK hA he y1 y2 y3 y4) ?_
  rintro hp1 _ ⟨rfl, hMd, hGd, ⟨f5, y5⟩, ⟨f6, y6⟩, ⟨f7, y7⟩, hf1⟩
  have hc1_239 := (hf1.2.2 (239) (fun q => by omega)).trans hS2
  show am_Rq _ 133 64 [some (.ref 238), some (.int (nI A)), some (.int (nI e)), some (.int (nI c)), some (.int (nI 0))] [] _ _
  refine am_Rq.blk (is := [(.iload_n 3, 1), (.iconst (-1), 1)]) (q := (66, [some (.ref 238), some (.int (nI A)), some (.int (nI e)), some (.int (nI c)), some (.int (nI 0))], [.int (am_ic (-1)), .int (nI c)])) (by decide +kernel) rfl ?_
  dsimp only
  refine am_Rq.if2T (t := 76) (show decode (am_by 133) 66 = .ok (.if_icmp .ne 10, 3) by decide +kernel) (by decide) (c_nm1 (by omega)) ?_
  refine am_Rq.blk (is := [(.aload_n 0, 1)]) (q := (77, [some (.ref 238), some (.int (nI A)), some (.int (nI e)), some (.int (nI c)), some (.int (nI 0))], [.ref 238])) (by decide +kernel) rfl ?_
  dsimp only
  refine am_Rq.getf (v := .ref 244) (show decode (am_by 133) 77 = .ok (.getfield 26, 3) by decide +kernel) rfl hMd rfl ?_
  refine am_Rq.blk (is := [(.iload_n 3, 1)]) (q := (81, [some (.ref 238), some (.int (nI A)), some (.int (nI e)), some (.int (nI c)), some (.int (nI 0))], [.int (nI c), .ref 244])) (by decide +kernel) rfl ?_
  dsimp only
  refine am_Rq.lal (k := c) (show decode (am_by 133) 81 = .ok (.laload, 1) by decide +kernel) hGd (by omega) (by omega) ?_
  refine am_Rq.blk (is := [(.l2i, 1)]) (q := (83, [some (.ref 238), some (.int (nI A)), some (.int (nI e)), some (.int (nI c)), some (.int (nI 0))], [.int ((lN (sl_dv (mt s) A e c)).toInt32)])) (by decide +kernel) rfl ?_
  dsimp only
  rw [show (lN (sl_dv (mt s) A e c)).toInt32 = nI (sl_dv (mt s) A e c) from nm_i _]
  refine am_Rq.ret (v := some (.int (nI (sl_dv (mt s) A e c)))) (show decode (am_by 133) 83 = .ok (.ireturn, 1) by decide +kernel) rfl rfl ?_
  exact ⟨_, rfl, rfl, ⟨⟨_, hMd⟩, hc1_239, ⟨_, y5⟩, ⟨_, y6⟩, ⟨_, y7⟩, ⟨_, hGd⟩⟩, (hf0.trans (hf1.mono (A' := fun x => x = 238 ∨ x = 241 ∨ x = 242 ∨ x = 243 ∨ x = 244) (fun x q => by omega)))⟩
theorem m_brings_no1 {th kn co : Nat} (hM : hp[238]? = some (7, [.int (nI th), .ref 239, .ref 240, .int (nI kn), .ref 241, .ref 242, .ref 243, .ref 244, .long (lN co), .ref 245])) {s : Nat → Nat} (hS : hp[239]? = some (100, am_ia (fun i => nI (s i)) 160)) {K : Nat} (ok : c_ok K (mt s)) (hK : K ≤ 900) {x y : Int32} (hx : rg_r (nI 0) (nI 2000000000) x = false) : am_Rq (d + 8) 134 0 (am_en [.ref 238, .int x, .int y] 8) [] hp (am_Ret fun hp1 v => hp1 = hp.set 238 (7, m_ob 1 kn co) ∧ v = some (.int (nI (0)))) := by
  show am_Rq _ 134 0 [some (.ref 238), some (.int x), some (.int y), none, none, none, none, none] [] _ _
  refine am_Rq.blk (is := [(.aload_n 0, 1), (.iload_n 1, 1), (.iconst 0, 1), (.ldc 138, 2)]) (q := (5, [some (.ref 238), some (.int x), some (.int y), none, none, none, none, none], [.int (nI 2000000000), .int (nI 0), .int x, .ref 238])) (by decide +kernel) rfl ?_
  dsimp only
  refine am_Rq.callS (show decode (am_by 134) 5 = .ok (.invokestatic 39, 3) by decide +kernel) rfl [.int x, .int (nI 0), .int (nI 2000000000)] [.ref 238] rfl rfl (Nat.le_of_ble_eq_true rfl) rfl rfl (m_in (x) (nI 0) (nI 2000000000)) ?_
  rintro hq _ ⟨e1, rfl⟩
  rw [e1]
  clear e1 hq
  show am_Rq _ 134 8 [some (.ref 238), some (.int x), some (.int y), none, none, none, none, none] [.int (nI (am_b (rg_r (nI 0) (nI 2000000000) (x)))), .ref 238] _ _
  refine am_Rq.if1F (show decode (am_by 134) 8 = .ok (.ifCond .ne 7, 3) by decide +kernel) (by decide) (by rw [am_b_ne, hx]) ?_
  refine am_Rq.blk (is := [(.iconst 1, 1), (.goto 4, 3)]) (q := (16, [some (.ref 238), some (.int x), some (.int y), none, none, none, none, none], [.int (nI 1), .ref 238])) (by decide +kernel) rfl ?_
  dsimp only
  refine am_Rq.blk (is := [(.iload_n 2, 1)]) (q := (17, [some (.ref 238), some (.int x), some (.int y), none, none, none, none, none], [.int y, .int (nI 1), .ref 238])) (by decide +kernel) rfl ?_
  dsimp only
  refine am_Rq.callS (show decode (am_by 134) 17 = .ok (.invokestatic 68, 3) by decide +kernel) rfl [.int y] [.int (nI 1), .ref 238] rfl rfl (Nat.le_of_ble_eq_true rfl) rfl rfl (m_isHolder (y)) ?_
  rintro hq _ ⟨e1, rfl⟩
  rw [e1]
  clear e1 hq
  show am_Rq _ 134 20 [some (.ref 238), some (.int x), some (.int y), none, none, none, none, none] [.int (nI (am_b (rg_r (nI 0) (nI 7) (y)))), .int (nI 1), .ref 238] _ _
  refine am_Rq.if1 (t := 27) (show decode (am_by 134) 20 = .ok (.ifCond .ne 7, 3) by decide +kernel) (by decide) (fun e1 => ?_) (fun e1 => ?_)
  ·
    rw [am_b_ne] at e1
    refine am_Rq.blk (is := [(.iconst 0, 1), (.iconst 0, 1)]) (q := (29, [some (.ref 238), some (.int x), some (.int y), none, none, none, none, none], [.int (nI 0), .int (nI 0), .int (nI 1), .ref 238])) (by decide +kernel) rfl ?_
    dsimp only
    refine am_Rq.callV (show decode (am_by 134) 29 = .ok (.invokevirtual 57, 3) by decide +kernel) rfl [.int (nI (am_b true)), .int (nI (am_b false)), .int (nI (am_b false))] [] rfl rfl (Nat.le_of_ble_eq_true rfl) rfl hM rfl (m_refused hM true false false) ?_
    rintro _ _ ⟨rfl, rfl⟩
    have hM1 := am_ss (c' := (7, m_ob 1 kn co)) hM
    have hS1 := (am_sn (c' := (7, m_ob 1 kn co)) (show 238 ≠ 239 by decide)).trans hS
    show am_Rq _ 134 32 [some (.ref 238), some (.int x), some (.int y), none, none, none, none, none] [.int (nI (am_b true))] _ _
    refine am_Rq.if1F (show decode (am_by 134) 32 = .ok (.ifCond .eq 5, 3) by decide +kernel) (by decide) (rfl) ?_
    refine am_Rq.blk (is := [(.iconst 0, 1)]) (q := (36, [some (.ref 238), some (.int x), some (.int y), none, none, none, none, none], [.int (nI 0)])) (by decide +kernel) rfl ?_
    dsimp only
    refine am_Rq.ret (v := some (.int (nI 0))) (show decode (am_by 134) 36 = .ok (.ireturn, 1) by decide +kernel) rfl rfl ?_
    exact ⟨_, rfl, rfl, rfl⟩
  ·
    rw [am_b_ne] at e1
    refine am_Rq.blk (is := [(.iconst 1, 1), (.goto 4, 3)]) (q := (28, [some (.ref 238), some (.int x), some (.int y), none, none, none, none, none], [.int (nI 1), .int (nI 1), .ref 238])) (by decide +kernel) rfl ?_
    dsimp only
    refine am_Rq.blk (is := [(.iconst 0, 1)]) (q := (29, [some (.ref 238), some (.int x), some (.int y), none, none, none, none, none], [.int (nI 0), .int (nI 1), .int (nI 1), .ref 238])) (by decide +kernel) rfl ?_
    dsimp only
    refine am_Rq.callV (show decode (am_by 134) 29 = .ok (.invokevirtual 57, 3) by decide +kernel) rfl [.int (nI (am_b true)), .int (nI (am_b true)), .int (nI (am_b false))] [] rfl rfl (Nat.le_of_ble_eq_true rfl) rfl hM rfl (m_refused hM true true false) ?_
    rintro _ _ ⟨rfl, rfl⟩
    have hM1 := am_ss (c' := (7, m_ob 1 kn co)) hM
    have hS1 := (am_sn (c' := (7, m_ob 1 kn co)) (show 238 ≠ 239 by decide)).trans hS
    show am_Rq _ 134 32 [some (.ref 238), some (.int x), some (.int y), none, none, none, none, none] [.int (nI (am_b true))] _ _
    refine am_Rq.if1F (show decode (am_by 134) 32 = .ok (.ifCond .eq 5, 3) by decide +kernel) (by decide) (rfl) ?_
    refine am_Rq.blk (is := [(.iconst 0, 1)]) (q := (36, [some (.ref 238), some (.int x), some (.int y), none, none, none, none, none], [.int (nI 0)])) (by decide +kernel) rfl ?_
    dsimp only
    refine am_Rq.ret (v := some (.int (nI 0))) (show decode (am_by 134) 36 = .ok (.ireturn, 1) by decide +kernel) rfl rfl ?_
    exact ⟨_, rfl, rfl, rfl⟩
theorem m_brings_no2 {th kn co : Nat} (hM : hp[238]? = some (7, [.int (nI th), .ref 239, .ref 240, .int (nI kn), .ref 241, .ref 242, .ref 243, .ref 244, .long (lN co), .ref 245])) {s : Nat → Nat} (hS : hp[239]? = some (100, am_ia (fun i => nI (s i)) 160)) {K : Nat} (ok : c_ok K (mt s)) (hK : K ≤ 900) {A : Nat} (hA : A ≤ 2000000000) {y : Int32} (hy : rg_r (nI 0) (nI 7) y = false) : am_Rq (d + 8) 134 0 (am_en [.ref 238, .int (nI A), .int y] 8) [] hp (am_Ret fun hp1 v => hp1 = hp.set 238 (7, m_ob 2 kn co) ∧ v = some (.int (nI (0)))) := by
  show am_Rq _ 134 0 [some (.ref 238), some (.int (nI A)), some (.int y), none, none, none, none, none] [] _ _
  refine am_Rq.blk (is := [(.aload_n 0, 1), (.iload_n 1, 1), (.iconst 0, 1), (.ldc 138, 2)]) (q := (5, [some (.ref 238), some (.int (nI A)), some (.int y), none, none, none, none, none], [.int (nI 2000000000), .int (nI 0), .int (nI A), .ref 238])) (by decide +kernel) rfl ?_
  dsimp only
  refine am_Rq.callS (show decode (am_by 134) 5 = .ok (.invokestatic 39, 3) by decide +kernel) rfl [.int (nI A), .int (nI 0), .int (nI 2000000000)] [.ref 238] rfl rfl (Nat.le_of_ble_eq_true rfl) rfl rfl (m_in (nI A) (nI 0) (nI 2000000000)) ?_
  rintro hq _ ⟨e1, rfl⟩
  rw [e1]
  clear e1 hq
  show am_Rq _ 134 8 [some (.ref 238), some (.int (nI A)), some (.int y), none, none, none, none, none] [.int (nI (am_b (rg_r (nI 0) (nI 2000000000) (nI A)))), .ref 238] _ _
  refine am_Rq.if1T (t := 15) (show decode (am_by 134) 8 = .ok (.ifCond .ne 7, 3) by decide +kernel) (by decide) (by rw [am_b_ne, rg_le (by omega) hA (by omega)]) ?_
  refine am_Rq.blk (is := [(.iconst 0, 1), (.iload_n 2, 1)]) (q := (17, [some (.ref 238), some (.int (nI A)), some (.int y), none, none, none, none, none], [.int y, .int (nI 0), .ref 238])) (by decide +kernel) rfl ?_
  dsimp only
  refine am_Rq.callS (show decode (am_by 134) 17 = .ok (.invokestatic 68, 3) by decide +kernel) rfl [.int y] [.int (nI 0), .ref 238] rfl rfl (Nat.le_of_ble_eq_true rfl) rfl rfl (m_isHolder (y)) ?_
  rintro hq _ ⟨e1, rfl⟩
  rw [e1]
  clear e1 hq
  show am_Rq _ 134 20 [some (.ref 238), some (.int (nI A)), some (.int y), none, none, none, none, none] [.int (nI (am_b (rg_r (nI 0) (nI 7) (y)))), .int (nI 0), .ref 238] _ _
  refine am_Rq.if1F (show decode (am_by 134) 20 = .ok (.ifCond .ne 7, 3) by decide +kernel) (by decide) (by rw [am_b_ne, hy]) ?_
  refine am_Rq.blk (is := [(.iconst 1, 1), (.goto 4, 3)]) (q := (28, [some (.ref 238), some (.int (nI A)), some (.int y), none, none, none, none, none], [.int (nI 1), .int (nI 0), .ref 238])) (by decide +kernel) rfl ?_
  dsimp only
  refine am_Rq.blk (is := [(.iconst 0, 1)]) (q := (29, [some (.ref 238), some (.int (nI A)), some (.int y), none, none, none, none, none], [.int (nI 0), .int (nI 1), .int (nI 0), .ref 238])) (by decide +kernel) rfl ?_
  dsimp only
  refine am_Rq.callV (show decode (am_by 134) 29 = .ok (.invokevirtual 57, 3) by decide +kernel) rfl [.int (nI (am_b false)), .int (nI (am_b true)), .int (nI (am_b false))] [] rfl rfl (Nat.le_of_ble_eq_true rfl) rfl hM rfl (m_refused hM false true false) ?_
  rintro _ _ ⟨rfl, rfl⟩
  have hM1 := am_ss (c' := (7, m_ob 2 kn co)) hM
  have hS1 := (am_sn (c' := (7, m_ob 2 kn co)) (show 238 ≠ 239 by decide)).trans hS
  show am_Rq _ 134 32 [some (.ref 238), some (.int (nI A)), some (.int y), none, none, none, none, none] [.int (nI (am_b true))] _ _
  refine am_Rq.if1F (show decode (am_by 134) 32 = .ok (.ifCond .eq 5, 3) by decide +kernel) (by decide) (rfl) ?_
  refine am_Rq.blk (is := [(.iconst 0, 1)]) (q := (36, [some (.ref 238), some (.int (nI A)), some (.int y), none, none, none, none, none], [.int (nI 0)])) (by decide +kernel) rfl ?_
  dsimp only
  refine am_Rq.ret (v := some (.int (nI 0))) (show decode (am_by 134) 36 = .ok (.ireturn, 1) by decide +kernel) rfl rfl ?_
  exact ⟨_, rfl, rfl, rfl⟩
theorem m_brings1 {th kn co : Nat} (hM : hp[238]? = some (7, [.int (nI th), .ref 239, .ref 240, .int (nI kn), .ref 241, .ref 242, .ref 243, .ref 244, .long (lN co), .ref 245])) {s : Nat → Nat} (hS : hp[239]? = some (100, am_ia (fun i => nI (s i)) 160)) {K : Nat} (ok : c_ok K (mt s)) (hK : K ≤ 900) (hQ : m_Sl hp s th kn) {A k : Nat} (hA : A ≤ 2000000000) (hk : k < 8) (hs : sl_set (mt s) A = none) : am_Rq (d + 8) 134 0 (am_en [.ref 238, .int (nI A), .int (nI k)] 8) [] hp (am_Ret fun hp1 v => v = some (.int (am_ic (-1))) ∧ m_Sl hp1 s 0 kn ∧ am_fr (fun x => x = 238 ∨ x = 241 ∨ x = 242 ∨ x = 243 ∨ x = 244) hp hp1) := by
  show am_Rq _ 134 0 [some (.ref 238), some (.int (nI A)), some (.int (nI k)), none, none, none, none, none] [] _ _
  refine am_Rq.blk (is := [(.aload_n 0, 1), (.iload_n 1, 1), (.iconst 0, 1), (.ldc 138, 2)]) (q := (5, [some (.ref 238), some (.int (nI A)), some (.int (nI k)), none, none, none, none, none], [.int (nI 2000000000), .int (nI 0), .int (nI A), .ref 238])) (by decide +kernel) rfl ?_
  dsimp only
  refine am_Rq.callS (show decode (am_by 134) 5 = .ok (.invokestatic 39, 3) by decide +kernel) rfl [.int (nI A), .int (nI 0), .int (nI 2000000000)] [.ref 238] rfl rfl (Nat.le_of_ble_eq_true rfl) rfl rfl (m_in (nI A) (nI 0) (nI 2000000000)) ?_
  rintro hq _ ⟨e1, rfl⟩
  rw [e1]
  clear e1 hq
  show am_Rq _ 134 8 [some (.ref 238), some (.int (nI A)), some (.int (nI k)), none, none, none, none, none] [.int (nI (am_b (rg_r (nI 0) (nI 2000000000) (nI A)))), .ref 238] _ _
  refine am_Rq.if1T (t := 15) (show decode (am_by 134) 8 = .ok (.ifCond .ne 7, 3) by decide +kernel) (by decide) (by rw [am_b_ne, rg_le (by omega) hA (by omega)]) ?_
  refine am_Rq.blk (is := [(.iconst 0, 1), (.iload_n 2, 1)]) (q := (17, [some (.ref 238), some (.int (nI A)), some (.int (nI k)), none, none, none, none, none], [.int (nI k), .int (nI 0), .ref 238])) (by decide +kernel) rfl ?_
  dsimp only
  refine am_Rq.callS (show decode (am_by 134) 17 = .ok (.invokestatic 68, 3) by decide +kernel) rfl [.int (nI k)] [.int (nI 0), .ref 238] rfl rfl (Nat.le_of_ble_eq_true rfl) rfl rfl (m_isHolder (nI k)) ?_
  rintro hq _ ⟨e1, rfl⟩
  rw [e1]
  clear e1 hq
  show am_Rq _ 134 20 [some (.ref 238), some (.int (nI A)), some (.int (nI k)), none, none, none, none, none] [.int (nI (am_b (rg_r (nI 0) (nI 7) (nI k)))), .int (nI 0), .ref 238] _ _
  refine am_Rq.if1T (t := 27) (show decode (am_by 134) 20 = .ok (.ifCond .ne 7, 3) by decide +kernel) (by decide) (by rw [am_b_ne, rg_le (by omega) (show k ≤ 7 by omega) (by omega)]) ?_
  refine am_Rq.blk (is := [(.iconst 0, 1), (.iconst 0, 1)]) (q := (29, [some (.ref 238), some (.int (nI A)), some (.int (nI k)), none, none, none, none, none], [.int (nI 0), .int (nI 0), .int (nI 0), .ref 238])) (by decide +kernel) rfl ?_
  dsimp only
  refine am_Rq.callV (show decode (am_by 134) 29 = .ok (.invokevirtual 57, 3) by decide +kernel) rfl [.int (nI (am_b false)), .int (nI (am_b false)), .int (nI (am_b false))] [] rfl rfl (Nat.le_of_ble_eq_true rfl) rfl hM rfl (m_refused hM false false false) ?_
  rintro _ _ ⟨rfl, rfl⟩
  have hM1 := am_ss (c' := (7, m_ob 0 kn co)) hM
  have hS1 := (am_sn (c' := (7, m_ob 0 kn co)) (show 238 ≠ 239 by decide)).trans hS
  show am_Rq _ 134 32 [some (.ref 238), some (.int (nI A)), some (.int (nI k)), none, none, none, none, none] [.int (nI (am_b false))] _ _
  refine am_Rq.if1T (t := 37) (show decode (am_by 134) 32 = .ok (.ifCond .eq 5, 3) by decide +kernel) (by decide) (rfl) ?_
  have hQ1 := m_Sl.th (k := 0) hM hQ
  have hf0 := m_fr238 (c' := (7, m_ob 0 kn co)) hM rfl
  show am_Rq _ _ _ _ _ (List.set hp 238 (7, m_ob 0 kn co)) _
  generalize hze : (List.set hp 238 _ : am_H) = hz0 at hM1 hS1 hQ1 hf0 ⊢
  clear hze
  refine am_Rq.blk (is := [(.aload_n 0, 1), (.iload_n 1, 1)]) (q := (39, [some (.ref 238), some (.int (nI A)), some (.int (nI k)), none, none, none, none, none], [.int (nI A), .ref 238])) (by decide +kernel) rfl ?_
  dsimp only
  refine am_Rq.callV (show decode (am_by 134) 39 = .ok (.invokevirtual 139, 3) by decide +kernel) rfl [.int (nI A)] [] rfl rfl (Nat.le_of_ble_eq_true rfl) rfl hM1 rfl (m_setOf (A := A) hQ1 ok hK hA) ?_
  rintro hp1 _ ⟨rfl, hQs1, hf1⟩
  show am_Rq _ 134 42 [some (.ref 238), some (.int (nI A)), some (.int (nI k)), none, none, none, none, none] [.int (sl_v (sl_set (mt s) A))] _ _
  obtain ⟨⟨co1, hMc1⟩, -⟩ := id hQs1
  rw [hs]
  show am_Rq _ 134 42 [some (.ref 238), some (.int (nI A)), some (.int (nI k)), none, none, none, none, none] [.int (am_ic (-1))] _ _
  refine am_Rq.blk (is := [(.istore_n 3, 1), (.iload_n 3, 1), (.iconst (-1), 1)]) (q := (45, [some (.ref 238), some (.int (nI A)), some (.int (nI k)), some (.int (am_ic (-1))), none, none, none, none], [.int (am_ic (-1)), .int (am_ic (-1))])) (by decide +kernel) rfl ?_
  dsimp only
  refine am_Rq.if2F (show decode (am_by 134) 45 = .ok (.if_icmp .ne 5, 3) by decide +kernel) (by decide) (rfl) ?_
  refine am_Rq.blk (is := [(.iconst (-1), 1)]) (q := (49, [some (.ref 238), some (.int (nI A)), some (.int (nI k)), some (.int (am_ic (-1))), none, none, none, none], [.int (am_ic (-1))])) (by decide +kernel) rfl ?_
  dsimp only
  refine am_Rq.ret (v := some (.int (am_ic (-1)))) (show decode (am_by 134) 49 = .ok (.ireturn, 1) by decide +kernel) rfl rfl ?_
  exact ⟨_, rfl, rfl, hQs1, (hf0.trans (hf1.mono (A' := fun x => x = 238 ∨ x = 241 ∨ x = 242 ∨ x = 243 ∨ x = 244) (fun x q => by omega)))⟩
theorem m_brings2 {th kn co : Nat} (hM : hp[238]? = some (7, [.int (nI th), .ref 239, .ref 240, .int (nI kn), .ref 241, .ref 242, .ref 243, .ref 244, .long (lN co), .ref 245])) {s : Nat → Nat} (hS : hp[239]? = some (100, am_ia (fun i => nI (s i)) 160)) {K : Nat} (ok : c_ok K (mt s)) (hK : K ≤ 900) (hQ : m_Sl hp s th kn) {A k : Nat} (hA : A ≤ 2000000000) (hk : k < 8) {e : Nat} (hs : sl_set (mt s) A = some e) : am_Rq (d + 8) 134 0 (am_en [.ref 238, .int (nI A), .int (nI k)] 8) [] hp (am_Ret fun hp1 v => v = some (.int (nI (sl_br (mt s) A e k 5))) ∧ m_Sl hp1 s 0 kn ∧ am_fr (fun x => x = 238 ∨ x = 241 ∨ x = 242 ∨ x = 243 ∨ x = 244) hp hp1) := by
  show am_Rq _ 134 0 [some (.ref 238), some (.int (nI A)), some (.int (nI k)), none, none, none, none, none] [] _ _
  refine am_Rq.blk (is := [(.aload_n 0, 1), (.iload_n 1, 1), (.iconst 0, 1), (.ldc 138, 2)]) (q := (5, [some (.ref 238), some (.int (nI A)), some (.int (nI k)), none, none, none, none, none], [.int (nI 2000000000), .int (nI 0), .int (nI A), .ref 238])) (by decide +kernel) rfl ?_
  dsimp only
  refine am_Rq.callS (show decode (am_by 134) 5 = .ok (.invokestatic 39, 3) by decide +kernel) rfl [.int (nI A), .int (nI 0), .int (nI 2000000000)] [.ref 238] rfl rfl (Nat.le_of_ble_eq_true rfl) rfl rfl (m_in (nI A) (nI 0) (nI 2000000000)) ?_
  rintro hq _ ⟨e1, rfl⟩
  rw [e1]
  clear e1 hq
  show am_Rq _ 134 8 [some (.ref 238), some (.int (nI A)), some (.int (nI k)), none, none, none, none, none] [.int (nI (am_b (rg_r (nI 0) (nI 2000000000) (nI A)))), .ref 238] _ _
  refine am_Rq.if1T (t := 15) (show decode (am_by 134) 8 = .ok (.ifCond .ne 7, 3) by decide +kernel) (by decide) (by rw [am_b_ne, rg_le (by omega) hA (by omega)]) ?_
  refine am_Rq.blk (is := [(.iconst 0, 1), (.iload_n 2, 1)]) (q := (17, [some (.ref 238), some (.int (nI A)), some (.int (nI k)), none, none, none, none, none], [.int (nI k), .int (nI 0), .ref 238])) (by decide +kernel) rfl ?_
  dsimp only
  refine am_Rq.callS (show decode (am_by 134) 17 = .ok (.invokestatic 68, 3) by decide +kernel) rfl [.int (nI k)] [.int (nI 0), .ref 238] rfl rfl (Nat.le_of_ble_eq_true rfl) rfl rfl (m_isHolder (nI k)) ?_
  rintro hq _ ⟨e1, rfl⟩
  rw [e1]
  clear e1 hq
  show am_Rq _ 134 20 [some (.ref 238), some (.int (nI A)), some (.int (nI k)), none, none, none, none, none] [.int (nI (am_b (rg_r (nI 0) (nI 7) (nI k)))), .int (nI 0), .ref 238] _ _
  refine am_Rq.if1T (t := 27) (show decode (am_by 134) 20 = .ok (.ifCond .ne 7, 3) by decide +kernel) (by decide) (by rw [am_b_ne, rg_le (by omega) (show k ≤ 7 by omega) (by omega)]) ?_
  refine am_Rq.blk (is := [(.iconst 0, 1), (.iconst 0, 1)]) (q := (29, [some (.ref 238), some (.int (nI A)), some (.int (nI k)), none, none, none, none, none], [.int (nI 0), .int (nI 0), .int (nI 0), .ref 238])) (by decide +kernel) rfl ?_
  dsimp only
  refine am_Rq.callV (show decode (am_by 134) 29 = .ok (.invokevirtual 57, 3) by decide +kernel) rfl [.int (nI (am_b false)), .int (nI (am_b false)), .int (nI (am_b false))] [] rfl rfl (Nat.le_of_ble_eq_true rfl) rfl hM rfl (m_refused hM false false false) ?_
  rintro _ _ ⟨rfl, rfl⟩
  have hM1 := am_ss (c' := (7, m_ob 0 kn co)) hM
  have hS1 := (am_sn (c' := (7, m_ob 0 kn co)) (show 238 ≠ 239 by decide)).trans hS
  show am_Rq _ 134 32 [some (.ref 238), some (.int (nI A)), some (.int (nI k)), none, none, none, none, none] [.int (nI (am_b false))] _ _
  refine am_Rq.if1T (t := 37) (show decode (am_by 134) 32 = .ok (.ifCond .eq 5, 3) by decide +kernel) (by decide) (rfl) ?_
  have hQ1 := m_Sl.th (k := 0) hM hQ
  have hf0 := m_fr238 (c' := (7, m_ob 0 kn co)) hM rfl
  show am_Rq _ _ _ _ _ (List.set hp 238 (7, m_ob 0 kn co)) _
  generalize hze : (List.set hp 238 _ : am_H) = hz0 at hM1 hS1 hQ1 hf0 ⊢
  clear hze
  refine am_Rq.blk (is := [(.aload_n 0, 1), (.iload_n 1, 1)]) (q := (39, [some (.ref 238), some (.int (nI A)), some (.int (nI k)), none, none, none, none, none], [.int (nI A), .ref 238])) (by decide +kernel) rfl ?_
  dsimp only
  refine am_Rq.callV (show decode (am_by 134) 39 = .ok (.invokevirtual 139, 3) by decide +kernel) rfl [.int (nI A)] [] rfl rfl (Nat.le_of_ble_eq_true rfl) rfl hM1 rfl (m_setOf (A := A) hQ1 ok hK hA) ?_
  rintro hp1 _ ⟨rfl, hQs1, hf1⟩
  show am_Rq _ 134 42 [some (.ref 238), some (.int (nI A)), some (.int (nI k)), none, none, none, none, none] [.int (sl_v (sl_set (mt s) A))] _ _
  obtain ⟨⟨co1, hMc1⟩, -⟩ := id hQs1
  rw [hs]
  have he := sl_set_lt hs
  have hs0 := mt_s0 ok
  have hB := ok.b (by omega)
  show am_Rq _ 134 42 [some (.ref 238), some (.int (nI A)), some (.int (nI k)), none, none, none, none, none] [.int (nI e)] _ _
  refine am_Rq.blk (is := [(.istore_n 3, 1), (.iload_n 3, 1), (.iconst (-1), 1)]) (q := (45, [some (.ref 238), some (.int (nI A)), some (.int (nI k)), some (.int (nI e)), none, none, none, none], [.int (am_ic (-1)), .int (nI e)])) (by decide +kernel) rfl ?_
  dsimp only
  refine am_Rq.if2T (t := 50) (show decode (am_by 134) 45 = .ok (.if_icmp .ne 5, 3) by decide +kernel) (by decide) (c_nm1 (by omega)) ?_
  refine am_Rq.blk (is := [(.aload_n 0, 1), (.iload_n 1, 1), (.iload_n 3, 1)]) (q := (53, [some (.ref 238), some (.int (nI A)), some (.int (nI k)), some (.int (nI e)), none, none, none, none], [.int (nI e), .int (nI A), .ref 238])) (by decide +kernel) rfl ?_
  dsimp only
  obtain ⟨-, hS2, ⟨f1, y1⟩, ⟨f2, y2⟩, ⟨f3, y3⟩, ⟨f4, y4⟩⟩ := id hQs1
  refine am_Rq.callV (show decode (am_by 134) 53 = .ok (.invokevirtual 128, 3) by decide +kernel) rfl [.int (nI A), .int (nI e)] [] rfl rfl (Nat.le_of_ble_eq_true rfl) rfl hMc1 rfl (m_divide (e := e) hMc1 hS2 ok hK hA he y1 y2 y3 y4) ?_
  rintro hp2 _ ⟨rfl, hMd, hGd, ⟨f5, y5⟩, ⟨f6, y6⟩, ⟨f7, y7⟩, hf2⟩
  have hc2_239 := (hf2.2.2 (239) (fun q => by omega)).trans hS2
  show am_Rq _ 134 56 [some (.ref 238), some (.int (nI A)), some (.int (nI k)), some (.int (nI e)), none, none, none, none] [] _ _
  refine am_Rq.blk (is := [(.lconst 0, 1), (.lstore 4, 2), (.iconst 0, 1), (.istore 6, 2)]) (q := (62, [some (.ref 238), some (.int (nI A)), some (.int (nI k)), some (.int (nI e)), some (.long (lN 0)), none, some (.int (nI 0)), none], [])) (by decide +kernel) rfl ?_
  dsimp only
  have hfT : am_fr (fun x => x = 238 ∨ x = 241 ∨ x = 242 ∨ x = 243 ∨ x = 244) hp _ := ((hf0.trans (hf1.mono (A' := fun x => x = 238 ∨ x = 241 ∨ x = 242 ∨ x = 243 ∨ x = 244) (fun x q => by omega))).trans (hf2.mono (A' := fun x => x = 238 ∨ x = 241 ∨ x = 242 ∨ x = 243 ∨ x = 244) (fun x q => by omega)))
  obtain ⟨hpp, hpe⟩ : ∃ x, x = hp := ⟨_, rfl⟩
  rw [← hpe] at hfT ⊢
  refine am_for (n := (s 0 + 1)) (fun i lo hp => ∃ z7 : Option Value, lo = [some (.ref 238), some (.int (nI A)), some (.int (nI k)), some (.int (nI e)), some (.long (lN (sl_br (mt s) A e k i))), none, some (.int (nI i)), z7] ∧ (∃ f : Nat → Int64, hp[241]? = some (101, am_la f 8)) ∧ (∃ f : Nat → Int64, hp[242]? = some (101, am_la f 8)) ∧ (∃ f : Nat → Int64, hp[243]? = some (101, am_la f 8)) ∧ hp[238]? = some (7, [.int (nI 0), .ref 239, .ref 240, .int (nI kn), .ref 241, .ref 242, .ref 243, .ref 244, .long (lN (sl_dv (mt s) A e 5)), .ref 245]) ∧ hp[239]? = some (100, (am_ia (fun i => nI (s i)) 160)) ∧ hp[244]? = some (101, (am_la (fun c => lN (sl_dv (mt s) A e c)) 5)) ∧ am_fr (fun x => x = 238 ∨ x = 241 ∨ x = 242 ∨ x = 243 ∨ x = 244) hpp hp) ?_ ?_ (i := 0) (by omega) ⟨_, rfl, ⟨_, y5⟩, ⟨_, y6⟩, ⟨_, y7⟩, hMd, hc2_239, hGd, hfT⟩
  · rintro i lo hp hi ⟨z7, rfl, ⟨u1, h1⟩, ⟨u2, h2⟩, ⟨u3, h3⟩, q8, q9, q4, hf1⟩ ih
    refine am_Rq.blk (is := [(.iload 6, 2), (.aload_n 0, 1)]) (q := (65, [some (.ref 238), some (.int (nI A)), some (.int (nI k)), some (.int (nI e)), some (.long (lN (sl_br (mt s) A e k i))), none, some (.int (nI i)), z7], [.ref 238, .int (nI i)])) (by decide +kernel) rfl ?_
    dsimp only
    refine am_Rq.getf (v := .ref 239) (show decode (am_by 134) 65 = .ok (.getfield 7, 3) by decide +kernel) rfl q8 rfl ?_
    refine am_Rq.blk (is := [(.iconst 0, 1)]) (q := (69, [some (.ref 238), some (.int (nI A)), some (.int (nI k)), some (.int (nI e)), some (.long (lN (sl_br (mt s) A e k i))), none, some (.int (nI i)), z7], [.int (nI 0), .ref 239, .int (nI i)])) (by decide +kernel) rfl ?_
    dsimp only
    refine am_Rq.ial (k := 0) (show decode (am_by 134) 69 = .ok (.iaload, 1) by decide +kernel) q9 (by omega) (by omega) ?_
    refine am_Rq.if2F (show decode (am_by 134) 70 = .ok (.if_icmp .gt 79, 3) by decide +kernel) (by decide) (by rw [nm_gt (by omega) (by omega)]; exact decide_eq_false (by omega)) ?_
    refine am_Rq.blk (is := [(.iconst 0, 1), (.istore 7, 2)]) (q := (76, [some (.ref 238), some (.int (nI A)), some (.int (nI k)), some (.int (nI e)), some (.long (lN (sl_br (mt s) A e k i))), none, some (.int (nI i)), some (.int (nI 0))], [])) (by decide +kernel) rfl ?_
    dsimp only
    refine am_for (n := 8) (fun q lo hp => lo = [some (.ref 238), some (.int (nI A)), some (.int (nI k)), some (.int (nI e)), some (.long (lN (sl_br (mt s) A e k i))), none, some (.int (nI i)), some (.int (nI q))] ∧ (∃ g : Nat → Int64, hp[241]? = some (101, am_la g 8) ∧ ∀ k, k < q → g k = lN (mt s (40 + 8 * i + k))) ∧ hp[238]? = some (7, [.int (nI 0), .ref 239, .ref 240, .int (nI kn), .ref 241, .ref 242, .ref 243, .ref 244, .long (lN (sl_dv (mt s) A e 5)), .ref 245]) ∧ hp[239]? = some (100, (am_ia (fun i => nI (s i)) 160)) ∧ hp[242]? = some (101, (am_la u2 8)) ∧ hp[243]? = some (101, (am_la u3 8)) ∧ hp[244]? = some (101, (am_la (fun c => lN (sl_dv (mt s) A e c)) 5)) ∧ am_fr (fun x => x = 238 ∨ x = 241 ∨ x = 242 ∨ x = 243 ∨ x = 244) hpp hp) ?_ ?_ (i := 0) (by omega) ⟨rfl, ⟨_, h1, fun k hk => by omega⟩, q8, q9, h2, h3, q4, hf1⟩
    · rintro q lo hp hq ⟨rfl, ⟨g, hg, hgx⟩, r8, r9, r2, r3, r4, hf2⟩ ihq
      refine am_Rq.blk (is := [(.iload 7, 2), (.bipush 8, 2)]) (q := (80, [some (.ref 238), some (.int (nI A)), some (.int (nI k)), some (.int (nI e)), some (.long (lN (sl_br (mt s) A e k i))), none, some (.int (nI i)), some (.int (nI q))], [.int (nI 8), .int (nI q)])) (by decide +kernel) rfl ?_
      dsimp only
      refine am_Rq.if2F (show decode (am_by 134) 80 = .ok (.if_icmp .ge 33, 3) by decide +kernel) (by decide) (by rw [nm_ge (by omega) (by omega)]; exact decide_eq_false (by omega)) ?_
      refine am_Rq.blk (is := [(.aload_n 0, 1)]) (q := (84, [some (.ref 238), some (.int (nI A)), some (.int (nI k)), some (.int (nI e)), some (.long (lN (sl_br (mt s) A e k i))), none, some (.int (nI i)), some (.int (nI q))], [.ref 238])) (by decide +kernel) rfl ?_
      dsimp only
      refine am_Rq.getf (v := .ref 241) (show decode (am_by 134) 84 = .ok (.getfield 16, 3) by decide +kernel) rfl r8 rfl ?_
      refine am_Rq.blk (is := [(.iload 7, 2), (.aload_n 0, 1)]) (q := (90, [some (.ref 238), some (.int (nI A)), some (.int (nI k)), some (.int (nI e)), some (.long (lN (sl_br (mt s) A e k i))), none, some (.int (nI i)), some (.int (nI q))], [.ref 238, .int (nI q), .ref 241])) (by decide +kernel) rfl ?_
      dsimp only
      refine am_Rq.getf (v := .ref 239) (show decode (am_by 134) 90 = .ok (.getfield 7, 3) by decide +kernel) rfl r8 rfl ?_
      refine am_Rq.blk (is := [(.bipush 40, 2), (.bipush 8, 2), (.iload 6, 2), (.imul, 1)]) (q := (100, [some (.ref 238), some (.int (nI A)), some (.int (nI k)), some (.int (nI e)), some (.long (lN (sl_br (mt s) A e k i))), none, some (.int (nI i)), some (.int (nI q))], [.int ((nI 8) * (nI i)), .int (nI 40), .ref 239, .int (nI q), .ref 241])) (by decide +kernel) rfl ?_
      dsimp only
      rw [show (nI 8) * (nI i) = nI (8 * i) from nm_imul _ _]
      refine am_Rq.blk (is := [(.iadd, 1)]) (q := (101, [some (.ref 238), some (.int (nI A)), some (.int (nI k)), some (.int (nI e)), some (.long (lN (sl_br (mt s) A e k i))), none, some (.int (nI i)), some (.int (nI q))], [.int ((nI 40) + (nI (8 * i))), .ref 239, .int (nI q), .ref 241])) (by decide +kernel) rfl ?_
      dsimp only
      rw [show (nI 40) + (nI (8 * i)) = nI (40 + (8 * i)) from nI_add _ _]
      refine am_Rq.blk (is := [(.iload 7, 2), (.iadd, 1)]) (q := (104, [some (.ref 238), some (.int (nI A)), some (.int (nI k)), some (.int (nI e)), some (.long (lN (sl_br (mt s) A e k i))), none, some (.int (nI i)), some (.int (nI q))], [.int ((nI (40 + (8 * i))) + (nI q)), .ref 239, .int (nI q), .ref 241])) (by decide +kernel) rfl ?_
      dsimp only
      rw [show (nI (40 + (8 * i))) + (nI q) = nI ((40 + (8 * i)) + q) from nI_add _ _]
      refine am_Rq.ial (k := (40 + (8 * i)) + q) (show decode (am_by 134) 104 = .ok (.iaload, 1) by decide +kernel) r9 (by omega) (by omega) ?_
      have bq := hB (40 + 8 * i + q) (by omega)
      rw [← mt_h (s := s) (show 40 ≤ 40 + 8 * i + q by omega) (by omega)]
      refine am_Rq.blk (is := [(.i2l, 1)]) (q := (106, [some (.ref 238), some (.int (nI A)), some (.int (nI k)), some (.int (nI e)), some (.long (lN (sl_br (mt s) A e k i))), none, some (.int (nI i)), some (.int (nI q))], [.long ((nI (mt s (40 + 8 * i + q))).toInt64), .int (nI q), .ref 241])) (by decide +kernel) rfl ?_
      dsimp only
      rw [show (nI (mt s (40 + 8 * i + q))).toInt64 = lN (mt s (40 + 8 * i + q)) from nm_l (by omega)]
      refine am_Rq.las (k := q) (x := lN (mt s (40 + 8 * i + q))) (show decode (am_by 134) 106 = .ok (.lastore, 1) by decide +kernel) hg (by omega) (by omega) (by omega) ?_
      have hc3_238 := (am_sn (c' := (101, (am_la (va_up g q (lN (mt s (40 + 8 * i + q)))) 8))) (show 241 ≠ 238 by omega)).trans r8
      have hc3_239 := (am_sn (c' := (101, (am_la (va_up g q (lN (mt s (40 + 8 * i + q)))) 8))) (show 241 ≠ 239 by omega)).trans r9
      have hc3_242 := (am_sn (c' := (101, (am_la (va_up g q (lN (mt s (40 + 8 * i + q)))) 8))) (show 241 ≠ 242 by omega)).trans r2
      have hc3_243 := (am_sn (c' := (101, (am_la (va_up g q (lN (mt s (40 + 8 * i + q)))) 8))) (show 241 ≠ 243 by omega)).trans r3
      have hc3_244 := (am_sn (c' := (101, (am_la (va_up g q (lN (mt s (40 + 8 * i + q)))) 8))) (show 241 ≠ 244 by omega)).trans r4
      have hc3_241 := am_ss (c' := (101, (am_la (va_up g q (lN (mt s (40 + 8 * i + q)))) 8))) hg
      have hf3 := (am_fr.rf (A := fun q => q = 241)).set (c' := (101, (am_la (va_up g q (lN (mt s (40 + 8 * i + q)))) 8))) rfl hg (by simp [am_ia_len, am_la_len])
      generalize hze3 : (List.set _ 241 _ : am_H) = hz3 at hf3 hc3_238 hc3_239 hc3_242 hc3_243 hc3_244 hc3_241 ⊢
      clear hze3
      refine am_Rq.blk (is := [(.iinc 7 1, 3)]) (q := (110, [some (.ref 238), some (.int (nI A)), some (.int (nI k)), some (.int (nI e)), some (.long (lN (sl_br (mt s) A e k i))), none, some (.int (nI i)), some (.int ((nI q) + (nI 1)))], [])) (by decide +kernel) rfl ?_
      dsimp only
      rw [show (nI q) + (nI 1) = nI (q + 1) from nI_add _ _]
      refine am_Rq.blk (is := [(.goto (-34), 3)]) (q := (76, [some (.ref 238), some (.int (nI A)), some (.int (nI k)), some (.int (nI e)), some (.long (lN (sl_br (mt s) A e k i))), none, some (.int (nI i)), some (.int (nI (q + 1)))], [])) (by decide +kernel) rfl ?_
      dsimp only
      refine ihq _ _ ⟨rfl, ⟨_, hc3_241, fun k hk => ?_⟩, hc3_238, hc3_239, hc3_242, hc3_243, hc3_244, (hf2.trans (hf3.mono (A' := fun x => x = 238 ∨ x = 241 ∨ x = 242 ∨ x = 243 ∨ x = 244) (fun x q => by omega)))⟩
      by_cases ek : k = q
      · rw [ek, va_up_self]
      · rw [va_up_ne _ _ ek]; exact hgx k (by omega)
    · rintro lo hp ⟨rfl, ⟨g, hg, hgx⟩, r8, r9, r2, r3, r4, hf2⟩
      rw [c_la_congr (g := fun k => lN (mt s (40 + 8 * i + k))) hgx] at hg
      refine am_Rq.blk (is := [(.iload 7, 2), (.bipush 8, 2)]) (q := (80, [some (.ref 238), some (.int (nI A)), some (.int (nI k)), some (.int (nI e)), some (.long (lN (sl_br (mt s) A e k i))), none, some (.int (nI i)), some (.int (nI 8))], [.int (nI 8), .int (nI 8)])) (by decide +kernel) rfl ?_
      dsimp only
      refine am_Rq.if2T (t := 113) (show decode (am_by 134) 80 = .ok (.if_icmp .ge 33, 3) by decide +kernel) (by decide) (by rw [nm_ge (by omega) (by omega)]; exact decide_eq_true (by omega)) ?_
      refine am_Rq.blk (is := [(.aload_n 0, 1), (.aload_n 0, 1)]) (q := (115, [some (.ref 238), some (.int (nI A)), some (.int (nI k)), some (.int (nI e)), some (.long (lN (sl_br (mt s) A e k i))), none, some (.int (nI i)), some (.int (nI 8))], [.ref 238, .ref 238])) (by decide +kernel) rfl ?_
      dsimp only
      refine am_Rq.getf (v := .ref 244) (show decode (am_by 134) 115 = .ok (.getfield 26, 3) by decide +kernel) rfl r8 rfl ?_
      refine am_Rq.blk (is := [(.iload 6, 2)]) (q := (120, [some (.ref 238), some (.int (nI A)), some (.int (nI k)), some (.int (nI e)), some (.long (lN (sl_br (mt s) A e k i))), none, some (.int (nI i)), some (.int (nI 8))], [.int (nI i), .ref 244, .ref 238])) (by decide +kernel) rfl ?_
      dsimp only
      refine am_Rq.lal (k := i) (show decode (am_by 134) 120 = .ok (.laload, 1) by decide +kernel) r4 (by omega) (by omega) ?_
      have o1 : sl_dv (mt s) A e i ≤ A := dv_out_le _ _ _ _ _ _ (by omega)
      have hub : ∀ k, k < 8 → (fun k => mt s (40 + 8 * i + k)) k ≤ 1500000000 := fun k hk => by
        obtain ⟨a0, a1, a2, a3, a4, a5, a6, a7, a8, a9, a10, a11⟩ := ok.1 i (by omega)
        have := sp_sm_ge (f := fun k => mt s (40 + 8 * i + k)) hk
        have e1 : (fun k => mt s (40 + 8 * i + k)) k = mt s (40 + 8 * i + k) := rfl
        omega
      refine am_Rq.callV (show decode (am_by 134) 121 = .ok (.invokevirtual 106, 3) by decide +kernel) rfl [.long (lN (sl_dv (mt s) A e i))] [] rfl rfl (Nat.le_of_ble_eq_true rfl) rfl r8 rfl (m_share (u := fun k => mt s (40 + 8 * i + k)) (A := sl_dv (mt s) A e i) r8 r2 r3 hg (by omega) hub) ?_
      rintro hp4 _ ⟨rfl, hPa, ⟨gq, hRe⟩, hf4⟩
      have hc4_238 := (hf4.2.2 (238) (fun q => by omega)).trans r8
      have hc4_239 := (hf4.2.2 (239) (fun q => by omega)).trans r9
      have hc4_244 := (hf4.2.2 (244) (fun q => by omega)).trans r4
      have hc4_241 := (hf4.2.2 (241) (fun q => by omega)).trans hg
      show am_Rq _ 134 124 [some (.ref 238), some (.int (nI A)), some (.int (nI k)), some (.int (nI e)), some (.long (lN (sl_br (mt s) A e k i))), none, some (.int (nI i)), some (.int (nI 8))] [.int (nI (am_b (decide (0 < sp_sm (fun k => mt s (40 + 8 * i + k)) 8))))] _ _
      refine am_Rq.if1 (t := 139) (show decode (am_by 134) 124 = .ok (.ifCond .eq 15, 3) by decide +kernel) (by decide) (fun hb => ?_) (fun hb => ?_)
      ·
        rw [am_b_eq, Bool.not_eq_true'] at hb
        have hb := of_decide_eq_false hb
        have hsz : sl_br (mt s) A e k (i + 1) = sl_br (mt s) A e k i := by
          show sl_br (mt s) A e k i + sp_sh 8 (sl_dv (mt s) A e i) (fun k => mt s (40 + 8 * i + k)) k = _
          unfold sp_sh
          rw [if_pos (by omega)]
          rfl
        refine am_Rq.blk (is := [(.lload 4, 2), (.lstore 4, 2), (.iinc 6 1, 3)]) (q := (146, [some (.ref 238), some (.int (nI A)), some (.int (nI k)), some (.int (nI e)), some (.long (lN (sl_br (mt s) A e k i))), none, some (.int ((nI i) + (nI 1))), some (.int (nI 8))], [])) (by decide +kernel) rfl ?_
        dsimp only
        rw [show (nI i) + (nI 1) = nI (i + 1) from nI_add _ _]
        refine am_Rq.blk (is := [(.goto (-84), 3)]) (q := (62, [some (.ref 238), some (.int (nI A)), some (.int (nI k)), some (.int (nI e)), some (.long (lN (sl_br (mt s) A e k i))), none, some (.int (nI (i + 1))), some (.int (nI 8))], [])) (by decide +kernel) rfl ?_
        dsimp only
        refine ih _ _ ⟨_, by rw [hsz], ⟨_, hc4_241⟩, ⟨_, hPa⟩, ⟨_, hRe⟩, hc4_238, hc4_239, hc4_244, (hf2.trans (hf4.mono (A' := fun x => x = 238 ∨ x = 241 ∨ x = 242 ∨ x = 243 ∨ x = 244) (fun x q => by omega)))⟩
      ·
        refine am_Rq.blk (is := [(.lload 4, 2), (.aload_n 0, 1)]) (q := (130, [some (.ref 238), some (.int (nI A)), some (.int (nI k)), some (.int (nI e)), some (.long (lN (sl_br (mt s) A e k i))), none, some (.int (nI i)), some (.int (nI 8))], [.ref 238, .long (lN (sl_br (mt s) A e k i))])) (by decide +kernel) rfl ?_
        dsimp only
        refine am_Rq.getf (v := .ref 242) (show decode (am_by 134) 130 = .ok (.getfield 20, 3) by decide +kernel) rfl hc4_238 rfl ?_
        refine am_Rq.blk (is := [(.iload_n 2, 1)]) (q := (134, [some (.ref 238), some (.int (nI A)), some (.int (nI k)), some (.int (nI e)), some (.long (lN (sl_br (mt s) A e k i))), none, some (.int (nI i)), some (.int (nI 8))], [.int (nI k), .ref 242, .long (lN (sl_br (mt s) A e k i))])) (by decide +kernel) rfl ?_
        dsimp only
        refine am_Rq.lal (k := k) (show decode (am_by 134) 134 = .ok (.laload, 1) by decide +kernel) hPa (by omega) (by omega) ?_
        refine am_Rq.blk (is := [(.ladd, 1)]) (q := (136, [some (.ref 238), some (.int (nI A)), some (.int (nI k)), some (.int (nI e)), some (.long (lN (sl_br (mt s) A e k i))), none, some (.int (nI i)), some (.int (nI 8))], [.long ((lN (sl_br (mt s) A e k i)) + (lN (sp_sh 8 (sl_dv (mt s) A e i) (fun k9 => mt s (40 + 8 * i + k9)) k)))])) (by decide +kernel) rfl ?_
        dsimp only
        rw [show (lN (sl_br (mt s) A e k i)) + (lN (sp_sh 8 (sl_dv (mt s) A e i) (fun k9 => mt s (40 + 8 * i + k9)) k)) = lN ((sl_br (mt s) A e k i) + (sp_sh 8 (sl_dv (mt s) A e i) (fun k9 => mt s (40 + 8 * i + k9)) k)) from lN_add _ _]
        refine am_Rq.blk (is := [(.goto 5, 3)]) (q := (141, [some (.ref 238), some (.int (nI A)), some (.int (nI k)), some (.int (nI e)), some (.long (lN (sl_br (mt s) A e k i))), none, some (.int (nI i)), some (.int (nI 8))], [.long (lN ((sl_br (mt s) A e k i) + (sp_sh 8 (sl_dv (mt s) A e i) (fun k9 => mt s (40 + 8 * i + k9)) k)))])) (by decide +kernel) rfl ?_
        dsimp only
        refine am_Rq.blk (is := [(.lstore 4, 2), (.iinc 6 1, 3)]) (q := (146, [some (.ref 238), some (.int (nI A)), some (.int (nI k)), some (.int (nI e)), some (.long (lN ((sl_br (mt s) A e k i) + (sp_sh 8 (sl_dv (mt s) A e i) (fun k9 => mt s (40 + 8 * i + k9)) k)))), none, some (.int ((nI i) + (nI 1))), some (.int (nI 8))], [])) (by decide +kernel) rfl ?_
        dsimp only
        rw [show (nI i) + (nI 1) = nI (i + 1) from nI_add _ _]
        refine am_Rq.blk (is := [(.goto (-84), 3)]) (q := (62, [some (.ref 238), some (.int (nI A)), some (.int (nI k)), some (.int (nI e)), some (.long (lN ((sl_br (mt s) A e k i) + (sp_sh 8 (sl_dv (mt s) A e i) (fun k9 => mt s (40 + 8 * i + k9)) k)))), none, some (.int (nI (i + 1))), some (.int (nI 8))], [])) (by decide +kernel) rfl ?_
        dsimp only
        refine ih _ _ ⟨_, rfl, ⟨_, hc4_241⟩, ⟨_, hPa⟩, ⟨_, hRe⟩, hc4_238, hc4_239, hc4_244, (hf2.trans (hf4.mono (A' := fun x => x = 238 ∨ x = 241 ∨ x = 242 ∨ x = 243 ∨ x = 244) (fun x q => by omega)))⟩
  · rintro lo hp ⟨z7, rfl, ⟨u1, h1⟩, ⟨u2, h2⟩, ⟨u3, h3⟩, q8, q9, q4, hf1⟩
    refine am_Rq.blk (is := [(.iload 6, 2), (.aload_n 0, 1)]) (q := (65, [some (.ref 238), some (.int (nI A)), some (.int (nI k)), some (.int (nI e)), some (.long (lN (sl_br (mt s) A e k (s 0 + 1)))), none, some (.int (nI (s 0 + 1))), z7], [.ref 238, .int (nI (s 0 + 1))])) (by decide +kernel) rfl ?_
    dsimp only
    refine am_Rq.getf (v := .ref 239) (show decode (am_by 134) 65 = .ok (.getfield 7, 3) by decide +kernel) rfl q8 rfl ?_
    refine am_Rq.blk (is := [(.iconst 0, 1)]) (q := (69, [some (.ref 238), some (.int (nI A)), some (.int (nI k)), some (.int (nI e)), some (.long (lN (sl_br (mt s) A e k (s 0 + 1)))), none, some (.int (nI (s 0 + 1))), z7], [.int (nI 0), .ref 239, .int (nI (s 0 + 1))])) (by decide +kernel) rfl ?_
    dsimp only
    refine am_Rq.ial (k := 0) (show decode (am_by 134) 69 = .ok (.iaload, 1) by decide +kernel) q9 (by omega) (by omega) ?_
    refine am_Rq.if2T (t := 149) (show decode (am_by 134) 70 = .ok (.if_icmp .gt 79, 3) by decide +kernel) (by decide) (by rw [nm_gt (by omega) (by omega)]; exact decide_eq_true (by omega)) ?_
    refine am_Rq.blk (is := [(.lload 4, 2), (.l2i, 1)]) (q := (152, [some (.ref 238), some (.int (nI A)), some (.int (nI k)), some (.int (nI e)), some (.long (lN (sl_br (mt s) A e k (s 0 + 1)))), none, some (.int (nI (s 0 + 1))), z7], [.int ((lN (sl_br (mt s) A e k (s 0 + 1))).toInt32)])) (by decide +kernel) rfl ?_
    dsimp only
    rw [show (lN (sl_br (mt s) A e k (s 0 + 1))).toInt32 = nI (sl_br (mt s) A e k (s 0 + 1)) from nm_i _]
    refine am_Rq.ret (v := some (.int (nI (sl_br (mt s) A e k (s 0 + 1))))) (show decode (am_by 134) 152 = .ok (.ireturn, 1) by decide +kernel) rfl rfl ?_
    subst hpe
    exact ⟨_, rfl, by rw [sl_br_tail ok], ⟨⟨_, q8⟩, q9, ⟨_, h1⟩, ⟨_, h2⟩, ⟨_, h3⟩, ⟨_, q4⟩⟩, hf1⟩
theorem m_flip_no1 {th kn co : Nat} (hM : hp[238]? = some (7, [.int (nI th), .ref 239, .ref 240, .int (nI kn), .ref 241, .ref 242, .ref 243, .ref 244, .long (lN co), .ref 245])) {s : Nat → Nat} (hS : hp[239]? = some (100, am_ia (fun i => nI (s i)) 160)) {K : Nat} (ok : c_ok K (mt s)) (hK : K ≤ 900) {x y : Int32} (hx : rg_r (nI 0) (nI 2000000000) x = false) : am_Rq (d + 8) 135 0 (am_en [.ref 238, .int x, .int y] 8) [] hp (am_Ret fun hp1 v => hp1 = hp.set 238 (7, m_ob 1 kn co) ∧ v = some (.int (nI (0)))) := by
  show am_Rq _ 135 0 [some (.ref 238), some (.int x), some (.int y), none, none, none, none, none] [] _ _
  refine am_Rq.blk (is := [(.aload_n 0, 1), (.iload_n 1, 1), (.iconst 0, 1), (.ldc 138, 2)]) (q := (5, [some (.ref 238), some (.int x), some (.int y), none, none, none, none, none], [.int (nI 2000000000), .int (nI 0), .int x, .ref 238])) (by decide +kernel) rfl ?_
  dsimp only
  refine am_Rq.callS (show decode (am_by 135) 5 = .ok (.invokestatic 39, 3) by decide +kernel) rfl [.int x, .int (nI 0), .int (nI 2000000000)] [.ref 238] rfl rfl (Nat.le_of_ble_eq_true rfl) rfl rfl (m_in (x) (nI 0) (nI 2000000000)) ?_
  rintro hq _ ⟨e1, rfl⟩
  rw [e1]
  clear e1 hq
  show am_Rq _ 135 8 [some (.ref 238), some (.int x), some (.int y), none, none, none, none, none] [.int (nI (am_b (rg_r (nI 0) (nI 2000000000) (x)))), .ref 238] _ _
  refine am_Rq.if1T (t := 26) (show decode (am_by 135) 8 = .ok (.ifCond .eq 18, 3) by decide +kernel) (by decide) (by rw [am_b_eq, hx]; rfl) ?_
  refine am_Rq.blk (is := [(.iconst 1, 1), (.goto 4, 3)]) (q := (31, [some (.ref 238), some (.int x), some (.int y), none, none, none, none, none], [.int (nI 1), .ref 238])) (by decide +kernel) rfl ?_
  dsimp only
  refine am_Rq.blk (is := [(.iconst 0, 1), (.iconst 0, 1)]) (q := (33, [some (.ref 238), some (.int x), some (.int y), none, none, none, none, none], [.int (nI 0), .int (nI 0), .int (nI 1), .ref 238])) (by decide +kernel) rfl ?_
  dsimp only
  refine am_Rq.callV (show decode (am_by 135) 33 = .ok (.invokevirtual 57, 3) by decide +kernel) rfl [.int (nI (am_b true)), .int (nI (am_b false)), .int (nI (am_b false))] [] rfl rfl (Nat.le_of_ble_eq_true rfl) rfl hM rfl (m_refused hM true false false) ?_
  rintro _ _ ⟨rfl, rfl⟩
  have hM1 := am_ss (c' := (7, m_ob 1 kn co)) hM
  have hS1 := (am_sn (c' := (7, m_ob 1 kn co)) (show 238 ≠ 239 by decide)).trans hS
  show am_Rq _ 135 36 [some (.ref 238), some (.int x), some (.int y), none, none, none, none, none] [.int (nI (am_b true))] _ _
  refine am_Rq.if1F (show decode (am_by 135) 36 = .ok (.ifCond .eq 5, 3) by decide +kernel) (by decide) (rfl) ?_
  refine am_Rq.blk (is := [(.iconst 0, 1)]) (q := (40, [some (.ref 238), some (.int x), some (.int y), none, none, none, none, none], [.int (nI 0)])) (by decide +kernel) rfl ?_
  dsimp only
  refine am_Rq.ret (v := some (.int (nI 0))) (show decode (am_by 135) 40 = .ok (.ireturn, 1) by decide +kernel) rfl rfl ?_
  exact ⟨_, rfl, rfl, rfl⟩
theorem m_flip_no2 {th kn co : Nat} (hM : hp[238]? = some (7, [.int (nI th), .ref 239, .ref 240, .int (nI kn), .ref 241, .ref 242, .ref 243, .ref 244, .long (lN co), .ref 245])) {s : Nat → Nat} (hS : hp[239]? = some (100, am_ia (fun i => nI (s i)) 160)) {K : Nat} (ok : c_ok K (mt s)) (hK : K ≤ 900) {A : Nat} (hA : A ≤ 2000000000) {y : Int32} (hy : rg_r (nI 0) (nI 2000000000) y = false) : am_Rq (d + 8) 135 0 (am_en [.ref 238, .int (nI A), .int y] 8) [] hp (am_Ret fun hp1 v => hp1 = hp.set 238 (7, m_ob 1 kn co) ∧ v = some (.int (nI (0)))) := by
  show am_Rq _ 135 0 [some (.ref 238), some (.int (nI A)), some (.int y), none, none, none, none, none] [] _ _
  refine am_Rq.blk (is := [(.aload_n 0, 1), (.iload_n 1, 1), (.iconst 0, 1), (.ldc 138, 2)]) (q := (5, [some (.ref 238), some (.int (nI A)), some (.int y), none, none, none, none, none], [.int (nI 2000000000), .int (nI 0), .int (nI A), .ref 238])) (by decide +kernel) rfl ?_
  dsimp only
  refine am_Rq.callS (show decode (am_by 135) 5 = .ok (.invokestatic 39, 3) by decide +kernel) rfl [.int (nI A), .int (nI 0), .int (nI 2000000000)] [.ref 238] rfl rfl (Nat.le_of_ble_eq_true rfl) rfl rfl (m_in (nI A) (nI 0) (nI 2000000000)) ?_
  rintro hq _ ⟨e1, rfl⟩
  rw [e1]
  clear e1 hq
  show am_Rq _ 135 8 [some (.ref 238), some (.int (nI A)), some (.int y), none, none, none, none, none] [.int (nI (am_b (rg_r (nI 0) (nI 2000000000) (nI A)))), .ref 238] _ _
  refine am_Rq.if1F (show decode (am_by 135) 8 = .ok (.ifCond .eq 18, 3) by decide +kernel) (by decide) (by rw [am_b_eq, rg_le (by omega) hA (by omega)]; rfl) ?_
  refine am_Rq.blk (is := [(.iload_n 2, 1), (.iconst 0, 1), (.ldc 138, 2)]) (q := (15, [some (.ref 238), some (.int (nI A)), some (.int y), none, none, none, none, none], [.int (nI 2000000000), .int (nI 0), .int y, .ref 238])) (by decide +kernel) rfl ?_
  dsimp only
  refine am_Rq.callS (show decode (am_by 135) 15 = .ok (.invokestatic 39, 3) by decide +kernel) rfl [.int y, .int (nI 0), .int (nI 2000000000)] [.ref 238] rfl rfl (Nat.le_of_ble_eq_true rfl) rfl rfl (m_in (y) (nI 0) (nI 2000000000)) ?_
  rintro hq _ ⟨e1, rfl⟩
  rw [e1]
  clear e1 hq
  show am_Rq _ 135 18 [some (.ref 238), some (.int (nI A)), some (.int y), none, none, none, none, none] [.int (nI (am_b (rg_r (nI 0) (nI 2000000000) (y)))), .ref 238] _ _
  refine am_Rq.if1T (t := 26) (show decode (am_by 135) 18 = .ok (.ifCond .eq 8, 3) by decide +kernel) (by decide) (by rw [am_b_eq, hy]; rfl) ?_
  refine am_Rq.blk (is := [(.iconst 1, 1), (.goto 4, 3)]) (q := (31, [some (.ref 238), some (.int (nI A)), some (.int y), none, none, none, none, none], [.int (nI 1), .ref 238])) (by decide +kernel) rfl ?_
  dsimp only
  refine am_Rq.blk (is := [(.iconst 0, 1), (.iconst 0, 1)]) (q := (33, [some (.ref 238), some (.int (nI A)), some (.int y), none, none, none, none, none], [.int (nI 0), .int (nI 0), .int (nI 1), .ref 238])) (by decide +kernel) rfl ?_
  dsimp only
  refine am_Rq.callV (show decode (am_by 135) 33 = .ok (.invokevirtual 57, 3) by decide +kernel) rfl [.int (nI (am_b true)), .int (nI (am_b false)), .int (nI (am_b false))] [] rfl rfl (Nat.le_of_ble_eq_true rfl) rfl hM rfl (m_refused hM true false false) ?_
  rintro _ _ ⟨rfl, rfl⟩
  have hM1 := am_ss (c' := (7, m_ob 1 kn co)) hM
  have hS1 := (am_sn (c' := (7, m_ob 1 kn co)) (show 238 ≠ 239 by decide)).trans hS
  show am_Rq _ 135 36 [some (.ref 238), some (.int (nI A)), some (.int y), none, none, none, none, none] [.int (nI (am_b true))] _ _
  refine am_Rq.if1F (show decode (am_by 135) 36 = .ok (.ifCond .eq 5, 3) by decide +kernel) (by decide) (rfl) ?_
  refine am_Rq.blk (is := [(.iconst 0, 1)]) (q := (40, [some (.ref 238), some (.int (nI A)), some (.int y), none, none, none, none, none], [.int (nI 0)])) (by decide +kernel) rfl ?_
  dsimp only
  refine am_Rq.ret (v := some (.int (nI 0))) (show decode (am_by 135) 40 = .ok (.ireturn, 1) by decide +kernel) rfl rfl ?_
  exact ⟨_, rfl, rfl, rfl⟩
theorem m_flip_no3 {th kn co : Nat} (hM : hp[238]? = some (7, [.int (nI th), .ref 239, .ref 240, .int (nI kn), .ref 241, .ref 242, .ref 243, .ref 244, .long (lN co), .ref 245])) {s : Nat → Nat} (hS : hp[239]? = some (100, am_ia (fun i => nI (s i)) 160)) {K : Nat} (ok : c_ok K (mt s)) (hK : K ≤ 900) {A Z : Nat} (hA : A ≤ 2000000000) (hZ : Z ≤ 2000000000) (hge : Z ≤ A) : am_Rq (d + 8) 135 0 (am_en [.ref 238, .int (nI A), .int (nI Z)] 8) [] hp (am_Ret fun hp1 v => hp1 = hp.set 238 (7, m_ob 1 kn co) ∧ v = some (.int (nI (0)))) := by
  show am_Rq _ 135 0 [some (.ref 238), some (.int (nI A)), some (.int (nI Z)), none, none, none, none, none] [] _ _
  refine am_Rq.blk (is := [(.aload_n 0, 1), (.iload_n 1, 1), (.iconst 0, 1), (.ldc 138, 2)]) (q := (5, [some (.ref 238), some (.int (nI A)), some (.int (nI Z)), none, none, none, none, none], [.int (nI 2000000000), .int (nI 0), .int (nI A), .ref 238])) (by decide +kernel) rfl ?_
  dsimp only
  refine am_Rq.callS (show decode (am_by 135) 5 = .ok (.invokestatic 39, 3) by decide +kernel) rfl [.int (nI A), .int (nI 0), .int (nI 2000000000)] [.ref 238] rfl rfl (Nat.le_of_ble_eq_true rfl) rfl rfl (m_in (nI A) (nI 0) (nI 2000000000)) ?_
  rintro hq _ ⟨e1, rfl⟩
  rw [e1]
  clear e1 hq
  show am_Rq _ 135 8 [some (.ref 238), some (.int (nI A)), some (.int (nI Z)), none, none, none, none, none] [.int (nI (am_b (rg_r (nI 0) (nI 2000000000) (nI A)))), .ref 238] _ _
  refine am_Rq.if1F (show decode (am_by 135) 8 = .ok (.ifCond .eq 18, 3) by decide +kernel) (by decide) (by rw [am_b_eq, rg_le (by omega) hA (by omega)]; rfl) ?_
  refine am_Rq.blk (is := [(.iload_n 2, 1), (.iconst 0, 1), (.ldc 138, 2)]) (q := (15, [some (.ref 238), some (.int (nI A)), some (.int (nI Z)), none, none, none, none, none], [.int (nI 2000000000), .int (nI 0), .int (nI Z), .ref 238])) (by decide +kernel) rfl ?_
  dsimp only
  refine am_Rq.callS (show decode (am_by 135) 15 = .ok (.invokestatic 39, 3) by decide +kernel) rfl [.int (nI Z), .int (nI 0), .int (nI 2000000000)] [.ref 238] rfl rfl (Nat.le_of_ble_eq_true rfl) rfl rfl (m_in (nI Z) (nI 0) (nI 2000000000)) ?_
  rintro hq _ ⟨e1, rfl⟩
  rw [e1]
  clear e1 hq
  show am_Rq _ 135 18 [some (.ref 238), some (.int (nI A)), some (.int (nI Z)), none, none, none, none, none] [.int (nI (am_b (rg_r (nI 0) (nI 2000000000) (nI Z)))), .ref 238] _ _
  refine am_Rq.if1F (show decode (am_by 135) 18 = .ok (.ifCond .eq 8, 3) by decide +kernel) (by decide) (by rw [am_b_eq, rg_le (by omega) hZ (by omega)]; rfl) ?_
  refine am_Rq.blk (is := [(.iload_n 1, 1), (.iload_n 2, 1)]) (q := (23, [some (.ref 238), some (.int (nI A)), some (.int (nI Z)), none, none, none, none, none], [.int (nI Z), .int (nI A), .ref 238])) (by decide +kernel) rfl ?_
  dsimp only
  refine am_Rq.if2F (show decode (am_by 135) 23 = .ok (.if_icmp .lt 7, 3) by decide +kernel) (by decide) (by rw [nm_lt (by omega) (by omega)]; exact decide_eq_false (by omega)) ?_
  refine am_Rq.blk (is := [(.iconst 1, 1), (.goto 4, 3)]) (q := (31, [some (.ref 238), some (.int (nI A)), some (.int (nI Z)), none, none, none, none, none], [.int (nI 1), .ref 238])) (by decide +kernel) rfl ?_
  dsimp only
  refine am_Rq.blk (is := [(.iconst 0, 1), (.iconst 0, 1)]) (q := (33, [some (.ref 238), some (.int (nI A)), some (.int (nI Z)), none, none, none, none, none], [.int (nI 0), .int (nI 0), .int (nI 1), .ref 238])) (by decide +kernel) rfl ?_
  dsimp only
  refine am_Rq.callV (show decode (am_by 135) 33 = .ok (.invokevirtual 57, 3) by decide +kernel) rfl [.int (nI (am_b true)), .int (nI (am_b false)), .int (nI (am_b false))] [] rfl rfl (Nat.le_of_ble_eq_true rfl) rfl hM rfl (m_refused hM true false false) ?_
  rintro _ _ ⟨rfl, rfl⟩
  have hM1 := am_ss (c' := (7, m_ob 1 kn co)) hM
  have hS1 := (am_sn (c' := (7, m_ob 1 kn co)) (show 238 ≠ 239 by decide)).trans hS
  show am_Rq _ 135 36 [some (.ref 238), some (.int (nI A)), some (.int (nI Z)), none, none, none, none, none] [.int (nI (am_b true))] _ _
  refine am_Rq.if1F (show decode (am_by 135) 36 = .ok (.ifCond .eq 5, 3) by decide +kernel) (by decide) (rfl) ?_
  refine am_Rq.blk (is := [(.iconst 0, 1)]) (q := (40, [some (.ref 238), some (.int (nI A)), some (.int (nI Z)), none, none, none, none, none], [.int (nI 0)])) (by decide +kernel) rfl ?_
  dsimp only
  refine am_Rq.ret (v := some (.int (nI 0))) (show decode (am_by 135) 40 = .ok (.ireturn, 1) by decide +kernel) rfl rfl ?_
  exact ⟨_, rfl, rfl, rfl⟩
theorem m_flip1 {th kn co : Nat} (hM : hp[238]? = some (7, [.int (nI th), .ref 239, .ref 240, .int (nI kn), .ref 241, .ref 242, .ref 243, .ref 244, .long (lN co), .ref 245])) {s : Nat → Nat} (hS : hp[239]? = some (100, am_ia (fun i => nI (s i)) 160)) {K : Nat} (ok : c_ok K (mt s)) (hK : K ≤ 900) (hQ : m_Sl hp s th kn) {A Z : Nat} (hA : A ≤ 2000000000) (hZ : Z ≤ 2000000000) (hlt : A < Z) (hs : sl_set (mt s) Z = sl_set (mt s) A) : am_Rq (d + 8) 135 0 (am_en [.ref 238, .int (nI A), .int (nI Z)] 8) [] hp (am_Ret fun hp1 v => v = some (.int (am_ic (-1))) ∧ m_Sl hp1 s 0 kn ∧ am_fr (fun x => x = 238 ∨ x = 241 ∨ x = 242 ∨ x = 243 ∨ x = 244) hp hp1) := by
  show am_Rq _ 135 0 [some (.ref 238), some (.int (nI A)), some (.int (nI Z)), none, none, none, none, none] [] _ _
  refine am_Rq.blk (is := [(.aload_n 0, 1), (.iload_n 1, 1), (.iconst 0, 1), (.ldc 138, 2)]) (q := (5, [some (.ref 238), some (.int (nI A)), some (.int (nI Z)), none, none, none, none, none], [.int (nI 2000000000), .int (nI 0), .int (nI A), .ref 238])) (by decide +kernel) rfl ?_
  dsimp only
  refine am_Rq.callS (show decode (am_by 135) 5 = .ok (.invokestatic 39, 3) by decide +kernel) rfl [.int (nI A), .int (nI 0), .int (nI 2000000000)] [.ref 238] rfl rfl (Nat.le_of_ble_eq_true rfl) rfl rfl (m_in (nI A) (nI 0) (nI 2000000000)) ?_
  rintro hq _ ⟨e1, rfl⟩
  rw [e1]
  clear e1 hq
  show am_Rq _ 135 8 [some (.ref 238), some (.int (nI A)), some (.int (nI Z)), none, none, none, none, none] [.int (nI (am_b (rg_r (nI 0) (nI 2000000000) (nI A)))), .ref 238] _ _
  refine am_Rq.if1F (show decode (am_by 135) 8 = .ok (.ifCond .eq 18, 3) by decide +kernel) (by decide) (by rw [am_b_eq, rg_le (by omega) hA (by omega)]; rfl) ?_
  refine am_Rq.blk (is := [(.iload_n 2, 1), (.iconst 0, 1), (.ldc 138, 2)]) (q := (15, [some (.ref 238), some (.int (nI A)), some (.int (nI Z)), none, none, none, none, none], [.int (nI 2000000000), .int (nI 0), .int (nI Z), .ref 238])) (by decide +kernel) rfl ?_
  dsimp only
  refine am_Rq.callS (show decode (am_by 135) 15 = .ok (.invokestatic 39, 3) by decide +kernel) rfl [.int (nI Z), .int (nI 0), .int (nI 2000000000)] [.ref 238] rfl rfl (Nat.le_of_ble_eq_true rfl) rfl rfl (m_in (nI Z) (nI 0) (nI 2000000000)) ?_
  rintro hq _ ⟨e1, rfl⟩
  rw [e1]
  clear e1 hq
  show am_Rq _ 135 18 [some (.ref 238), some (.int (nI A)), some (.int (nI Z)), none, none, none, none, none] [.int (nI (am_b (rg_r (nI 0) (nI 2000000000) (nI Z)))), .ref 238] _ _
  refine am_Rq.if1F (show decode (am_by 135) 18 = .ok (.ifCond .eq 8, 3) by decide +kernel) (by decide) (by rw [am_b_eq, rg_le (by omega) hZ (by omega)]; rfl) ?_
  refine am_Rq.blk (is := [(.iload_n 1, 1), (.iload_n 2, 1)]) (q := (23, [some (.ref 238), some (.int (nI A)), some (.int (nI Z)), none, none, none, none, none], [.int (nI Z), .int (nI A), .ref 238])) (by decide +kernel) rfl ?_
  dsimp only
  refine am_Rq.if2T (t := 30) (show decode (am_by 135) 23 = .ok (.if_icmp .lt 7, 3) by decide +kernel) (by decide) (by rw [nm_lt (by omega) (by omega)]; exact decide_eq_true (by omega)) ?_
  refine am_Rq.blk (is := [(.iconst 0, 1), (.iconst 0, 1), (.iconst 0, 1)]) (q := (33, [some (.ref 238), some (.int (nI A)), some (.int (nI Z)), none, none, none, none, none], [.int (nI 0), .int (nI 0), .int (nI 0), .ref 238])) (by decide +kernel) rfl ?_
  dsimp only
  refine am_Rq.callV (show decode (am_by 135) 33 = .ok (.invokevirtual 57, 3) by decide +kernel) rfl [.int (nI (am_b false)), .int (nI (am_b false)), .int (nI (am_b false))] [] rfl rfl (Nat.le_of_ble_eq_true rfl) rfl hM rfl (m_refused hM false false false) ?_
  rintro _ _ ⟨rfl, rfl⟩
  have hM1 := am_ss (c' := (7, m_ob 0 kn co)) hM
  have hS1 := (am_sn (c' := (7, m_ob 0 kn co)) (show 238 ≠ 239 by decide)).trans hS
  show am_Rq _ 135 36 [some (.ref 238), some (.int (nI A)), some (.int (nI Z)), none, none, none, none, none] [.int (nI (am_b false))] _ _
  refine am_Rq.if1T (t := 41) (show decode (am_by 135) 36 = .ok (.ifCond .eq 5, 3) by decide +kernel) (by decide) (rfl) ?_
  have hQ1 := m_Sl.th (k := 0) hM hQ
  have hf0 := m_fr238 (c' := (7, m_ob 0 kn co)) hM rfl
  show am_Rq _ _ _ _ _ (List.set hp 238 (7, m_ob 0 kn co)) _
  generalize hze : (List.set hp 238 _ : am_H) = hz0 at hM1 hS1 hQ1 hf0 ⊢
  clear hze
  refine am_Rq.blk (is := [(.aload_n 0, 1), (.iload_n 1, 1)]) (q := (43, [some (.ref 238), some (.int (nI A)), some (.int (nI Z)), none, none, none, none, none], [.int (nI A), .ref 238])) (by decide +kernel) rfl ?_
  dsimp only
  refine am_Rq.callV (show decode (am_by 135) 43 = .ok (.invokevirtual 139, 3) by decide +kernel) rfl [.int (nI A)] [] rfl rfl (Nat.le_of_ble_eq_true rfl) rfl hM1 rfl (m_setOf (A := A) hQ1 ok hK hA) ?_
  rintro hp1 _ ⟨rfl, hQs1, hf1⟩
  show am_Rq _ 135 46 [some (.ref 238), some (.int (nI A)), some (.int (nI Z)), none, none, none, none, none] [.int (sl_v (sl_set (mt s) A))] _ _
  obtain ⟨⟨co1, hMc1⟩, -⟩ := id hQs1
  refine am_Rq.blk (is := [(.istore_n 3, 1), (.aload_n 0, 1), (.iload_n 2, 1)]) (q := (49, [some (.ref 238), some (.int (nI A)), some (.int (nI Z)), some (.int (sl_v (sl_set (mt s) A))), none, none, none, none], [.int (nI Z), .ref 238])) (by decide +kernel) rfl ?_
  dsimp only
  refine am_Rq.callV (show decode (am_by 135) 49 = .ok (.invokevirtual 139, 3) by decide +kernel) rfl [.int (nI Z)] [] rfl rfl (Nat.le_of_ble_eq_true rfl) rfl hMc1 rfl (m_setOf (A := Z) hQs1 ok hK hZ) ?_
  rintro hp2 _ ⟨rfl, hQs2, hf2⟩
  show am_Rq _ 135 52 [some (.ref 238), some (.int (nI A)), some (.int (nI Z)), some (.int (sl_v (sl_set (mt s) A))), none, none, none, none] [.int (sl_v (sl_set (mt s) Z))] _ _
  obtain ⟨⟨co2, hMc2⟩, -⟩ := id hQs2
  refine am_Rq.blk (is := [(.iload_n 3, 1)]) (q := (53, [some (.ref 238), some (.int (nI A)), some (.int (nI Z)), some (.int (sl_v (sl_set (mt s) A))), none, none, none, none], [.int (sl_v (sl_set (mt s) A)), .int (sl_v (sl_set (mt s) Z))])) (by decide +kernel) rfl ?_
  dsimp only
  refine am_Rq.if2F (show decode (am_by 135) 53 = .ok (.if_icmp .ne 5, 3) by decide +kernel) (by decide) (by rw [hs]; exact decide_eq_false (fun q => q rfl)) ?_
  refine am_Rq.blk (is := [(.iconst (-1), 1)]) (q := (57, [some (.ref 238), some (.int (nI A)), some (.int (nI Z)), some (.int (sl_v (sl_set (mt s) A))), none, none, none, none], [.int (am_ic (-1))])) (by decide +kernel) rfl ?_
  dsimp only
  refine am_Rq.ret (v := some (.int (am_ic (-1)))) (show decode (am_by 135) 57 = .ok (.ireturn, 1) by decide +kernel) rfl rfl ?_
  exact ⟨_, rfl, rfl, hQs2, ((hf0.trans (hf1.mono (A' := fun x => x = 238 ∨ x = 241 ∨ x = 242 ∨ x = 243 ∨ x = 244) (fun x q => by omega))).trans (hf2.mono (A' := fun x => x = 238 ∨ x = 241 ∨ x = 242 ∨ x = 243 ∨ x = 244) (fun x q => by omega)))⟩
theorem m_flip2 {th kn co : Nat} (hM : hp[238]? = some (7, [.int (nI th), .ref 239, .ref 240, .int (nI kn), .ref 241, .ref 242, .ref 243, .ref 244, .long (lN co), .ref 245])) {s : Nat → Nat} (hS : hp[239]? = some (100, am_ia (fun i => nI (s i)) 160)) {K : Nat} (ok : c_ok K (mt s)) (hK : K ≤ 900) (hQ : m_Sl hp s th kn) {A Z : Nat} (hA : A ≤ 2000000000) (hZ : Z ≤ 2000000000) (hlt : A < Z) (hs : sl_set (mt s) Z ≠ sl_set (mt s) A) : am_Rq (d + 8) 135 0 (am_en [.ref 238, .int (nI A), .int (nI Z)] 8) [] hp (am_Ret fun hp1 v => v = some (.int (nI (sl_fl (fun m => decide (sl_set (mt s) m = sl_set (mt s) A)) 64 A Z))) ∧ m_Sl hp1 s 0 kn ∧ am_fr (fun x => x = 238 ∨ x = 241 ∨ x = 242 ∨ x = 243 ∨ x = 244) hp hp1) := by
  show am_Rq _ 135 0 [some (.ref 238), some (.int (nI A)), some (.int (nI Z)), none, none, none, none, none] [] _ _
  refine am_Rq.blk (is := [(.aload_n 0, 1), (.iload_n 1, 1), (.iconst 0, 1), (.ldc 138, 2)]) (q := (5, [some (.ref 238), some (.int (nI A)), some (.int (nI Z)), none, none, none, none, none], [.int (nI 2000000000), .int (nI 0), .int (nI A), .ref 238])) (by decide +kernel) rfl ?_
  dsimp only
  refine am_Rq.callS (show decode (am_by 135) 5 = .ok (.invokestatic 39, 3) by decide +kernel) rfl [.int (nI A), .int (nI 0), .int (nI 2000000000)] [.ref 238] rfl rfl (Nat.le_of_ble_eq_true rfl) rfl rfl (m_in (nI A) (nI 0) (nI 2000000000)) ?_
  rintro hq _ ⟨e1, rfl⟩
  rw [e1]
  clear e1 hq
  show am_Rq _ 135 8 [some (.ref 238), some (.int (nI A)), some (.int (nI Z)), none, none, none, none, none] [.int (nI (am_b (rg_r (nI 0) (nI 2000000000) (nI A)))), .ref 238] _ _
  refine am_Rq.if1F (show decode (am_by 135) 8 = .ok (.ifCond .eq 18, 3) by decide +kernel) (by decide) (by rw [am_b_eq, rg_le (by omega) hA (by omega)]; rfl) ?_
  refine am_Rq.blk (is := [(.iload_n 2, 1), (.iconst 0, 1), (.ldc 138, 2)]) (q := (15, [some (.ref 238), some (.int (nI A)), some (.int (nI Z)), none, none, none, none, none], [.int (nI 2000000000), .int (nI 0), .int (nI Z), .ref 238])) (by decide +kernel) rfl ?_
  dsimp only
  refine am_Rq.callS (show decode (am_by 135) 15 = .ok (.invokestatic 39, 3) by decide +kernel) rfl [.int (nI Z), .int (nI 0), .int (nI 2000000000)] [.ref 238] rfl rfl (Nat.le_of_ble_eq_true rfl) rfl rfl (m_in (nI Z) (nI 0) (nI 2000000000)) ?_
  rintro hq _ ⟨e1, rfl⟩
  rw [e1]
  clear e1 hq
  show am_Rq _ 135 18 [some (.ref 238), some (.int (nI A)), some (.int (nI Z)), none, none, none, none, none] [.int (nI (am_b (rg_r (nI 0) (nI 2000000000) (nI Z)))), .ref 238] _ _
  refine am_Rq.if1F (show decode (am_by 135) 18 = .ok (.ifCond .eq 8, 3) by decide +kernel) (by decide) (by rw [am_b_eq, rg_le (by omega) hZ (by omega)]; rfl) ?_
  refine am_Rq.blk (is := [(.iload_n 1, 1), (.iload_n 2, 1)]) (q := (23, [some (.ref 238), some (.int (nI A)), some (.int (nI Z)), none, none, none, none, none], [.int (nI Z), .int (nI A), .ref 238])) (by decide +kernel) rfl ?_
  dsimp only
  refine am_Rq.if2T (t := 30) (show decode (am_by 135) 23 = .ok (.if_icmp .lt 7, 3) by decide +kernel) (by decide) (by rw [nm_lt (by omega) (by omega)]; exact decide_eq_true (by omega)) ?_
  refine am_Rq.blk (is := [(.iconst 0, 1), (.iconst 0, 1), (.iconst 0, 1)]) (q := (33, [some (.ref 238), some (.int (nI A)), some (.int (nI Z)), none, none, none, none, none], [.int (nI 0), .int (nI 0), .int (nI 0), .ref 238])) (by decide +kernel) rfl ?_
  dsimp only
  refine am_Rq.callV (show decode (am_by 135) 33 = .ok (.invokevirtual 57, 3) by decide +kernel) rfl [.int (nI (am_b false)), .int (nI (am_b false)), .int (nI (am_b false))] [] rfl rfl (Nat.le_of_ble_eq_true rfl) rfl hM rfl (m_refused hM false false false) ?_
  rintro _ _ ⟨rfl, rfl⟩
  have hM1 := am_ss (c' := (7, m_ob 0 kn co)) hM
  have hS1 := (am_sn (c' := (7, m_ob 0 kn co)) (show 238 ≠ 239 by decide)).trans hS
  show am_Rq _ 135 36 [some (.ref 238), some (.int (nI A)), some (.int (nI Z)), none, none, none, none, none] [.int (nI (am_b false))] _ _
  refine am_Rq.if1T (t := 41) (show decode (am_by 135) 36 = .ok (.ifCond .eq 5, 3) by decide +kernel) (by decide) (rfl) ?_
  have hQ1 := m_Sl.th (k := 0) hM hQ
  have hf0 := m_fr238 (c' := (7, m_ob 0 kn co)) hM rfl
  show am_Rq _ _ _ _ _ (List.set hp 238 (7, m_ob 0 kn co)) _
  generalize hze : (List.set hp 238 _ : am_H) = hz0 at hM1 hS1 hQ1 hf0 ⊢
  clear hze
  refine am_Rq.blk (is := [(.aload_n 0, 1), (.iload_n 1, 1)]) (q := (43, [some (.ref 238), some (.int (nI A)), some (.int (nI Z)), none, none, none, none, none], [.int (nI A), .ref 238])) (by decide +kernel) rfl ?_
  dsimp only
  refine am_Rq.callV (show decode (am_by 135) 43 = .ok (.invokevirtual 139, 3) by decide +kernel) rfl [.int (nI A)] [] rfl rfl (Nat.le_of_ble_eq_true rfl) rfl hM1 rfl (m_setOf (A := A) hQ1 ok hK hA) ?_
  rintro hp1 _ ⟨rfl, hQs1, hf1⟩
  show am_Rq _ 135 46 [some (.ref 238), some (.int (nI A)), some (.int (nI Z)), none, none, none, none, none] [.int (sl_v (sl_set (mt s) A))] _ _
  obtain ⟨⟨co1, hMc1⟩, -⟩ := id hQs1
  refine am_Rq.blk (is := [(.istore_n 3, 1), (.aload_n 0, 1), (.iload_n 2, 1)]) (q := (49, [some (.ref 238), some (.int (nI A)), some (.int (nI Z)), some (.int (sl_v (sl_set (mt s) A))), none, none, none, none], [.int (nI Z), .ref 238])) (by decide +kernel) rfl ?_
  dsimp only
  refine am_Rq.callV (show decode (am_by 135) 49 = .ok (.invokevirtual 139, 3) by decide +kernel) rfl [.int (nI Z)] [] rfl rfl (Nat.le_of_ble_eq_true rfl) rfl hMc1 rfl (m_setOf (A := Z) hQs1 ok hK hZ) ?_
  rintro hp2 _ ⟨rfl, hQs2, hf2⟩
  show am_Rq _ 135 52 [some (.ref 238), some (.int (nI A)), some (.int (nI Z)), some (.int (sl_v (sl_set (mt s) A))), none, none, none, none] [.int (sl_v (sl_set (mt s) Z))] _ _
  obtain ⟨⟨co2, hMc2⟩, -⟩ := id hQs2
  refine am_Rq.blk (is := [(.iload_n 3, 1)]) (q := (53, [some (.ref 238), some (.int (nI A)), some (.int (nI Z)), some (.int (sl_v (sl_set (mt s) A))), none, none, none, none], [.int (sl_v (sl_set (mt s) A)), .int (sl_v (sl_set (mt s) Z))])) (by decide +kernel) rfl ?_
  dsimp only
  refine am_Rq.if2T (t := 58) (show decode (am_by 135) 53 = .ok (.if_icmp .ne 5, 3) by decide +kernel) (by decide) (decide_eq_true (fun q => hs (sl_v_inj q))) ?_
  refine am_Rq.blk (is := [(.iload_n 1, 1), (.istore 4, 2), (.iload_n 2, 1), (.istore 5, 2)]) (q := (64, [some (.ref 238), some (.int (nI A)), some (.int (nI Z)), some (.int (sl_v (sl_set (mt s) A))), some (.int (nI A)), some (.int (nI Z)), none, none], [])) (by decide +kernel) rfl ?_
  dsimp only
  have hfT : am_fr (fun x => x = 238 ∨ x = 241 ∨ x = 242 ∨ x = 243 ∨ x = 244) hp _ := ((hf0.trans (hf1.mono (A' := fun x => x = 238 ∨ x = 241 ∨ x = 242 ∨ x = 243 ∨ x = 244) (fun x q => by omega))).trans (hf2.mono (A' := fun x => x = 238 ∨ x = 241 ∨ x = 242 ∨ x = 243 ∨ x = 244) (fun x q => by omega)))
  obtain ⟨hpp, hpe⟩ : ∃ x, x = hp := ⟨_, rfl⟩
  rw [← hpe] at hfT ⊢
  refine am_for (n := 31) (fun i lo hp => ∃ (z6 z7 : Option Value) (a b : Nat), lo = [some (.ref 238), some (.int (nI A)), some (.int (nI Z)), some (.int (sl_v (sl_set (mt s) A))), some (.int (nI a)), some (.int (nI b)), z6, z7] ∧ a ≤ b ∧ b ≤ 2000000000 ∧ b - a ≤ 2 ^ (31 - i) ∧ sl_fl (fun m => decide (sl_set (mt s) m = sl_set (mt s) A)) (64 - i) a b = sl_fl (fun m => decide (sl_set (mt s) m = sl_set (mt s) A)) 64 A Z ∧ m_Sl hp s 0 kn ∧ am_fr (fun x => x = 238 ∨ x = 241 ∨ x = 242 ∨ x = 243 ∨ x = 244) hpp hp) ?_ ?_ (i := 0) (by omega) ⟨_, _, A, Z, rfl, by omega, hZ, by omega, rfl, hQs2, hfT⟩
  · rintro i lo hp hi ⟨z6, z7, a, b, rfl, hab, hb9, hdi, hfl, hQ1, hfb⟩ ih
    refine am_Rq.blk (is := [(.iload 5, 2), (.iload 4, 2), (.isub, 1)]) (q := (69, [some (.ref 238), some (.int (nI A)), some (.int (nI Z)), some (.int (sl_v (sl_set (mt s) A))), some (.int (nI a)), some (.int (nI b)), z6, z7], [.int ((nI b) - (nI a))])) (by decide +kernel) rfl ?_
    dsimp only
    rw [show (nI b) - (nI a) = nI (b - a) from nm_isub (by omega)]
    refine am_Rq.blk (is := [(.iconst 1, 1)]) (q := (70, [some (.ref 238), some (.int (nI A)), some (.int (nI Z)), some (.int (sl_v (sl_set (mt s) A))), some (.int (nI a)), some (.int (nI b)), z6, z7], [.int (nI 1), .int (nI (b - a))])) (by decide +kernel) rfl ?_
    dsimp only
    refine am_Rq.if2 (t := 133) (show decode (am_by 135) 70 = .ok (.if_icmp .le 63, 3) by decide +kernel) (by decide) (fun hle => ?_) (fun hle => ?_)
    ·
      rw [nm_le (by omega) (by omega)] at hle
      have hle := of_decide_eq_true hle
      refine am_Rq.blk (is := [(.iload 5, 2)]) (q := (135, [some (.ref 238), some (.int (nI A)), some (.int (nI Z)), some (.int (sl_v (sl_set (mt s) A))), some (.int (nI a)), some (.int (nI b)), z6, z7], [.int (nI b)])) (by decide +kernel) rfl ?_
      dsimp only
      refine am_Rq.ret (v := some (.int (nI b))) (show decode (am_by 135) 135 = .ok (.ireturn, 1) by decide +kernel) rfl rfl ?_
      subst hpe
      rw [← hfl, sl_fl_end (by omega)]
      exact ⟨_, rfl, rfl, hQ1, hfb⟩
    ·
      rw [nm_le (by omega) (by omega)] at hle
      have hle := of_decide_eq_false hle
      refine am_Rq.blk (is := [(.iload 4, 2), (.iload 5, 2), (.iload 4, 2), (.isub, 1)]) (q := (80, [some (.ref 238), some (.int (nI A)), some (.int (nI Z)), some (.int (sl_v (sl_set (mt s) A))), some (.int (nI a)), some (.int (nI b)), z6, z7], [.int ((nI b) - (nI a)), .int (nI a)])) (by decide +kernel) rfl ?_
      dsimp only
      rw [show (nI b) - (nI a) = nI (b - a) from nm_isub (by omega)]
      refine am_Rq.blk (is := [(.iconst 2, 1)]) (q := (81, [some (.ref 238), some (.int (nI A)), some (.int (nI Z)), some (.int (sl_v (sl_set (mt s) A))), some (.int (nI a)), some (.int (nI b)), z6, z7], [.int (nI 2), .int (nI (b - a)), .int (nI a)])) (by decide +kernel) rfl ?_
      dsimp only
      refine am_Rq.idivN (a := b - a) (b := 2) (show decode (am_by 135) 81 = .ok (.idiv, 1) by decide +kernel) (by omega) (by omega) (by omega) ?_
      refine am_Rq.blk (is := [(.iadd, 1)]) (q := (83, [some (.ref 238), some (.int (nI A)), some (.int (nI Z)), some (.int (sl_v (sl_set (mt s) A))), some (.int (nI a)), some (.int (nI b)), z6, z7], [.int ((nI a) + (nI ((b - a) / 2)))])) (by decide +kernel) rfl ?_
      dsimp only
      rw [show (nI a) + (nI ((b - a) / 2)) = nI (a + ((b - a) / 2)) from nI_add _ _]
      refine am_Rq.blk (is := [(.istore 6, 2), (.aload_n 0, 1), (.iload 6, 2)]) (q := (88, [some (.ref 238), some (.int (nI A)), some (.int (nI Z)), some (.int (sl_v (sl_set (mt s) A))), some (.int (nI a)), some (.int (nI b)), some (.int (nI (a + ((b - a) / 2)))), z7], [.int (nI (a + ((b - a) / 2))), .ref 238])) (by decide +kernel) rfl ?_
      dsimp only
      have e1 : 64 - i = (64 - (i + 1)) + 1 := by omega
      rw [e1, sl_fl_step (n := 64 - (i + 1)) (a := a) (b := b), if_neg (by omega)] at hfl
      have e2 : 2 ^ (31 - i) = 2 ^ (31 - (i + 1)) * 2 := by rw [show 31 - i = (31 - (i + 1)) + 1 by omega, Nat.pow_succ]
      obtain ⟨⟨co9, hM9⟩, -⟩ := id hQ1
      refine am_Rq.callV (show decode (am_by 135) 88 = .ok (.invokevirtual 139, 3) by decide +kernel) rfl [.int (nI (a + ((b - a) / 2)))] [] rfl rfl (Nat.le_of_ble_eq_true rfl) rfl hM9 rfl (m_setOf (A := a + (b - a) / 2) hQ1 ok hK (by omega)) ?_
      rintro hp3 _ ⟨rfl, hQs3, hf3⟩
      show am_Rq _ 135 91 [some (.ref 238), some (.int (nI A)), some (.int (nI Z)), some (.int (sl_v (sl_set (mt s) A))), some (.int (nI a)), some (.int (nI b)), some (.int (nI (a + ((b - a) / 2)))), z7] [.int (sl_v (sl_set (mt s) (a + (b - a) / 2)))] _ _
      obtain ⟨⟨co3, hMc3⟩, -⟩ := id hQs3
      refine am_Rq.blk (is := [(.iload_n 3, 1)]) (q := (92, [some (.ref 238), some (.int (nI A)), some (.int (nI Z)), some (.int (sl_v (sl_set (mt s) A))), some (.int (nI a)), some (.int (nI b)), some (.int (nI (a + ((b - a) / 2)))), z7], [.int (sl_v (sl_set (mt s) A)), .int (sl_v (sl_set (mt s) (a + (b - a) / 2)))])) (by decide +kernel) rfl ?_
      dsimp only
      refine am_Rq.if2 (t := 99) (show decode (am_by 135) 92 = .ok (.if_icmp .ne 7, 3) by decide +kernel) (by decide) (fun hq => ?_) (fun hq => ?_)
      ·
        have hq := of_decide_eq_true hq
        rw [if_neg (by rw [decide_eq_true_eq]; exact fun z => hq (congrArg sl_v z))] at hfl
        refine am_Rq.blk (is := [(.iconst 0, 1), (.istore 7, 2), (.iload 7, 2)]) (q := (104, [some (.ref 238), some (.int (nI A)), some (.int (nI Z)), some (.int (sl_v (sl_set (mt s) A))), some (.int (nI a)), some (.int (nI b)), some (.int (nI (a + ((b - a) / 2)))), some (.int (nI 0))], [.int (nI 0)])) (by decide +kernel) rfl ?_
        dsimp only
        refine am_Rq.if1T (t := 112) (show decode (am_by 135) 104 = .ok (.ifCond .eq 8, 3) by decide +kernel) (by decide) (rfl) ?_
        refine am_Rq.blk (is := [(.iload 4, 2), (.istore 4, 2), (.iload 7, 2)]) (q := (118, [some (.ref 238), some (.int (nI A)), some (.int (nI Z)), some (.int (sl_v (sl_set (mt s) A))), some (.int (nI a)), some (.int (nI b)), some (.int (nI (a + ((b - a) / 2)))), some (.int (nI 0))], [.int (nI 0)])) (by decide +kernel) rfl ?_
        dsimp only
        refine am_Rq.if1T (t := 126) (show decode (am_by 135) 118 = .ok (.ifCond .eq 8, 3) by decide +kernel) (by decide) (rfl) ?_
        refine am_Rq.blk (is := [(.iload 6, 2), (.istore 5, 2), (.goto (-66), 3)]) (q := (64, [some (.ref 238), some (.int (nI A)), some (.int (nI Z)), some (.int (sl_v (sl_set (mt s) A))), some (.int (nI a)), some (.int (nI (a + ((b - a) / 2)))), some (.int (nI (a + ((b - a) / 2)))), some (.int (nI 0))], [])) (by decide +kernel) rfl ?_
        dsimp only
        exact ih _ _ ⟨_, _, a, a + (b - a) / 2, rfl, by omega, by omega, by omega, hfl, hQs3, (hfb.trans (hf3.mono (A' := fun x => x = 238 ∨ x = 241 ∨ x = 242 ∨ x = 243 ∨ x = 244) (fun x q => by omega)))⟩
      ·
        have hq := Decidable.of_not_not (of_decide_eq_false hq)
        rw [if_pos (decide_eq_true (sl_v_inj hq))] at hfl
        refine am_Rq.blk (is := [(.iconst 1, 1), (.goto 4, 3)]) (q := (100, [some (.ref 238), some (.int (nI A)), some (.int (nI Z)), some (.int (sl_v (sl_set (mt s) A))), some (.int (nI a)), some (.int (nI b)), some (.int (nI (a + ((b - a) / 2)))), z7], [.int (nI 1)])) (by decide +kernel) rfl ?_
        dsimp only
        refine am_Rq.blk (is := [(.istore 7, 2), (.iload 7, 2)]) (q := (104, [some (.ref 238), some (.int (nI A)), some (.int (nI Z)), some (.int (sl_v (sl_set (mt s) A))), some (.int (nI a)), some (.int (nI b)), some (.int (nI (a + ((b - a) / 2)))), some (.int (nI 1))], [.int (nI 1)])) (by decide +kernel) rfl ?_
        dsimp only
        refine am_Rq.if1F (show decode (am_by 135) 104 = .ok (.ifCond .eq 8, 3) by decide +kernel) (by decide) (rfl) ?_
        refine am_Rq.blk (is := [(.iload 6, 2), (.goto 5, 3)]) (q := (114, [some (.ref 238), some (.int (nI A)), some (.int (nI Z)), some (.int (sl_v (sl_set (mt s) A))), some (.int (nI a)), some (.int (nI b)), some (.int (nI (a + ((b - a) / 2)))), some (.int (nI 1))], [.int (nI (a + ((b - a) / 2)))])) (by decide +kernel) rfl ?_
        dsimp only
        refine am_Rq.blk (is := [(.istore 4, 2), (.iload 7, 2)]) (q := (118, [some (.ref 238), some (.int (nI A)), some (.int (nI Z)), some (.int (sl_v (sl_set (mt s) A))), some (.int (nI (a + ((b - a) / 2)))), some (.int (nI b)), some (.int (nI (a + ((b - a) / 2)))), some (.int (nI 1))], [.int (nI 1)])) (by decide +kernel) rfl ?_
        dsimp only
        refine am_Rq.if1F (show decode (am_by 135) 118 = .ok (.ifCond .eq 8, 3) by decide +kernel) (by decide) (rfl) ?_
        refine am_Rq.blk (is := [(.iload 5, 2), (.goto 5, 3)]) (q := (128, [some (.ref 238), some (.int (nI A)), some (.int (nI Z)), some (.int (sl_v (sl_set (mt s) A))), some (.int (nI (a + ((b - a) / 2)))), some (.int (nI b)), some (.int (nI (a + ((b - a) / 2)))), some (.int (nI 1))], [.int (nI b)])) (by decide +kernel) rfl ?_
        dsimp only
        refine am_Rq.blk (is := [(.istore 5, 2), (.goto (-66), 3)]) (q := (64, [some (.ref 238), some (.int (nI A)), some (.int (nI Z)), some (.int (sl_v (sl_set (mt s) A))), some (.int (nI (a + ((b - a) / 2)))), some (.int (nI b)), some (.int (nI (a + ((b - a) / 2)))), some (.int (nI 1))], [])) (by decide +kernel) rfl ?_
        dsimp only
        exact ih _ _ ⟨_, _, a + (b - a) / 2, b, rfl, by omega, by omega, by omega, hfl, hQs3, (hfb.trans (hf3.mono (A' := fun x => x = 238 ∨ x = 241 ∨ x = 242 ∨ x = 243 ∨ x = 244) (fun x q => by omega)))⟩
  · rintro lo hp ⟨z6, z7, a, b, rfl, hab, hb9, hdi, hfl, hQ1, hfb⟩
    have hdi : b - a ≤ 1 := hdi
    refine am_Rq.blk (is := [(.iload 5, 2), (.iload 4, 2), (.isub, 1)]) (q := (69, [some (.ref 238), some (.int (nI A)), some (.int (nI Z)), some (.int (sl_v (sl_set (mt s) A))), some (.int (nI a)), some (.int (nI b)), z6, z7], [.int ((nI b) - (nI a))])) (by decide +kernel) rfl ?_
    dsimp only
    rw [show (nI b) - (nI a) = nI (b - a) from nm_isub (by omega)]
    refine am_Rq.blk (is := [(.iconst 1, 1)]) (q := (70, [some (.ref 238), some (.int (nI A)), some (.int (nI Z)), some (.int (sl_v (sl_set (mt s) A))), some (.int (nI a)), some (.int (nI b)), z6, z7], [.int (nI 1), .int (nI (b - a))])) (by decide +kernel) rfl ?_
    dsimp only
    refine am_Rq.if2T (t := 133) (show decode (am_by 135) 70 = .ok (.if_icmp .le 63, 3) by decide +kernel) (by decide) (by rw [nm_le (by omega) (by omega)]; exact decide_eq_true (by omega)) ?_
    refine am_Rq.blk (is := [(.iload 5, 2)]) (q := (135, [some (.ref 238), some (.int (nI A)), some (.int (nI Z)), some (.int (sl_v (sl_set (mt s) A))), some (.int (nI a)), some (.int (nI b)), z6, z7], [.int (nI b)])) (by decide +kernel) rfl ?_
    dsimp only
    refine am_Rq.ret (v := some (.int (nI b))) (show decode (am_by 135) 135 = .ok (.ireturn, 1) by decide +kernel) rfl rfl ?_
    subst hpe
    rw [← hfl, sl_fl_end (by omega)]
    exact ⟨_, rfl, rfl, hQ1, hfb⟩
end M20
