/-! The law: the cases of its switch (rows by prog/law2.py). -/
/-- where the law stands before its n-th call -/
def l_St (L : Nat) (xs : Nat → Int32) (hp : am_H) (n : Nat) : Prop := ∃ (s : Nat → Nat) (f : Nat → Int32) (kn nx : Nat) (ks hs : Nat → Nat → Nat) (th : Nat), hp[0]? = some (100, am_ia xs L) ∧ CS hp (mt s) nx kn ks ∧ MS hp s f kn th ∧ (∃ o : Nat → Int64, hp[246]? = some (101, am_la o 1)) ∧ RL n s f kn nx ks hs ∧ 247 ≤ hp.length ∧ hp.length ≤ 247 + n ∧ am_tot hp ≤ L + 16 + 3257 + 6 * n
theorem am_Rq.tsw {d j pc len t : Nat} {lo : am_L} {st : List Value} {hp : am_H} {Q : am_H → am_R → Prop} {dflt low high : Int} {offs : Array Int} {x : Int32} (hd : decode (am_by j) pc = .ok (.tableswitch dflt low high offs, len)) (hl : am_lk (.tableswitch dflt low high offs) len = true) (hj : ∀ (lo : am_L) (st : List Value), am_jp (.tableswitch dflt low high offs) pc len lo (.int x :: st) = some (t, lo, st)) (kk : am_Rq d j t lo st hp Q) : am_Rq d j pc lo (.int x :: st) hp Q :=
  am_Rq.nx hd hl rfl rfl rfl (q := (t, lo, st, hp)) (by simp only [am_nx, am_pl, hj]) kk
theorem c_exT (hp : am_H) (k : Nat) : am_tot (hp ++ [c_ex k]) = am_tot hp + 6 := by
  rw [am_tot_app]
  simp [c_ex]
section L963
theorem l_preferred {L n : Nat} {xs : Nat → Int32} (hL : L ≤ 3584) (hn : 7 * n + 7 ≤ L) {hp : am_H} (h : l_St L xs hp n) {Q : am_H → am_R → Prop} (ih : ∀ hp1 z5 z6, l_St L xs hp1 (n + 1) → am_Rq 9 0 23 [some (.ref 0), some (.ref 2), some (.ref 238), some (.ref 246), some (.int (nI (7 * (n + 1)))), z5, z6] [] hp1 Q) {z5 z6 : Option Value} : am_Rq 9 0 136 [some (.ref 0), some (.ref 2), some (.ref 238), some (.ref 246), some (.int (nI (7 * n))), z5, z6] [] hp Q := by
  obtain ⟨s, f, kn, nx, ks, hs, th, h0, hC, hM, ⟨ou, hU⟩, hR, l1, l2, l3⟩ := h
  have hp9 := p_preferred hR (by omega) (xs (7 * n + 1)) (xs (7 * n + 2)) (xs (7 * n + 3)) (xs (7 * n + 4)) (xs (7 * n + 5)) (xs (7 * n + 6))
  rcases hp9 with ⟨v, s1, kn1, nx1, ks1, hc, hm⟩ | ⟨k, c, hin, hc, hm⟩
  ·
    refine am_Rq.blk (is := [(.aload_n 1, 1), (.aload_n 0, 1), (.iload 4, 2), (.iconst 1, 1), (.iadd, 1)]) (q := (142, [some (.ref 0), some (.ref 2), some (.ref 238), some (.ref 246), some (.int (nI (7 * n))), z5, z6], [.int ((nI (7 * n)) + (nI 1)), .ref 0, .ref 2])) (by decide +kernel) rfl ?_
    dsimp only
    rw [show (nI (7 * n)) + (nI 1) = nI ((7 * n) + 1) from nI_add _ _]
    refine am_Rq.ial (k := (7 * n) + 1) (show decode (am_by 0) 142 = .ok (.iaload, 1) by decide +kernel) h0 (by omega) (by omega) ?_
    refine am_Rq.blk (is := [(.aload_n 0, 1), (.iload 4, 2), (.iconst 2, 1), (.iadd, 1)]) (q := (148, [some (.ref 0), some (.ref 2), some (.ref 238), some (.ref 246), some (.int (nI (7 * n))), z5, z6], [.int ((nI (7 * n)) + (nI 2)), .ref 0, .int (xs ((7 * n) + 1)), .ref 2])) (by decide +kernel) rfl ?_
    dsimp only
    rw [show (nI (7 * n)) + (nI 2) = nI ((7 * n) + 2) from nI_add _ _]
    refine am_Rq.ial (k := (7 * n) + 2) (show decode (am_by 0) 148 = .ok (.iaload, 1) by decide +kernel) h0 (by omega) (by omega) ?_
    refine am_Rq.blk (is := [(.aload_n 0, 1), (.iload 4, 2), (.iconst 3, 1), (.iadd, 1)]) (q := (154, [some (.ref 0), some (.ref 2), some (.ref 238), some (.ref 246), some (.int (nI (7 * n))), z5, z6], [.int ((nI (7 * n)) + (nI 3)), .ref 0, .int (xs ((7 * n) + 2)), .int (xs ((7 * n) + 1)), .ref 2])) (by decide +kernel) rfl ?_
    dsimp only
    rw [show (nI (7 * n)) + (nI 3) = nI ((7 * n) + 3) from nI_add _ _]
    refine am_Rq.ial (k := (7 * n) + 3) (show decode (am_by 0) 154 = .ok (.iaload, 1) by decide +kernel) h0 (by omega) (by omega) ?_
    refine am_Rq.blk (is := [(.aload_n 0, 1), (.iload 4, 2), (.iconst 4, 1), (.iadd, 1)]) (q := (160, [some (.ref 0), some (.ref 2), some (.ref 238), some (.ref 246), some (.int (nI (7 * n))), z5, z6], [.int ((nI (7 * n)) + (nI 4)), .ref 0, .int (xs ((7 * n) + 3)), .int (xs ((7 * n) + 2)), .int (xs ((7 * n) + 1)), .ref 2])) (by decide +kernel) rfl ?_
    dsimp only
    rw [show (nI (7 * n)) + (nI 4) = nI ((7 * n) + 4) from nI_add _ _]
    refine am_Rq.ial (k := (7 * n) + 4) (show decode (am_by 0) 160 = .ok (.iaload, 1) by decide +kernel) h0 (by omega) (by omega) ?_
    refine am_Rq.blk (is := [(.aload_n 0, 1), (.iload 4, 2), (.iconst 5, 1), (.iadd, 1)]) (q := (166, [some (.ref 0), some (.ref 2), some (.ref 238), some (.ref 246), some (.int (nI (7 * n))), z5, z6], [.int ((nI (7 * n)) + (nI 5)), .ref 0, .int (xs ((7 * n) + 4)), .int (xs ((7 * n) + 3)), .int (xs ((7 * n) + 2)), .int (xs ((7 * n) + 1)), .ref 2])) (by decide +kernel) rfl ?_
    dsimp only
    rw [show (nI (7 * n)) + (nI 5) = nI ((7 * n) + 5) from nI_add _ _]
    refine am_Rq.ial (k := (7 * n) + 5) (show decode (am_by 0) 166 = .ok (.iaload, 1) by decide +kernel) h0 (by omega) (by omega) ?_
    refine am_Rq.blk (is := [(.aload_n 0, 1), (.iload 4, 2), (.bipush 6, 2), (.iadd, 1)]) (q := (173, [some (.ref 0), some (.ref 2), some (.ref 238), some (.ref 246), some (.int (nI (7 * n))), z5, z6], [.int ((nI (7 * n)) + (nI 6)), .ref 0, .int (xs ((7 * n) + 5)), .int (xs ((7 * n) + 4)), .int (xs ((7 * n) + 3)), .int (xs ((7 * n) + 2)), .int (xs ((7 * n) + 1)), .ref 2])) (by decide +kernel) rfl ?_
    dsimp only
    rw [show (nI (7 * n)) + (nI 6) = nI ((7 * n) + 6) from nI_add _ _]
    refine am_Rq.ial (k := (7 * n) + 6) (show decode (am_by 0) 173 = .ok (.iaload, 1) by decide +kernel) h0 (by omega) (by omega) ?_
    refine am_Rq.blk (is := [(.aload_n 3, 1)]) (q := (175, [some (.ref 0), some (.ref 2), some (.ref 238), some (.ref 246), some (.int (nI (7 * n))), z5, z6], [.ref 246, .int (xs ((7 * n) + 6)), .int (xs ((7 * n) + 5)), .int (xs ((7 * n) + 4)), .int (xs ((7 * n) + 3)), .int (xs ((7 * n) + 2)), .int (xs ((7 * n) + 1)), .ref 2])) (by decide +kernel) rfl ?_
    dsimp only
    refine am_Rq.callS (show decode (am_by 0) 175 = .ok (.invokestatic 79, 3) by decide +kernel) rfl [.ref 2, .int (xs ((7 * n) + 1)), .int (xs ((7 * n) + 2)), .int (xs ((7 * n) + 3)), .int (xs ((7 * n) + 4)), .int (xs ((7 * n) + 5)), .int (xs ((7 * n) + 6)), .ref 246] [] rfl rfl (Nat.le_of_ble_eq_true rfl) rfl rfl (w_preferred hC hU hc) ?_
    rintro hp1 _ ⟨rfl, hC1, hU1, hf1⟩
    have h01 := (hf1.2.2 0 (fun q => by omega)).trans h0
    have hM1 := hM.kept (fun a a1 a2 => hf1.2.2 a (fun q => by omega))
    have hM0 := hM1
    obtain ⟨⟨⟨co1, hO1⟩, -⟩, -⟩ := hM0
    show am_Rq _ 0 178 [some (.ref 0), some (.ref 2), some (.ref 238), some (.ref 246), some (.int (nI (7 * n))), z5, z6] [.int (nI 0)] _ _
    refine am_Rq.blk (is := [(.istore 5, 2), (.aload_n 2, 1), (.aload_n 0, 1), (.iload 4, 2), (.iconst 1, 1), (.iadd, 1)]) (q := (186, [some (.ref 0), some (.ref 2), some (.ref 238), some (.ref 246), some (.int (nI (7 * n))), some (.int (nI 0)), z6], [.int ((nI (7 * n)) + (nI 1)), .ref 0, .ref 238])) (by decide +kernel) rfl ?_
    dsimp only
    rw [show (nI (7 * n)) + (nI 1) = nI ((7 * n) + 1) from nI_add _ _]
    refine am_Rq.ial (k := (7 * n) + 1) (show decode (am_by 0) 186 = .ok (.iaload, 1) by decide +kernel) h01 (by omega) (by omega) ?_
    refine am_Rq.blk (is := [(.aload_n 0, 1), (.iload 4, 2), (.iconst 2, 1), (.iadd, 1)]) (q := (192, [some (.ref 0), some (.ref 2), some (.ref 238), some (.ref 246), some (.int (nI (7 * n))), some (.int (nI 0)), z6], [.int ((nI (7 * n)) + (nI 2)), .ref 0, .int (xs ((7 * n) + 1)), .ref 238])) (by decide +kernel) rfl ?_
    dsimp only
    rw [show (nI (7 * n)) + (nI 2) = nI ((7 * n) + 2) from nI_add _ _]
    refine am_Rq.ial (k := (7 * n) + 2) (show decode (am_by 0) 192 = .ok (.iaload, 1) by decide +kernel) h01 (by omega) (by omega) ?_
    refine am_Rq.blk (is := [(.aload_n 0, 1), (.iload 4, 2), (.iconst 3, 1), (.iadd, 1)]) (q := (198, [some (.ref 0), some (.ref 2), some (.ref 238), some (.ref 246), some (.int (nI (7 * n))), some (.int (nI 0)), z6], [.int ((nI (7 * n)) + (nI 3)), .ref 0, .int (xs ((7 * n) + 2)), .int (xs ((7 * n) + 1)), .ref 238])) (by decide +kernel) rfl ?_
    dsimp only
    rw [show (nI (7 * n)) + (nI 3) = nI ((7 * n) + 3) from nI_add _ _]
    refine am_Rq.ial (k := (7 * n) + 3) (show decode (am_by 0) 198 = .ok (.iaload, 1) by decide +kernel) h01 (by omega) (by omega) ?_
    refine am_Rq.blk (is := [(.aload_n 0, 1), (.iload 4, 2), (.iconst 4, 1), (.iadd, 1)]) (q := (204, [some (.ref 0), some (.ref 2), some (.ref 238), some (.ref 246), some (.int (nI (7 * n))), some (.int (nI 0)), z6], [.int ((nI (7 * n)) + (nI 4)), .ref 0, .int (xs ((7 * n) + 3)), .int (xs ((7 * n) + 2)), .int (xs ((7 * n) + 1)), .ref 238])) (by decide +kernel) rfl ?_
    dsimp only
    rw [show (nI (7 * n)) + (nI 4) = nI ((7 * n) + 4) from nI_add _ _]
    refine am_Rq.ial (k := (7 * n) + 4) (show decode (am_by 0) 204 = .ok (.iaload, 1) by decide +kernel) h01 (by omega) (by omega) ?_
    refine am_Rq.blk (is := [(.aload_n 0, 1), (.iload 4, 2), (.iconst 5, 1), (.iadd, 1)]) (q := (210, [some (.ref 0), some (.ref 2), some (.ref 238), some (.ref 246), some (.int (nI (7 * n))), some (.int (nI 0)), z6], [.int ((nI (7 * n)) + (nI 5)), .ref 0, .int (xs ((7 * n) + 4)), .int (xs ((7 * n) + 3)), .int (xs ((7 * n) + 2)), .int (xs ((7 * n) + 1)), .ref 238])) (by decide +kernel) rfl ?_
    dsimp only
    rw [show (nI (7 * n)) + (nI 5) = nI ((7 * n) + 5) from nI_add _ _]
    refine am_Rq.ial (k := (7 * n) + 5) (show decode (am_by 0) 210 = .ok (.iaload, 1) by decide +kernel) h01 (by omega) (by omega) ?_
    refine am_Rq.blk (is := [(.aload_n 0, 1), (.iload 4, 2), (.bipush 6, 2), (.iadd, 1)]) (q := (217, [some (.ref 0), some (.ref 2), some (.ref 238), some (.ref 246), some (.int (nI (7 * n))), some (.int (nI 0)), z6], [.int ((nI (7 * n)) + (nI 6)), .ref 0, .int (xs ((7 * n) + 5)), .int (xs ((7 * n) + 4)), .int (xs ((7 * n) + 3)), .int (xs ((7 * n) + 2)), .int (xs ((7 * n) + 1)), .ref 238])) (by decide +kernel) rfl ?_
    dsimp only
    rw [show (nI (7 * n)) + (nI 6) = nI ((7 * n) + 6) from nI_add _ _]
    refine am_Rq.ial (k := (7 * n) + 6) (show decode (am_by 0) 217 = .ok (.iaload, 1) by decide +kernel) h01 (by omega) (by omega) ?_
    refine am_Rq.callV (show decode (am_by 0) 218 = .ok (.invokevirtual 84, 3) by decide +kernel) rfl [.int (xs ((7 * n) + 1)), .int (xs ((7 * n) + 2)), .int (xs ((7 * n) + 3)), .int (xs ((7 * n) + 4)), .int (xs ((7 * n) + 5)), .int (xs ((7 * n) + 6))] [] rfl rfl (Nat.le_of_ble_eq_true rfl) rfl hO1 rfl (hm hp1 th hM1) ?_
    rintro hp2 _ ⟨rfl, ⟨f2, hM2, hs2, hR2⟩, hf2⟩
    have h02 := (hf2.2.2 0 (fun q => by omega)).trans h01
    have hU2 := (hf2.2.2 246 (fun q => by omega)).trans hU1
    have hC2 := hC1.kept (fun a a1 a2 => hf2.2.2 a (fun q => by omega))
    show am_Rq _ 0 221 [some (.ref 0), some (.ref 2), some (.ref 238), some (.ref 246), some (.int (nI (7 * n))), some (.int (nI 0)), z6] [.int v] _ _
    refine am_Rq.blk (is := [(.istore 6, 2), (.aload_n 2, 1)]) (q := (224, [some (.ref 0), some (.ref 2), some (.ref 238), some (.ref 246), some (.int (nI (7 * n))), some (.int (nI 0)), some (.int v)], [.ref 238])) (by decide +kernel) rfl ?_
    dsimp only
    have hM3 := hM2
    obtain ⟨⟨⟨co2, hO2⟩, hS2, -⟩, -⟩ := hM3
    refine am_Rq.callV (show decode (am_by 0) 224 = .ok (.invokevirtual 85, 3) by decide +kernel) rfl [] [] rfl rfl (Nat.le_of_ble_eq_true rfl) rfl hO2 rfl (m_thrown (d := 8) hO2 hS2) ?_
    rintro hq _ ⟨e1, rfl⟩
    rw [e1]
    clear e1 hq
    show am_Rq _ 0 227 [some (.ref 0), some (.ref 2), some (.ref 238), some (.ref 246), some (.int (nI (7 * n))), some (.int (nI 0)), some (.int v)] [.int (nI 0)] _ _
    refine am_Rq.blk (is := [(.iload 5, 2)]) (q := (229, [some (.ref 0), some (.ref 2), some (.ref 238), some (.ref 246), some (.int (nI (7 * n))), some (.int (nI 0)), some (.int v)], [.int (nI 0), .int (nI 0)])) (by decide +kernel) rfl ?_
    dsimp only
    refine am_Rq.if2T (t := 234) (show decode (am_by 0) 229 = .ok (.if_icmp .eq 5, 3) by decide +kernel) (by decide) (rfl) ?_
    refine am_Rq.blk (is := [(.iload 5, 2)]) (q := (236, [some (.ref 0), some (.ref 2), some (.ref 238), some (.ref 246), some (.int (nI (7 * n))), some (.int (nI 0)), some (.int v)], [.int (nI 0)])) (by decide +kernel) rfl ?_
    dsimp only
    refine am_Rq.if1F (show decode (am_by 0) 236 = .ok (.ifCond .ne 15, 3) by decide +kernel) (by decide) (rfl) ?_
    refine am_Rq.blk (is := [(.aload_n 3, 1), (.iconst 0, 1)]) (q := (241, [some (.ref 0), some (.ref 2), some (.ref 238), some (.ref 246), some (.int (nI (7 * n))), some (.int (nI 0)), some (.int v)], [.int (nI 0), .ref 246])) (by decide +kernel) rfl ?_
    dsimp only
    refine am_Rq.lal (k := 0) (show decode (am_by 0) 241 = .ok (.laload, 1) by decide +kernel) hU2 (by omega) (by omega) ?_
    refine am_Rq.blk (is := [(.iload 6, 2)]) (q := (244, [some (.ref 0), some (.ref 2), some (.ref 238), some (.ref 246), some (.int (nI (7 * n))), some (.int (nI 0)), some (.int v)], [.int v, .long ((va_up ou 0 v.toInt64) 0)])) (by decide +kernel) rfl ?_
    dsimp only
    rw [va_up_self]
    refine am_Rq.blk (is := [(.i2l, 1), (.lcmp, 1)]) (q := (246, [some (.ref 0), some (.ref 2), some (.ref 238), some (.ref 246), some (.int (nI (7 * n))), some (.int (nI 0)), some (.int v)], [.int (lg_cmp v.toInt64 v.toInt64)])) (by decide +kernel) rfl ?_
    dsimp only
    refine am_Rq.if1T (t := 251) (show decode (am_by 0) 246 = .ok (.ifCond .eq 5, 3) by decide +kernel) (by decide) (by rw [nm_ceq]; exact decide_eq_true rfl) ?_
    refine am_Rq.blk (is := [(.goto 1173, 3)]) (q := (1424, [some (.ref 0), some (.ref 2), some (.ref 238), some (.ref 246), some (.int (nI (7 * n))), some (.int (nI 0)), some (.int v)], [])) (by decide +kernel) rfl ?_
    dsimp only
    refine am_Rq.blk (is := [(.iinc 4 7, 3)]) (q := (1427, [some (.ref 0), some (.ref 2), some (.ref 238), some (.ref 246), some (.int ((nI (7 * n)) + (nI 7))), some (.int (nI 0)), some (.int v)], [])) (by decide +kernel) rfl ?_
    dsimp only
    rw [show (nI (7 * n)) + (nI 7) = nI ((7 * n) + 7) from nI_add _ _]
    refine am_Rq.blk (is := [(.goto (-1404), 3)]) (q := (23, [some (.ref 0), some (.ref 2), some (.ref 238), some (.ref 246), some (.int (nI ((7 * n) + 7))), some (.int (nI 0)), some (.int v)], [])) (by decide +kernel) rfl ?_
    dsimp only
    rw [show 7 * n + 7 = 7 * (n + 1) by omega]
    exact ih _ _ _ ⟨s1, f2, kn1, nx1, ks1, hs2, 0, h02, hC2, hM2, ⟨_, hU2⟩, hR2, by rw [hf2.1, hf1.1]; omega, by rw [hf2.1, hf1.1]; omega, by rw [hf2.2.1, hf1.2.1]; omega⟩
  ·
    simp only [List.mem_cons, Prod.mk.injEq, List.not_mem_nil, or_false] at hin
    rcases hin with ⟨rfl, rfl⟩ | ⟨rfl, rfl⟩
    ·
      refine am_Rq.blk (is := [(.aload_n 1, 1), (.aload_n 0, 1), (.iload 4, 2), (.iconst 1, 1), (.iadd, 1)]) (q := (142, [some (.ref 0), some (.ref 2), some (.ref 238), some (.ref 246), some (.int (nI (7 * n))), z5, z6], [.int ((nI (7 * n)) + (nI 1)), .ref 0, .ref 2])) (by decide +kernel) rfl ?_
      dsimp only
      rw [show (nI (7 * n)) + (nI 1) = nI ((7 * n) + 1) from nI_add _ _]
      refine am_Rq.ial (k := (7 * n) + 1) (show decode (am_by 0) 142 = .ok (.iaload, 1) by decide +kernel) h0 (by omega) (by omega) ?_
      refine am_Rq.blk (is := [(.aload_n 0, 1), (.iload 4, 2), (.iconst 2, 1), (.iadd, 1)]) (q := (148, [some (.ref 0), some (.ref 2), some (.ref 238), some (.ref 246), some (.int (nI (7 * n))), z5, z6], [.int ((nI (7 * n)) + (nI 2)), .ref 0, .int (xs ((7 * n) + 1)), .ref 2])) (by decide +kernel) rfl ?_
      dsimp only
      rw [show (nI (7 * n)) + (nI 2) = nI ((7 * n) + 2) from nI_add _ _]
      refine am_Rq.ial (k := (7 * n) + 2) (show decode (am_by 0) 148 = .ok (.iaload, 1) by decide +kernel) h0 (by omega) (by omega) ?_
      refine am_Rq.blk (is := [(.aload_n 0, 1), (.iload 4, 2), (.iconst 3, 1), (.iadd, 1)]) (q := (154, [some (.ref 0), some (.ref 2), some (.ref 238), some (.ref 246), some (.int (nI (7 * n))), z5, z6], [.int ((nI (7 * n)) + (nI 3)), .ref 0, .int (xs ((7 * n) + 2)), .int (xs ((7 * n) + 1)), .ref 2])) (by decide +kernel) rfl ?_
      dsimp only
      rw [show (nI (7 * n)) + (nI 3) = nI ((7 * n) + 3) from nI_add _ _]
      refine am_Rq.ial (k := (7 * n) + 3) (show decode (am_by 0) 154 = .ok (.iaload, 1) by decide +kernel) h0 (by omega) (by omega) ?_
      refine am_Rq.blk (is := [(.aload_n 0, 1), (.iload 4, 2), (.iconst 4, 1), (.iadd, 1)]) (q := (160, [some (.ref 0), some (.ref 2), some (.ref 238), some (.ref 246), some (.int (nI (7 * n))), z5, z6], [.int ((nI (7 * n)) + (nI 4)), .ref 0, .int (xs ((7 * n) + 3)), .int (xs ((7 * n) + 2)), .int (xs ((7 * n) + 1)), .ref 2])) (by decide +kernel) rfl ?_
      dsimp only
      rw [show (nI (7 * n)) + (nI 4) = nI ((7 * n) + 4) from nI_add _ _]
      refine am_Rq.ial (k := (7 * n) + 4) (show decode (am_by 0) 160 = .ok (.iaload, 1) by decide +kernel) h0 (by omega) (by omega) ?_
      refine am_Rq.blk (is := [(.aload_n 0, 1), (.iload 4, 2), (.iconst 5, 1), (.iadd, 1)]) (q := (166, [some (.ref 0), some (.ref 2), some (.ref 238), some (.ref 246), some (.int (nI (7 * n))), z5, z6], [.int ((nI (7 * n)) + (nI 5)), .ref 0, .int (xs ((7 * n) + 4)), .int (xs ((7 * n) + 3)), .int (xs ((7 * n) + 2)), .int (xs ((7 * n) + 1)), .ref 2])) (by decide +kernel) rfl ?_
      dsimp only
      rw [show (nI (7 * n)) + (nI 5) = nI ((7 * n) + 5) from nI_add _ _]
      refine am_Rq.ial (k := (7 * n) + 5) (show decode (am_by 0) 166 = .ok (.iaload, 1) by decide +kernel) h0 (by omega) (by omega) ?_
      refine am_Rq.blk (is := [(.aload_n 0, 1), (.iload 4, 2), (.bipush 6, 2), (.iadd, 1)]) (q := (173, [some (.ref 0), some (.ref 2), some (.ref 238), some (.ref 246), some (.int (nI (7 * n))), z5, z6], [.int ((nI (7 * n)) + (nI 6)), .ref 0, .int (xs ((7 * n) + 5)), .int (xs ((7 * n) + 4)), .int (xs ((7 * n) + 3)), .int (xs ((7 * n) + 2)), .int (xs ((7 * n) + 1)), .ref 2])) (by decide +kernel) rfl ?_
      dsimp only
      rw [show (nI (7 * n)) + (nI 6) = nI ((7 * n) + 6) from nI_add _ _]
      refine am_Rq.ial (k := (7 * n) + 6) (show decode (am_by 0) 173 = .ok (.iaload, 1) by decide +kernel) h0 (by omega) (by omega) ?_
      refine am_Rq.blk (is := [(.aload_n 3, 1)]) (q := (175, [some (.ref 0), some (.ref 2), some (.ref 238), some (.ref 246), some (.int (nI (7 * n))), z5, z6], [.ref 246, .int (xs ((7 * n) + 6)), .int (xs ((7 * n) + 5)), .int (xs ((7 * n) + 4)), .int (xs ((7 * n) + 3)), .int (xs ((7 * n) + 2)), .int (xs ((7 * n) + 1)), .ref 2])) (by decide +kernel) rfl ?_
      dsimp only
      refine am_Rq.callS (show decode (am_by 0) 175 = .ok (.invokestatic 79, 3) by decide +kernel) rfl [.ref 2, .int (xs ((7 * n) + 1)), .int (xs ((7 * n) + 2)), .int (xs ((7 * n) + 3)), .int (xs ((7 * n) + 4)), .int (xs ((7 * n) + 5)), .int (xs ((7 * n) + 6)), .ref 246] [] rfl rfl (Nat.le_of_ble_eq_true rfl) rfl rfl (w_preferred_no0 hC hU hc) ?_
      rintro hp1 _ ⟨rfl, he1⟩
      have hk : ∀ a, a < 247 → hp1[a]? = hp[a]? := fun a ha => by rw [he1]; exact List.getElem?_append_left (by omega)
      have hl1 : hp1.length = hp.length + 1 := by rw [he1]; exact ap_len rfl
      have ht1 : am_tot hp1 = am_tot hp + 6 := by rw [he1]; exact c_exT _ _
      have h01 := (hk 0 (by omega)).trans h0
      have hU1 := (hk 246 (by omega)).trans hU
      have hM1 := hM.kept (fun a a1 a2 => hk a (by omega))
      have hC1 := hC.kept (fun a a1 a2 => hk a (by omega))
      have hM0 := hM1
      obtain ⟨⟨⟨co1, hO1⟩, -⟩, -⟩ := hM0
      show am_Rq _ 0 178 [some (.ref 0), some (.ref 2), some (.ref 238), some (.ref 246), some (.int (nI (7 * n))), z5, z6] [.int (nI 1)] _ _
      refine am_Rq.blk (is := [(.istore 5, 2), (.aload_n 2, 1), (.aload_n 0, 1), (.iload 4, 2), (.iconst 1, 1), (.iadd, 1)]) (q := (186, [some (.ref 0), some (.ref 2), some (.ref 238), some (.ref 246), some (.int (nI (7 * n))), some (.int (nI 1)), z6], [.int ((nI (7 * n)) + (nI 1)), .ref 0, .ref 238])) (by decide +kernel) rfl ?_
      dsimp only
      rw [show (nI (7 * n)) + (nI 1) = nI ((7 * n) + 1) from nI_add _ _]
      refine am_Rq.ial (k := (7 * n) + 1) (show decode (am_by 0) 186 = .ok (.iaload, 1) by decide +kernel) h01 (by omega) (by omega) ?_
      refine am_Rq.blk (is := [(.aload_n 0, 1), (.iload 4, 2), (.iconst 2, 1), (.iadd, 1)]) (q := (192, [some (.ref 0), some (.ref 2), some (.ref 238), some (.ref 246), some (.int (nI (7 * n))), some (.int (nI 1)), z6], [.int ((nI (7 * n)) + (nI 2)), .ref 0, .int (xs ((7 * n) + 1)), .ref 238])) (by decide +kernel) rfl ?_
      dsimp only
      rw [show (nI (7 * n)) + (nI 2) = nI ((7 * n) + 2) from nI_add _ _]
      refine am_Rq.ial (k := (7 * n) + 2) (show decode (am_by 0) 192 = .ok (.iaload, 1) by decide +kernel) h01 (by omega) (by omega) ?_
      refine am_Rq.blk (is := [(.aload_n 0, 1), (.iload 4, 2), (.iconst 3, 1), (.iadd, 1)]) (q := (198, [some (.ref 0), some (.ref 2), some (.ref 238), some (.ref 246), some (.int (nI (7 * n))), some (.int (nI 1)), z6], [.int ((nI (7 * n)) + (nI 3)), .ref 0, .int (xs ((7 * n) + 2)), .int (xs ((7 * n) + 1)), .ref 238])) (by decide +kernel) rfl ?_
      dsimp only
      rw [show (nI (7 * n)) + (nI 3) = nI ((7 * n) + 3) from nI_add _ _]
      refine am_Rq.ial (k := (7 * n) + 3) (show decode (am_by 0) 198 = .ok (.iaload, 1) by decide +kernel) h01 (by omega) (by omega) ?_
      refine am_Rq.blk (is := [(.aload_n 0, 1), (.iload 4, 2), (.iconst 4, 1), (.iadd, 1)]) (q := (204, [some (.ref 0), some (.ref 2), some (.ref 238), some (.ref 246), some (.int (nI (7 * n))), some (.int (nI 1)), z6], [.int ((nI (7 * n)) + (nI 4)), .ref 0, .int (xs ((7 * n) + 3)), .int (xs ((7 * n) + 2)), .int (xs ((7 * n) + 1)), .ref 238])) (by decide +kernel) rfl ?_
      dsimp only
      rw [show (nI (7 * n)) + (nI 4) = nI ((7 * n) + 4) from nI_add _ _]
      refine am_Rq.ial (k := (7 * n) + 4) (show decode (am_by 0) 204 = .ok (.iaload, 1) by decide +kernel) h01 (by omega) (by omega) ?_
      refine am_Rq.blk (is := [(.aload_n 0, 1), (.iload 4, 2), (.iconst 5, 1), (.iadd, 1)]) (q := (210, [some (.ref 0), some (.ref 2), some (.ref 238), some (.ref 246), some (.int (nI (7 * n))), some (.int (nI 1)), z6], [.int ((nI (7 * n)) + (nI 5)), .ref 0, .int (xs ((7 * n) + 4)), .int (xs ((7 * n) + 3)), .int (xs ((7 * n) + 2)), .int (xs ((7 * n) + 1)), .ref 238])) (by decide +kernel) rfl ?_
      dsimp only
      rw [show (nI (7 * n)) + (nI 5) = nI ((7 * n) + 5) from nI_add _ _]
      refine am_Rq.ial (k := (7 * n) + 5) (show decode (am_by 0) 210 = .ok (.iaload, 1) by decide +kernel) h01 (by omega) (by omega) ?_
      refine am_Rq.blk (is := [(.aload_n 0, 1), (.iload 4, 2), (.bipush 6, 2), (.iadd, 1)]) (q := (217, [some (.ref 0), some (.ref 2), some (.ref 238), some (.ref 246), some (.int (nI (7 * n))), some (.int (nI 1)), z6], [.int ((nI (7 * n)) + (nI 6)), .ref 0, .int (xs ((7 * n) + 5)), .int (xs ((7 * n) + 4)), .int (xs ((7 * n) + 3)), .int (xs ((7 * n) + 2)), .int (xs ((7 * n) + 1)), .ref 238])) (by decide +kernel) rfl ?_
      dsimp only
      rw [show (nI (7 * n)) + (nI 6) = nI ((7 * n) + 6) from nI_add _ _]
      refine am_Rq.ial (k := (7 * n) + 6) (show decode (am_by 0) 217 = .ok (.iaload, 1) by decide +kernel) h01 (by omega) (by omega) ?_
      refine am_Rq.callV (show decode (am_by 0) 218 = .ok (.invokevirtual 84, 3) by decide +kernel) rfl [.int (xs ((7 * n) + 1)), .int (xs ((7 * n) + 2)), .int (xs ((7 * n) + 3)), .int (xs ((7 * n) + 4)), .int (xs ((7 * n) + 5)), .int (xs ((7 * n) + 6))] [] rfl rfl (Nat.le_of_ble_eq_true rfl) rfl hO1 rfl (hm hp1 th hM1) ?_
      rintro hp2 _ ⟨rfl, hM2, hf2⟩
      have h02 := (hf2.2.2 0 (fun q => by omega)).trans h01
      have hU2 := (hf2.2.2 246 (fun q => by omega)).trans hU1
      have hC2 := hC1.kept (fun a a1 a2 => hf2.2.2 a (fun q => by omega))
      show am_Rq _ 0 221 [some (.ref 0), some (.ref 2), some (.ref 238), some (.ref 246), some (.int (nI (7 * n))), some (.int (nI 1)), z6] [.int (nI 0)] _ _
      refine am_Rq.blk (is := [(.istore 6, 2), (.aload_n 2, 1)]) (q := (224, [some (.ref 0), some (.ref 2), some (.ref 238), some (.ref 246), some (.int (nI (7 * n))), some (.int (nI 1)), some (.int (nI 0))], [.ref 238])) (by decide +kernel) rfl ?_
      dsimp only
      have hM3 := hM2
      obtain ⟨⟨⟨co2, hO2⟩, hS2, -⟩, -⟩ := hM3
      refine am_Rq.callV (show decode (am_by 0) 224 = .ok (.invokevirtual 85, 3) by decide +kernel) rfl [] [] rfl rfl (Nat.le_of_ble_eq_true rfl) rfl hO2 rfl (m_thrown (d := 8) hO2 hS2) ?_
      rintro hq _ ⟨e1, rfl⟩
      rw [e1]
      clear e1 hq
      show am_Rq _ 0 227 [some (.ref 0), some (.ref 2), some (.ref 238), some (.ref 246), some (.int (nI (7 * n))), some (.int (nI 1)), some (.int (nI 0))] [.int (nI 1)] _ _
      refine am_Rq.blk (is := [(.iload 5, 2)]) (q := (229, [some (.ref 0), some (.ref 2), some (.ref 238), some (.ref 246), some (.int (nI (7 * n))), some (.int (nI 1)), some (.int (nI 0))], [.int (nI 1), .int (nI 1)])) (by decide +kernel) rfl ?_
      dsimp only
      refine am_Rq.if2T (t := 234) (show decode (am_by 0) 229 = .ok (.if_icmp .eq 5, 3) by decide +kernel) (by decide) (rfl) ?_
      refine am_Rq.blk (is := [(.iload 5, 2)]) (q := (236, [some (.ref 0), some (.ref 2), some (.ref 238), some (.ref 246), some (.int (nI (7 * n))), some (.int (nI 1)), some (.int (nI 0))], [.int (nI 1)])) (by decide +kernel) rfl ?_
      dsimp only
      refine am_Rq.if1T (t := 251) (show decode (am_by 0) 236 = .ok (.ifCond .ne 15, 3) by decide +kernel) (by decide) (rfl) ?_
      refine am_Rq.blk (is := [(.goto 1173, 3)]) (q := (1424, [some (.ref 0), some (.ref 2), some (.ref 238), some (.ref 246), some (.int (nI (7 * n))), some (.int (nI 1)), some (.int (nI 0))], [])) (by decide +kernel) rfl ?_
      dsimp only
      refine am_Rq.blk (is := [(.iinc 4 7, 3)]) (q := (1427, [some (.ref 0), some (.ref 2), some (.ref 238), some (.ref 246), some (.int ((nI (7 * n)) + (nI 7))), some (.int (nI 1)), some (.int (nI 0))], [])) (by decide +kernel) rfl ?_
      dsimp only
      rw [show (nI (7 * n)) + (nI 7) = nI ((7 * n) + 7) from nI_add _ _]
      refine am_Rq.blk (is := [(.goto (-1404), 3)]) (q := (23, [some (.ref 0), some (.ref 2), some (.ref 238), some (.ref 246), some (.int (nI ((7 * n) + 7))), some (.int (nI 1)), some (.int (nI 0))], [])) (by decide +kernel) rfl ?_
      dsimp only
      rw [show 7 * n + 7 = 7 * (n + 1) by omega]
      exact ih _ _ _ ⟨s, f, kn, nx, ks, hs, 1, h02, hC2, hM2, ⟨_, hU2⟩, hR.more, by rw [hf2.1, hl1]; omega, by rw [hf2.1, hl1]; omega, by rw [hf2.2.1, ht1]; omega⟩
    ·
      refine am_Rq.blk (is := [(.aload_n 1, 1), (.aload_n 0, 1), (.iload 4, 2), (.iconst 1, 1), (.iadd, 1)]) (q := (142, [some (.ref 0), some (.ref 2), some (.ref 238), some (.ref 246), some (.int (nI (7 * n))), z5, z6], [.int ((nI (7 * n)) + (nI 1)), .ref 0, .ref 2])) (by decide +kernel) rfl ?_
      dsimp only
      rw [show (nI (7 * n)) + (nI 1) = nI ((7 * n) + 1) from nI_add _ _]
      refine am_Rq.ial (k := (7 * n) + 1) (show decode (am_by 0) 142 = .ok (.iaload, 1) by decide +kernel) h0 (by omega) (by omega) ?_
      refine am_Rq.blk (is := [(.aload_n 0, 1), (.iload 4, 2), (.iconst 2, 1), (.iadd, 1)]) (q := (148, [some (.ref 0), some (.ref 2), some (.ref 238), some (.ref 246), some (.int (nI (7 * n))), z5, z6], [.int ((nI (7 * n)) + (nI 2)), .ref 0, .int (xs ((7 * n) + 1)), .ref 2])) (by decide +kernel) rfl ?_
      dsimp only
      rw [show (nI (7 * n)) + (nI 2) = nI ((7 * n) + 2) from nI_add _ _]
      refine am_Rq.ial (k := (7 * n) + 2) (show decode (am_by 0) 148 = .ok (.iaload, 1) by decide +kernel) h0 (by omega) (by omega) ?_
      refine am_Rq.blk (is := [(.aload_n 0, 1), (.iload 4, 2), (.iconst 3, 1), (.iadd, 1)]) (q := (154, [some (.ref 0), some (.ref 2), some (.ref 238), some (.ref 246), some (.int (nI (7 * n))), z5, z6], [.int ((nI (7 * n)) + (nI 3)), .ref 0, .int (xs ((7 * n) + 2)), .int (xs ((7 * n) + 1)), .ref 2])) (by decide +kernel) rfl ?_
      dsimp only
      rw [show (nI (7 * n)) + (nI 3) = nI ((7 * n) + 3) from nI_add _ _]
      refine am_Rq.ial (k := (7 * n) + 3) (show decode (am_by 0) 154 = .ok (.iaload, 1) by decide +kernel) h0 (by omega) (by omega) ?_
      refine am_Rq.blk (is := [(.aload_n 0, 1), (.iload 4, 2), (.iconst 4, 1), (.iadd, 1)]) (q := (160, [some (.ref 0), some (.ref 2), some (.ref 238), some (.ref 246), some (.int (nI (7 * n))), z5, z6], [.int ((nI (7 * n)) + (nI 4)), .ref 0, .int (xs ((7 * n) + 3)), .int (xs ((7 * n) + 2)), .int (xs ((7 * n) + 1)), .ref 2])) (by decide +kernel) rfl ?_
      dsimp only
      rw [show (nI (7 * n)) + (nI 4) = nI ((7 * n) + 4) from nI_add _ _]
      refine am_Rq.ial (k := (7 * n) + 4) (show decode (am_by 0) 160 = .ok (.iaload, 1) by decide +kernel) h0 (by omega) (by omega) ?_
      refine am_Rq.blk (is := [(.aload_n 0, 1), (.iload 4, 2), (.iconst 5, 1), (.iadd, 1)]) (q := (166, [some (.ref 0), some (.ref 2), some (.ref 238), some (.ref 246), some (.int (nI (7 * n))), z5, z6], [.int ((nI (7 * n)) + (nI 5)), .ref 0, .int (xs ((7 * n) + 4)), .int (xs ((7 * n) + 3)), .int (xs ((7 * n) + 2)), .int (xs ((7 * n) + 1)), .ref 2])) (by decide +kernel) rfl ?_
      dsimp only
      rw [show (nI (7 * n)) + (nI 5) = nI ((7 * n) + 5) from nI_add _ _]
      refine am_Rq.ial (k := (7 * n) + 5) (show decode (am_by 0) 166 = .ok (.iaload, 1) by decide +kernel) h0 (by omega) (by omega) ?_
      refine am_Rq.blk (is := [(.aload_n 0, 1), (.iload 4, 2), (.bipush 6, 2), (.iadd, 1)]) (q := (173, [some (.ref 0), some (.ref 2), some (.ref 238), some (.ref 246), some (.int (nI (7 * n))), z5, z6], [.int ((nI (7 * n)) + (nI 6)), .ref 0, .int (xs ((7 * n) + 5)), .int (xs ((7 * n) + 4)), .int (xs ((7 * n) + 3)), .int (xs ((7 * n) + 2)), .int (xs ((7 * n) + 1)), .ref 2])) (by decide +kernel) rfl ?_
      dsimp only
      rw [show (nI (7 * n)) + (nI 6) = nI ((7 * n) + 6) from nI_add _ _]
      refine am_Rq.ial (k := (7 * n) + 6) (show decode (am_by 0) 173 = .ok (.iaload, 1) by decide +kernel) h0 (by omega) (by omega) ?_
      refine am_Rq.blk (is := [(.aload_n 3, 1)]) (q := (175, [some (.ref 0), some (.ref 2), some (.ref 238), some (.ref 246), some (.int (nI (7 * n))), z5, z6], [.ref 246, .int (xs ((7 * n) + 6)), .int (xs ((7 * n) + 5)), .int (xs ((7 * n) + 4)), .int (xs ((7 * n) + 3)), .int (xs ((7 * n) + 2)), .int (xs ((7 * n) + 1)), .ref 2])) (by decide +kernel) rfl ?_
      dsimp only
      refine am_Rq.callS (show decode (am_by 0) 175 = .ok (.invokestatic 79, 3) by decide +kernel) rfl [.ref 2, .int (xs ((7 * n) + 1)), .int (xs ((7 * n) + 2)), .int (xs ((7 * n) + 3)), .int (xs ((7 * n) + 4)), .int (xs ((7 * n) + 5)), .int (xs ((7 * n) + 6)), .ref 246] [] rfl rfl (Nat.le_of_ble_eq_true rfl) rfl rfl (w_preferred_no1 hC hU hc) ?_
      rintro hp1 _ ⟨rfl, he1⟩
      have hk : ∀ a, a < 247 → hp1[a]? = hp[a]? := fun a ha => by rw [he1]; exact List.getElem?_append_left (by omega)
      have hl1 : hp1.length = hp.length + 1 := by rw [he1]; exact ap_len rfl
      have ht1 : am_tot hp1 = am_tot hp + 6 := by rw [he1]; exact c_exT _ _
      have h01 := (hk 0 (by omega)).trans h0
      have hU1 := (hk 246 (by omega)).trans hU
      have hM1 := hM.kept (fun a a1 a2 => hk a (by omega))
      have hC1 := hC.kept (fun a a1 a2 => hk a (by omega))
      have hM0 := hM1
      obtain ⟨⟨⟨co1, hO1⟩, -⟩, -⟩ := hM0
      show am_Rq _ 0 178 [some (.ref 0), some (.ref 2), some (.ref 238), some (.ref 246), some (.int (nI (7 * n))), z5, z6] [.int (nI 2)] _ _
      refine am_Rq.blk (is := [(.istore 5, 2), (.aload_n 2, 1), (.aload_n 0, 1), (.iload 4, 2), (.iconst 1, 1), (.iadd, 1)]) (q := (186, [some (.ref 0), some (.ref 2), some (.ref 238), some (.ref 246), some (.int (nI (7 * n))), some (.int (nI 2)), z6], [.int ((nI (7 * n)) + (nI 1)), .ref 0, .ref 238])) (by decide +kernel) rfl ?_
      dsimp only
      rw [show (nI (7 * n)) + (nI 1) = nI ((7 * n) + 1) from nI_add _ _]
      refine am_Rq.ial (k := (7 * n) + 1) (show decode (am_by 0) 186 = .ok (.iaload, 1) by decide +kernel) h01 (by omega) (by omega) ?_
      refine am_Rq.blk (is := [(.aload_n 0, 1), (.iload 4, 2), (.iconst 2, 1), (.iadd, 1)]) (q := (192, [some (.ref 0), some (.ref 2), some (.ref 238), some (.ref 246), some (.int (nI (7 * n))), some (.int (nI 2)), z6], [.int ((nI (7 * n)) + (nI 2)), .ref 0, .int (xs ((7 * n) + 1)), .ref 238])) (by decide +kernel) rfl ?_
      dsimp only
      rw [show (nI (7 * n)) + (nI 2) = nI ((7 * n) + 2) from nI_add _ _]
      refine am_Rq.ial (k := (7 * n) + 2) (show decode (am_by 0) 192 = .ok (.iaload, 1) by decide +kernel) h01 (by omega) (by omega) ?_
      refine am_Rq.blk (is := [(.aload_n 0, 1), (.iload 4, 2), (.iconst 3, 1), (.iadd, 1)]) (q := (198, [some (.ref 0), some (.ref 2), some (.ref 238), some (.ref 246), some (.int (nI (7 * n))), some (.int (nI 2)), z6], [.int ((nI (7 * n)) + (nI 3)), .ref 0, .int (xs ((7 * n) + 2)), .int (xs ((7 * n) + 1)), .ref 238])) (by decide +kernel) rfl ?_
      dsimp only
      rw [show (nI (7 * n)) + (nI 3) = nI ((7 * n) + 3) from nI_add _ _]
      refine am_Rq.ial (k := (7 * n) + 3) (show decode (am_by 0) 198 = .ok (.iaload, 1) by decide +kernel) h01 (by omega) (by omega) ?_
      refine am_Rq.blk (is := [(.aload_n 0, 1), (.iload 4, 2), (.iconst 4, 1), (.iadd, 1)]) (q := (204, [some (.ref 0), some (.ref 2), some (.ref 238), some (.ref 246), some (.int (nI (7 * n))), some (.int (nI 2)), z6], [.int ((nI (7 * n)) + (nI 4)), .ref 0, .int (xs ((7 * n) + 3)), .int (xs ((7 * n) + 2)), .int (xs ((7 * n) + 1)), .ref 238])) (by decide +kernel) rfl ?_
      dsimp only
      rw [show (nI (7 * n)) + (nI 4) = nI ((7 * n) + 4) from nI_add _ _]
      refine am_Rq.ial (k := (7 * n) + 4) (show decode (am_by 0) 204 = .ok (.iaload, 1) by decide +kernel) h01 (by omega) (by omega) ?_
      refine am_Rq.blk (is := [(.aload_n 0, 1), (.iload 4, 2), (.iconst 5, 1), (.iadd, 1)]) (q := (210, [some (.ref 0), some (.ref 2), some (.ref 238), some (.ref 246), some (.int (nI (7 * n))), some (.int (nI 2)), z6], [.int ((nI (7 * n)) + (nI 5)), .ref 0, .int (xs ((7 * n) + 4)), .int (xs ((7 * n) + 3)), .int (xs ((7 * n) + 2)), .int (xs ((7 * n) + 1)), .ref 238])) (by decide +kernel) rfl ?_
      dsimp only
      rw [show (nI (7 * n)) + (nI 5) = nI ((7 * n) + 5) from nI_add _ _]
      refine am_Rq.ial (k := (7 * n) + 5) (show decode (am_by 0) 210 = .ok (.iaload, 1) by decide +kernel) h01 (by omega) (by omega) ?_
      refine am_Rq.blk (is := [(.aload_n 0, 1), (.iload 4, 2), (.bipush 6, 2), (.iadd, 1)]) (q := (217, [some (.ref 0), some (.ref 2), some (.ref 238), some (.ref 246), some (.int (nI (7 * n))), some (.int (nI 2)), z6], [.int ((nI (7 * n)) + (nI 6)), .ref 0, .int (xs ((7 * n) + 5)), .int (xs ((7 * n) + 4)), .int (xs ((7 * n) + 3)), .int (xs ((7 * n) + 2)), .int (xs ((7 * n) + 1)), .ref 238])) (by decide +kernel) rfl ?_
      dsimp only
      rw [show (nI (7 * n)) + (nI 6) = nI ((7 * n) + 6) from nI_add _ _]
      refine am_Rq.ial (k := (7 * n) + 6) (show decode (am_by 0) 217 = .ok (.iaload, 1) by decide +kernel) h01 (by omega) (by omega) ?_
      refine am_Rq.callV (show decode (am_by 0) 218 = .ok (.invokevirtual 84, 3) by decide +kernel) rfl [.int (xs ((7 * n) + 1)), .int (xs ((7 * n) + 2)), .int (xs ((7 * n) + 3)), .int (xs ((7 * n) + 4)), .int (xs ((7 * n) + 5)), .int (xs ((7 * n) + 6))] [] rfl rfl (Nat.le_of_ble_eq_true rfl) rfl hO1 rfl (hm hp1 th hM1) ?_
      rintro hp2 _ ⟨rfl, hM2, hf2⟩
      have h02 := (hf2.2.2 0 (fun q => by omega)).trans h01
      have hU2 := (hf2.2.2 246 (fun q => by omega)).trans hU1
      have hC2 := hC1.kept (fun a a1 a2 => hf2.2.2 a (fun q => by omega))
      show am_Rq _ 0 221 [some (.ref 0), some (.ref 2), some (.ref 238), some (.ref 246), some (.int (nI (7 * n))), some (.int (nI 2)), z6] [.int (nI 0)] _ _
      refine am_Rq.blk (is := [(.istore 6, 2), (.aload_n 2, 1)]) (q := (224, [some (.ref 0), some (.ref 2), some (.ref 238), some (.ref 246), some (.int (nI (7 * n))), some (.int (nI 2)), some (.int (nI 0))], [.ref 238])) (by decide +kernel) rfl ?_
      dsimp only
      have hM3 := hM2
      obtain ⟨⟨⟨co2, hO2⟩, hS2, -⟩, -⟩ := hM3
      refine am_Rq.callV (show decode (am_by 0) 224 = .ok (.invokevirtual 85, 3) by decide +kernel) rfl [] [] rfl rfl (Nat.le_of_ble_eq_true rfl) rfl hO2 rfl (m_thrown (d := 8) hO2 hS2) ?_
      rintro hq _ ⟨e1, rfl⟩
      rw [e1]
      clear e1 hq
      show am_Rq _ 0 227 [some (.ref 0), some (.ref 2), some (.ref 238), some (.ref 246), some (.int (nI (7 * n))), some (.int (nI 2)), some (.int (nI 0))] [.int (nI 2)] _ _
      refine am_Rq.blk (is := [(.iload 5, 2)]) (q := (229, [some (.ref 0), some (.ref 2), some (.ref 238), some (.ref 246), some (.int (nI (7 * n))), some (.int (nI 2)), some (.int (nI 0))], [.int (nI 2), .int (nI 2)])) (by decide +kernel) rfl ?_
      dsimp only
      refine am_Rq.if2T (t := 234) (show decode (am_by 0) 229 = .ok (.if_icmp .eq 5, 3) by decide +kernel) (by decide) (rfl) ?_
      refine am_Rq.blk (is := [(.iload 5, 2)]) (q := (236, [some (.ref 0), some (.ref 2), some (.ref 238), some (.ref 246), some (.int (nI (7 * n))), some (.int (nI 2)), some (.int (nI 0))], [.int (nI 2)])) (by decide +kernel) rfl ?_
      dsimp only
      refine am_Rq.if1T (t := 251) (show decode (am_by 0) 236 = .ok (.ifCond .ne 15, 3) by decide +kernel) (by decide) (rfl) ?_
      refine am_Rq.blk (is := [(.goto 1173, 3)]) (q := (1424, [some (.ref 0), some (.ref 2), some (.ref 238), some (.ref 246), some (.int (nI (7 * n))), some (.int (nI 2)), some (.int (nI 0))], [])) (by decide +kernel) rfl ?_
      dsimp only
      refine am_Rq.blk (is := [(.iinc 4 7, 3)]) (q := (1427, [some (.ref 0), some (.ref 2), some (.ref 238), some (.ref 246), some (.int ((nI (7 * n)) + (nI 7))), some (.int (nI 2)), some (.int (nI 0))], [])) (by decide +kernel) rfl ?_
      dsimp only
      rw [show (nI (7 * n)) + (nI 7) = nI ((7 * n) + 7) from nI_add _ _]
      refine am_Rq.blk (is := [(.goto (-1404), 3)]) (q := (23, [some (.ref 0), some (.ref 2), some (.ref 238), some (.ref 246), some (.int (nI ((7 * n) + 7))), some (.int (nI 2)), some (.int (nI 0))], [])) (by decide +kernel) rfl ?_
      dsimp only
      rw [show 7 * n + 7 = 7 * (n + 1) by omega]
      exact ih _ _ _ ⟨s, f, kn, nx, ks, hs, 2, h02, hC2, hM2, ⟨_, hU2⟩, hR.more, by rw [hf2.1, hl1]; omega, by rw [hf2.1, hl1]; omega, by rw [hf2.2.1, ht1]; omega⟩
theorem l_issue {L n : Nat} {xs : Nat → Int32} (hL : L ≤ 3584) (hn : 7 * n + 7 ≤ L) {hp : am_H} (h : l_St L xs hp n) {Q : am_H → am_R → Prop} (ih : ∀ hp1 z5 z6, l_St L xs hp1 (n + 1) → am_Rq 9 0 23 [some (.ref 0), some (.ref 2), some (.ref 238), some (.ref 246), some (.int (nI (7 * (n + 1)))), z5, z6] [] hp1 Q) {z5 z6 : Option Value} : am_Rq 9 0 254 [some (.ref 0), some (.ref 2), some (.ref 238), some (.ref 246), some (.int (nI (7 * n))), z5, z6] [] hp Q := by
  obtain ⟨s, f, kn, nx, ks, hs, th, h0, hC, hM, ⟨ou, hU⟩, hR, l1, l2, l3⟩ := h
  have hp9 := p_issue hR (by omega) (xs (7 * n + 1)) (xs (7 * n + 2)) (xs (7 * n + 3)) (xs (7 * n + 4))
  rcases hp9 with ⟨v, s1, kn1, nx1, ks1, hc, hm⟩ | ⟨k, c, hin, hc, hm⟩
  ·
    refine am_Rq.blk (is := [(.aload_n 1, 1), (.aload_n 0, 1), (.iload 4, 2), (.iconst 1, 1), (.iadd, 1)]) (q := (260, [some (.ref 0), some (.ref 2), some (.ref 238), some (.ref 246), some (.int (nI (7 * n))), z5, z6], [.int ((nI (7 * n)) + (nI 1)), .ref 0, .ref 2])) (by decide +kernel) rfl ?_
    dsimp only
    rw [show (nI (7 * n)) + (nI 1) = nI ((7 * n) + 1) from nI_add _ _]
    refine am_Rq.ial (k := (7 * n) + 1) (show decode (am_by 0) 260 = .ok (.iaload, 1) by decide +kernel) h0 (by omega) (by omega) ?_
    refine am_Rq.blk (is := [(.aload_n 0, 1), (.iload 4, 2), (.iconst 2, 1), (.iadd, 1)]) (q := (266, [some (.ref 0), some (.ref 2), some (.ref 238), some (.ref 246), some (.int (nI (7 * n))), z5, z6], [.int ((nI (7 * n)) + (nI 2)), .ref 0, .int (xs ((7 * n) + 1)), .ref 2])) (by decide +kernel) rfl ?_
    dsimp only
    rw [show (nI (7 * n)) + (nI 2) = nI ((7 * n) + 2) from nI_add _ _]
    refine am_Rq.ial (k := (7 * n) + 2) (show decode (am_by 0) 266 = .ok (.iaload, 1) by decide +kernel) h0 (by omega) (by omega) ?_
    refine am_Rq.blk (is := [(.aload_n 0, 1), (.iload 4, 2), (.iconst 3, 1), (.iadd, 1)]) (q := (272, [some (.ref 0), some (.ref 2), some (.ref 238), some (.ref 246), some (.int (nI (7 * n))), z5, z6], [.int ((nI (7 * n)) + (nI 3)), .ref 0, .int (xs ((7 * n) + 2)), .int (xs ((7 * n) + 1)), .ref 2])) (by decide +kernel) rfl ?_
    dsimp only
    rw [show (nI (7 * n)) + (nI 3) = nI ((7 * n) + 3) from nI_add _ _]
    refine am_Rq.ial (k := (7 * n) + 3) (show decode (am_by 0) 272 = .ok (.iaload, 1) by decide +kernel) h0 (by omega) (by omega) ?_
    refine am_Rq.blk (is := [(.aload_n 0, 1), (.iload 4, 2), (.iconst 4, 1), (.iadd, 1)]) (q := (278, [some (.ref 0), some (.ref 2), some (.ref 238), some (.ref 246), some (.int (nI (7 * n))), z5, z6], [.int ((nI (7 * n)) + (nI 4)), .ref 0, .int (xs ((7 * n) + 3)), .int (xs ((7 * n) + 2)), .int (xs ((7 * n) + 1)), .ref 2])) (by decide +kernel) rfl ?_
    dsimp only
    rw [show (nI (7 * n)) + (nI 4) = nI ((7 * n) + 4) from nI_add _ _]
    refine am_Rq.ial (k := (7 * n) + 4) (show decode (am_by 0) 278 = .ok (.iaload, 1) by decide +kernel) h0 (by omega) (by omega) ?_
    refine am_Rq.blk (is := [(.aload_n 3, 1)]) (q := (280, [some (.ref 0), some (.ref 2), some (.ref 238), some (.ref 246), some (.int (nI (7 * n))), z5, z6], [.ref 246, .int (xs ((7 * n) + 4)), .int (xs ((7 * n) + 3)), .int (xs ((7 * n) + 2)), .int (xs ((7 * n) + 1)), .ref 2])) (by decide +kernel) rfl ?_
    dsimp only
    refine am_Rq.callS (show decode (am_by 0) 280 = .ok (.invokestatic 88, 3) by decide +kernel) rfl [.ref 2, .int (xs ((7 * n) + 1)), .int (xs ((7 * n) + 2)), .int (xs ((7 * n) + 3)), .int (xs ((7 * n) + 4)), .ref 246] [] rfl rfl (Nat.le_of_ble_eq_true rfl) rfl rfl (w_issue hC hU hc) ?_
    rintro hp1 _ ⟨rfl, hC1, hU1, hf1⟩
    have h01 := (hf1.2.2 0 (fun q => by omega)).trans h0
    have hM1 := hM.kept (fun a a1 a2 => hf1.2.2 a (fun q => by omega))
    have hM0 := hM1
    obtain ⟨⟨⟨co1, hO1⟩, -⟩, -⟩ := hM0
    show am_Rq _ 0 283 [some (.ref 0), some (.ref 2), some (.ref 238), some (.ref 246), some (.int (nI (7 * n))), z5, z6] [.int (nI 0)] _ _
    refine am_Rq.blk (is := [(.istore 5, 2), (.aload_n 2, 1), (.aload_n 0, 1), (.iload 4, 2), (.iconst 1, 1), (.iadd, 1)]) (q := (291, [some (.ref 0), some (.ref 2), some (.ref 238), some (.ref 246), some (.int (nI (7 * n))), some (.int (nI 0)), z6], [.int ((nI (7 * n)) + (nI 1)), .ref 0, .ref 238])) (by decide +kernel) rfl ?_
    dsimp only
    rw [show (nI (7 * n)) + (nI 1) = nI ((7 * n) + 1) from nI_add _ _]
    refine am_Rq.ial (k := (7 * n) + 1) (show decode (am_by 0) 291 = .ok (.iaload, 1) by decide +kernel) h01 (by omega) (by omega) ?_
    refine am_Rq.blk (is := [(.aload_n 0, 1), (.iload 4, 2), (.iconst 2, 1), (.iadd, 1)]) (q := (297, [some (.ref 0), some (.ref 2), some (.ref 238), some (.ref 246), some (.int (nI (7 * n))), some (.int (nI 0)), z6], [.int ((nI (7 * n)) + (nI 2)), .ref 0, .int (xs ((7 * n) + 1)), .ref 238])) (by decide +kernel) rfl ?_
    dsimp only
    rw [show (nI (7 * n)) + (nI 2) = nI ((7 * n) + 2) from nI_add _ _]
    refine am_Rq.ial (k := (7 * n) + 2) (show decode (am_by 0) 297 = .ok (.iaload, 1) by decide +kernel) h01 (by omega) (by omega) ?_
    refine am_Rq.blk (is := [(.aload_n 0, 1), (.iload 4, 2), (.iconst 3, 1), (.iadd, 1)]) (q := (303, [some (.ref 0), some (.ref 2), some (.ref 238), some (.ref 246), some (.int (nI (7 * n))), some (.int (nI 0)), z6], [.int ((nI (7 * n)) + (nI 3)), .ref 0, .int (xs ((7 * n) + 2)), .int (xs ((7 * n) + 1)), .ref 238])) (by decide +kernel) rfl ?_
    dsimp only
    rw [show (nI (7 * n)) + (nI 3) = nI ((7 * n) + 3) from nI_add _ _]
    refine am_Rq.ial (k := (7 * n) + 3) (show decode (am_by 0) 303 = .ok (.iaload, 1) by decide +kernel) h01 (by omega) (by omega) ?_
    refine am_Rq.blk (is := [(.aload_n 0, 1), (.iload 4, 2), (.iconst 4, 1), (.iadd, 1)]) (q := (309, [some (.ref 0), some (.ref 2), some (.ref 238), some (.ref 246), some (.int (nI (7 * n))), some (.int (nI 0)), z6], [.int ((nI (7 * n)) + (nI 4)), .ref 0, .int (xs ((7 * n) + 3)), .int (xs ((7 * n) + 2)), .int (xs ((7 * n) + 1)), .ref 238])) (by decide +kernel) rfl ?_
    dsimp only
    rw [show (nI (7 * n)) + (nI 4) = nI ((7 * n) + 4) from nI_add _ _]
    refine am_Rq.ial (k := (7 * n) + 4) (show decode (am_by 0) 309 = .ok (.iaload, 1) by decide +kernel) h01 (by omega) (by omega) ?_
    refine am_Rq.callV (show decode (am_by 0) 310 = .ok (.invokevirtual 91, 3) by decide +kernel) rfl [.int (xs ((7 * n) + 1)), .int (xs ((7 * n) + 2)), .int (xs ((7 * n) + 3)), .int (xs ((7 * n) + 4))] [] rfl rfl (Nat.le_of_ble_eq_true rfl) rfl hO1 rfl (hm hp1 th hM1) ?_
    rintro hp2 _ ⟨rfl, ⟨f2, hM2, hs2, hR2⟩, hf2⟩
    have h02 := (hf2.2.2 0 (fun q => by omega)).trans h01
    have hU2 := (hf2.2.2 246 (fun q => by omega)).trans hU1
    have hC2 := hC1.kept (fun a a1 a2 => hf2.2.2 a (fun q => by omega))
    show am_Rq _ 0 313 [some (.ref 0), some (.ref 2), some (.ref 238), some (.ref 246), some (.int (nI (7 * n))), some (.int (nI 0)), z6] [.int v] _ _
    refine am_Rq.blk (is := [(.istore 6, 2), (.aload_n 2, 1)]) (q := (316, [some (.ref 0), some (.ref 2), some (.ref 238), some (.ref 246), some (.int (nI (7 * n))), some (.int (nI 0)), some (.int v)], [.ref 238])) (by decide +kernel) rfl ?_
    dsimp only
    have hM3 := hM2
    obtain ⟨⟨⟨co2, hO2⟩, hS2, -⟩, -⟩ := hM3
    refine am_Rq.callV (show decode (am_by 0) 316 = .ok (.invokevirtual 85, 3) by decide +kernel) rfl [] [] rfl rfl (Nat.le_of_ble_eq_true rfl) rfl hO2 rfl (m_thrown (d := 8) hO2 hS2) ?_
    rintro hq _ ⟨e1, rfl⟩
    rw [e1]
    clear e1 hq
    show am_Rq _ 0 319 [some (.ref 0), some (.ref 2), some (.ref 238), some (.ref 246), some (.int (nI (7 * n))), some (.int (nI 0)), some (.int v)] [.int (nI 0)] _ _
    refine am_Rq.blk (is := [(.iload 5, 2)]) (q := (321, [some (.ref 0), some (.ref 2), some (.ref 238), some (.ref 246), some (.int (nI (7 * n))), some (.int (nI 0)), some (.int v)], [.int (nI 0), .int (nI 0)])) (by decide +kernel) rfl ?_
    dsimp only
    refine am_Rq.if2T (t := 326) (show decode (am_by 0) 321 = .ok (.if_icmp .eq 5, 3) by decide +kernel) (by decide) (rfl) ?_
    refine am_Rq.blk (is := [(.iload 5, 2)]) (q := (328, [some (.ref 0), some (.ref 2), some (.ref 238), some (.ref 246), some (.int (nI (7 * n))), some (.int (nI 0)), some (.int v)], [.int (nI 0)])) (by decide +kernel) rfl ?_
    dsimp only
    refine am_Rq.if1F (show decode (am_by 0) 328 = .ok (.ifCond .ne 15, 3) by decide +kernel) (by decide) (rfl) ?_
    refine am_Rq.blk (is := [(.aload_n 3, 1), (.iconst 0, 1)]) (q := (333, [some (.ref 0), some (.ref 2), some (.ref 238), some (.ref 246), some (.int (nI (7 * n))), some (.int (nI 0)), some (.int v)], [.int (nI 0), .ref 246])) (by decide +kernel) rfl ?_
    dsimp only
    refine am_Rq.lal (k := 0) (show decode (am_by 0) 333 = .ok (.laload, 1) by decide +kernel) hU2 (by omega) (by omega) ?_
    refine am_Rq.blk (is := [(.iload 6, 2)]) (q := (336, [some (.ref 0), some (.ref 2), some (.ref 238), some (.ref 246), some (.int (nI (7 * n))), some (.int (nI 0)), some (.int v)], [.int v, .long ((va_up ou 0 v.toInt64) 0)])) (by decide +kernel) rfl ?_
    dsimp only
    rw [va_up_self]
    refine am_Rq.blk (is := [(.i2l, 1), (.lcmp, 1)]) (q := (338, [some (.ref 0), some (.ref 2), some (.ref 238), some (.ref 246), some (.int (nI (7 * n))), some (.int (nI 0)), some (.int v)], [.int (lg_cmp v.toInt64 v.toInt64)])) (by decide +kernel) rfl ?_
    dsimp only
    refine am_Rq.if1T (t := 343) (show decode (am_by 0) 338 = .ok (.ifCond .eq 5, 3) by decide +kernel) (by decide) (by rw [nm_ceq]; exact decide_eq_true rfl) ?_
    refine am_Rq.blk (is := [(.goto 1081, 3)]) (q := (1424, [some (.ref 0), some (.ref 2), some (.ref 238), some (.ref 246), some (.int (nI (7 * n))), some (.int (nI 0)), some (.int v)], [])) (by decide +kernel) rfl ?_
    dsimp only
    refine am_Rq.blk (is := [(.iinc 4 7, 3)]) (q := (1427, [some (.ref 0), some (.ref 2), some (.ref 238), some (.ref 246), some (.int ((nI (7 * n)) + (nI 7))), some (.int (nI 0)), some (.int v)], [])) (by decide +kernel) rfl ?_
    dsimp only
    rw [show (nI (7 * n)) + (nI 7) = nI ((7 * n) + 7) from nI_add _ _]
    refine am_Rq.blk (is := [(.goto (-1404), 3)]) (q := (23, [some (.ref 0), some (.ref 2), some (.ref 238), some (.ref 246), some (.int (nI ((7 * n) + 7))), some (.int (nI 0)), some (.int v)], [])) (by decide +kernel) rfl ?_
    dsimp only
    rw [show 7 * n + 7 = 7 * (n + 1) by omega]
    exact ih _ _ _ ⟨s1, f2, kn1, nx1, ks1, hs2, 0, h02, hC2, hM2, ⟨_, hU2⟩, hR2, by rw [hf2.1, hf1.1]; omega, by rw [hf2.1, hf1.1]; omega, by rw [hf2.2.1, hf1.2.1]; omega⟩
  ·
    simp only [List.mem_cons, Prod.mk.injEq, List.not_mem_nil, or_false] at hin
    rcases hin with ⟨rfl, rfl⟩ | ⟨rfl, rfl⟩ | ⟨rfl, rfl⟩
    ·
      refine am_Rq.blk (is := [(.aload_n 1, 1), (.aload_n 0, 1), (.iload 4, 2), (.iconst 1, 1), (.iadd, 1)]) (q := (260, [some (.ref 0), some (.ref 2), some (.ref 238), some (.ref 246), some (.int (nI (7 * n))), z5, z6], [.int ((nI (7 * n)) + (nI 1)), .ref 0, .ref 2])) (by decide +kernel) rfl ?_
      dsimp only
      rw [show (nI (7 * n)) + (nI 1) = nI ((7 * n) + 1) from nI_add _ _]
      refine am_Rq.ial (k := (7 * n) + 1) (show decode (am_by 0) 260 = .ok (.iaload, 1) by decide +kernel) h0 (by omega) (by omega) ?_
      refine am_Rq.blk (is := [(.aload_n 0, 1), (.iload 4, 2), (.iconst 2, 1), (.iadd, 1)]) (q := (266, [some (.ref 0), some (.ref 2), some (.ref 238), some (.ref 246), some (.int (nI (7 * n))), z5, z6], [.int ((nI (7 * n)) + (nI 2)), .ref 0, .int (xs ((7 * n) + 1)), .ref 2])) (by decide +kernel) rfl ?_
      dsimp only
      rw [show (nI (7 * n)) + (nI 2) = nI ((7 * n) + 2) from nI_add _ _]
      refine am_Rq.ial (k := (7 * n) + 2) (show decode (am_by 0) 266 = .ok (.iaload, 1) by decide +kernel) h0 (by omega) (by omega) ?_
      refine am_Rq.blk (is := [(.aload_n 0, 1), (.iload 4, 2), (.iconst 3, 1), (.iadd, 1)]) (q := (272, [some (.ref 0), some (.ref 2), some (.ref 238), some (.ref 246), some (.int (nI (7 * n))), z5, z6], [.int ((nI (7 * n)) + (nI 3)), .ref 0, .int (xs ((7 * n) + 2)), .int (xs ((7 * n) + 1)), .ref 2])) (by decide +kernel) rfl ?_
      dsimp only
      rw [show (nI (7 * n)) + (nI 3) = nI ((7 * n) + 3) from nI_add _ _]
      refine am_Rq.ial (k := (7 * n) + 3) (show decode (am_by 0) 272 = .ok (.iaload, 1) by decide +kernel) h0 (by omega) (by omega) ?_
      refine am_Rq.blk (is := [(.aload_n 0, 1), (.iload 4, 2), (.iconst 4, 1), (.iadd, 1)]) (q := (278, [some (.ref 0), some (.ref 2), some (.ref 238), some (.ref 246), some (.int (nI (7 * n))), z5, z6], [.int ((nI (7 * n)) + (nI 4)), .ref 0, .int (xs ((7 * n) + 3)), .int (xs ((7 * n) + 2)), .int (xs ((7 * n) + 1)), .ref 2])) (by decide +kernel) rfl ?_
      dsimp only
      rw [show (nI (7 * n)) + (nI 4) = nI ((7 * n) + 4) from nI_add _ _]
      refine am_Rq.ial (k := (7 * n) + 4) (show decode (am_by 0) 278 = .ok (.iaload, 1) by decide +kernel) h0 (by omega) (by omega) ?_
      refine am_Rq.blk (is := [(.aload_n 3, 1)]) (q := (280, [some (.ref 0), some (.ref 2), some (.ref 238), some (.ref 246), some (.int (nI (7 * n))), z5, z6], [.ref 246, .int (xs ((7 * n) + 4)), .int (xs ((7 * n) + 3)), .int (xs ((7 * n) + 2)), .int (xs ((7 * n) + 1)), .ref 2])) (by decide +kernel) rfl ?_
      dsimp only
      refine am_Rq.callS (show decode (am_by 0) 280 = .ok (.invokestatic 88, 3) by decide +kernel) rfl [.ref 2, .int (xs ((7 * n) + 1)), .int (xs ((7 * n) + 2)), .int (xs ((7 * n) + 3)), .int (xs ((7 * n) + 4)), .ref 246] [] rfl rfl (Nat.le_of_ble_eq_true rfl) rfl rfl (w_issue_no2 hC hU hc) ?_
      rintro hp1 _ ⟨rfl, he1⟩
      have hk : ∀ a, a < 247 → hp1[a]? = hp[a]? := fun a ha => by rw [he1]; exact List.getElem?_append_left (by omega)
      have hl1 : hp1.length = hp.length + 1 := by rw [he1]; exact ap_len rfl
      have ht1 : am_tot hp1 = am_tot hp + 6 := by rw [he1]; exact c_exT _ _
      have h01 := (hk 0 (by omega)).trans h0
      have hU1 := (hk 246 (by omega)).trans hU
      have hM1 := hM.kept (fun a a1 a2 => hk a (by omega))
      have hC1 := hC.kept (fun a a1 a2 => hk a (by omega))
      have hM0 := hM1
      obtain ⟨⟨⟨co1, hO1⟩, -⟩, -⟩ := hM0
      show am_Rq _ 0 283 [some (.ref 0), some (.ref 2), some (.ref 238), some (.ref 246), some (.int (nI (7 * n))), z5, z6] [.int (nI 1)] _ _
      refine am_Rq.blk (is := [(.istore 5, 2), (.aload_n 2, 1), (.aload_n 0, 1), (.iload 4, 2), (.iconst 1, 1), (.iadd, 1)]) (q := (291, [some (.ref 0), some (.ref 2), some (.ref 238), some (.ref 246), some (.int (nI (7 * n))), some (.int (nI 1)), z6], [.int ((nI (7 * n)) + (nI 1)), .ref 0, .ref 238])) (by decide +kernel) rfl ?_
      dsimp only
      rw [show (nI (7 * n)) + (nI 1) = nI ((7 * n) + 1) from nI_add _ _]
      refine am_Rq.ial (k := (7 * n) + 1) (show decode (am_by 0) 291 = .ok (.iaload, 1) by decide +kernel) h01 (by omega) (by omega) ?_
      refine am_Rq.blk (is := [(.aload_n 0, 1), (.iload 4, 2), (.iconst 2, 1), (.iadd, 1)]) (q := (297, [some (.ref 0), some (.ref 2), some (.ref 238), some (.ref 246), some (.int (nI (7 * n))), some (.int (nI 1)), z6], [.int ((nI (7 * n)) + (nI 2)), .ref 0, .int (xs ((7 * n) + 1)), .ref 238])) (by decide +kernel) rfl ?_
      dsimp only
      rw [show (nI (7 * n)) + (nI 2) = nI ((7 * n) + 2) from nI_add _ _]
      refine am_Rq.ial (k := (7 * n) + 2) (show decode (am_by 0) 297 = .ok (.iaload, 1) by decide +kernel) h01 (by omega) (by omega) ?_
      refine am_Rq.blk (is := [(.aload_n 0, 1), (.iload 4, 2), (.iconst 3, 1), (.iadd, 1)]) (q := (303, [some (.ref 0), some (.ref 2), some (.ref 238), some (.ref 246), some (.int (nI (7 * n))), some (.int (nI 1)), z6], [.int ((nI (7 * n)) + (nI 3)), .ref 0, .int (xs ((7 * n) + 2)), .int (xs ((7 * n) + 1)), .ref 238])) (by decide +kernel) rfl ?_
      dsimp only
      rw [show (nI (7 * n)) + (nI 3) = nI ((7 * n) + 3) from nI_add _ _]
      refine am_Rq.ial (k := (7 * n) + 3) (show decode (am_by 0) 303 = .ok (.iaload, 1) by decide +kernel) h01 (by omega) (by omega) ?_
      refine am_Rq.blk (is := [(.aload_n 0, 1), (.iload 4, 2), (.iconst 4, 1), (.iadd, 1)]) (q := (309, [some (.ref 0), some (.ref 2), some (.ref 238), some (.ref 246), some (.int (nI (7 * n))), some (.int (nI 1)), z6], [.int ((nI (7 * n)) + (nI 4)), .ref 0, .int (xs ((7 * n) + 3)), .int (xs ((7 * n) + 2)), .int (xs ((7 * n) + 1)), .ref 238])) (by decide +kernel) rfl ?_
      dsimp only
      rw [show (nI (7 * n)) + (nI 4) = nI ((7 * n) + 4) from nI_add _ _]
      refine am_Rq.ial (k := (7 * n) + 4) (show decode (am_by 0) 309 = .ok (.iaload, 1) by decide +kernel) h01 (by omega) (by omega) ?_
      refine am_Rq.callV (show decode (am_by 0) 310 = .ok (.invokevirtual 91, 3) by decide +kernel) rfl [.int (xs ((7 * n) + 1)), .int (xs ((7 * n) + 2)), .int (xs ((7 * n) + 3)), .int (xs ((7 * n) + 4))] [] rfl rfl (Nat.le_of_ble_eq_true rfl) rfl hO1 rfl (hm hp1 th hM1) ?_
      rintro hp2 _ ⟨rfl, hM2, hf2⟩
      have h02 := (hf2.2.2 0 (fun q => by omega)).trans h01
      have hU2 := (hf2.2.2 246 (fun q => by omega)).trans hU1
      have hC2 := hC1.kept (fun a a1 a2 => hf2.2.2 a (fun q => by omega))
      show am_Rq _ 0 313 [some (.ref 0), some (.ref 2), some (.ref 238), some (.ref 246), some (.int (nI (7 * n))), some (.int (nI 1)), z6] [.int (nI 0)] _ _
      refine am_Rq.blk (is := [(.istore 6, 2), (.aload_n 2, 1)]) (q := (316, [some (.ref 0), some (.ref 2), some (.ref 238), some (.ref 246), some (.int (nI (7 * n))), some (.int (nI 1)), some (.int (nI 0))], [.ref 238])) (by decide +kernel) rfl ?_
      dsimp only
      have hM3 := hM2
      obtain ⟨⟨⟨co2, hO2⟩, hS2, -⟩, -⟩ := hM3
      refine am_Rq.callV (show decode (am_by 0) 316 = .ok (.invokevirtual 85, 3) by decide +kernel) rfl [] [] rfl rfl (Nat.le_of_ble_eq_true rfl) rfl hO2 rfl (m_thrown (d := 8) hO2 hS2) ?_
      rintro hq _ ⟨e1, rfl⟩
      rw [e1]
      clear e1 hq
      show am_Rq _ 0 319 [some (.ref 0), some (.ref 2), some (.ref 238), some (.ref 246), some (.int (nI (7 * n))), some (.int (nI 1)), some (.int (nI 0))] [.int (nI 1)] _ _
      refine am_Rq.blk (is := [(.iload 5, 2)]) (q := (321, [some (.ref 0), some (.ref 2), some (.ref 238), some (.ref 246), some (.int (nI (7 * n))), some (.int (nI 1)), some (.int (nI 0))], [.int (nI 1), .int (nI 1)])) (by decide +kernel) rfl ?_
      dsimp only
      refine am_Rq.if2T (t := 326) (show decode (am_by 0) 321 = .ok (.if_icmp .eq 5, 3) by decide +kernel) (by decide) (rfl) ?_
      refine am_Rq.blk (is := [(.iload 5, 2)]) (q := (328, [some (.ref 0), some (.ref 2), some (.ref 238), some (.ref 246), some (.int (nI (7 * n))), some (.int (nI 1)), some (.int (nI 0))], [.int (nI 1)])) (by decide +kernel) rfl ?_
      dsimp only
      refine am_Rq.if1T (t := 343) (show decode (am_by 0) 328 = .ok (.ifCond .ne 15, 3) by decide +kernel) (by decide) (rfl) ?_
      refine am_Rq.blk (is := [(.goto 1081, 3)]) (q := (1424, [some (.ref 0), some (.ref 2), some (.ref 238), some (.ref 246), some (.int (nI (7 * n))), some (.int (nI 1)), some (.int (nI 0))], [])) (by decide +kernel) rfl ?_
      dsimp only
      refine am_Rq.blk (is := [(.iinc 4 7, 3)]) (q := (1427, [some (.ref 0), some (.ref 2), some (.ref 238), some (.ref 246), some (.int ((nI (7 * n)) + (nI 7))), some (.int (nI 1)), some (.int (nI 0))], [])) (by decide +kernel) rfl ?_
      dsimp only
      rw [show (nI (7 * n)) + (nI 7) = nI ((7 * n) + 7) from nI_add _ _]
      refine am_Rq.blk (is := [(.goto (-1404), 3)]) (q := (23, [some (.ref 0), some (.ref 2), some (.ref 238), some (.ref 246), some (.int (nI ((7 * n) + 7))), some (.int (nI 1)), some (.int (nI 0))], [])) (by decide +kernel) rfl ?_
      dsimp only
      rw [show 7 * n + 7 = 7 * (n + 1) by omega]
      exact ih _ _ _ ⟨s, f, kn, nx, ks, hs, 1, h02, hC2, hM2, ⟨_, hU2⟩, hR.more, by rw [hf2.1, hl1]; omega, by rw [hf2.1, hl1]; omega, by rw [hf2.2.1, ht1]; omega⟩
    ·
      refine am_Rq.blk (is := [(.aload_n 1, 1), (.aload_n 0, 1), (.iload 4, 2), (.iconst 1, 1), (.iadd, 1)]) (q := (260, [some (.ref 0), some (.ref 2), some (.ref 238), some (.ref 246), some (.int (nI (7 * n))), z5, z6], [.int ((nI (7 * n)) + (nI 1)), .ref 0, .ref 2])) (by decide +kernel) rfl ?_
      dsimp only
      rw [show (nI (7 * n)) + (nI 1) = nI ((7 * n) + 1) from nI_add _ _]
      refine am_Rq.ial (k := (7 * n) + 1) (show decode (am_by 0) 260 = .ok (.iaload, 1) by decide +kernel) h0 (by omega) (by omega) ?_
      refine am_Rq.blk (is := [(.aload_n 0, 1), (.iload 4, 2), (.iconst 2, 1), (.iadd, 1)]) (q := (266, [some (.ref 0), some (.ref 2), some (.ref 238), some (.ref 246), some (.int (nI (7 * n))), z5, z6], [.int ((nI (7 * n)) + (nI 2)), .ref 0, .int (xs ((7 * n) + 1)), .ref 2])) (by decide +kernel) rfl ?_
      dsimp only
      rw [show (nI (7 * n)) + (nI 2) = nI ((7 * n) + 2) from nI_add _ _]
      refine am_Rq.ial (k := (7 * n) + 2) (show decode (am_by 0) 266 = .ok (.iaload, 1) by decide +kernel) h0 (by omega) (by omega) ?_
      refine am_Rq.blk (is := [(.aload_n 0, 1), (.iload 4, 2), (.iconst 3, 1), (.iadd, 1)]) (q := (272, [some (.ref 0), some (.ref 2), some (.ref 238), some (.ref 246), some (.int (nI (7 * n))), z5, z6], [.int ((nI (7 * n)) + (nI 3)), .ref 0, .int (xs ((7 * n) + 2)), .int (xs ((7 * n) + 1)), .ref 2])) (by decide +kernel) rfl ?_
      dsimp only
      rw [show (nI (7 * n)) + (nI 3) = nI ((7 * n) + 3) from nI_add _ _]
      refine am_Rq.ial (k := (7 * n) + 3) (show decode (am_by 0) 272 = .ok (.iaload, 1) by decide +kernel) h0 (by omega) (by omega) ?_
      refine am_Rq.blk (is := [(.aload_n 0, 1), (.iload 4, 2), (.iconst 4, 1), (.iadd, 1)]) (q := (278, [some (.ref 0), some (.ref 2), some (.ref 238), some (.ref 246), some (.int (nI (7 * n))), z5, z6], [.int ((nI (7 * n)) + (nI 4)), .ref 0, .int (xs ((7 * n) + 3)), .int (xs ((7 * n) + 2)), .int (xs ((7 * n) + 1)), .ref 2])) (by decide +kernel) rfl ?_
      dsimp only
      rw [show (nI (7 * n)) + (nI 4) = nI ((7 * n) + 4) from nI_add _ _]
      refine am_Rq.ial (k := (7 * n) + 4) (show decode (am_by 0) 278 = .ok (.iaload, 1) by decide +kernel) h0 (by omega) (by omega) ?_
      refine am_Rq.blk (is := [(.aload_n 3, 1)]) (q := (280, [some (.ref 0), some (.ref 2), some (.ref 238), some (.ref 246), some (.int (nI (7 * n))), z5, z6], [.ref 246, .int (xs ((7 * n) + 4)), .int (xs ((7 * n) + 3)), .int (xs ((7 * n) + 2)), .int (xs ((7 * n) + 1)), .ref 2])) (by decide +kernel) rfl ?_
      dsimp only
      refine am_Rq.callS (show decode (am_by 0) 280 = .ok (.invokestatic 88, 3) by decide +kernel) rfl [.ref 2, .int (xs ((7 * n) + 1)), .int (xs ((7 * n) + 2)), .int (xs ((7 * n) + 3)), .int (xs ((7 * n) + 4)), .ref 246] [] rfl rfl (Nat.le_of_ble_eq_true rfl) rfl rfl (w_issue_no0 hC hU hc) ?_
      rintro hp1 _ ⟨rfl, he1⟩
      have hk : ∀ a, a < 247 → hp1[a]? = hp[a]? := fun a ha => by rw [he1]; exact List.getElem?_append_left (by omega)
      have hl1 : hp1.length = hp.length + 1 := by rw [he1]; exact ap_len rfl
      have ht1 : am_tot hp1 = am_tot hp + 6 := by rw [he1]; exact c_exT _ _
      have h01 := (hk 0 (by omega)).trans h0
      have hU1 := (hk 246 (by omega)).trans hU
      have hM1 := hM.kept (fun a a1 a2 => hk a (by omega))
      have hC1 := hC.kept (fun a a1 a2 => hk a (by omega))
      have hM0 := hM1
      obtain ⟨⟨⟨co1, hO1⟩, -⟩, -⟩ := hM0
      show am_Rq _ 0 283 [some (.ref 0), some (.ref 2), some (.ref 238), some (.ref 246), some (.int (nI (7 * n))), z5, z6] [.int (nI 2)] _ _
      refine am_Rq.blk (is := [(.istore 5, 2), (.aload_n 2, 1), (.aload_n 0, 1), (.iload 4, 2), (.iconst 1, 1), (.iadd, 1)]) (q := (291, [some (.ref 0), some (.ref 2), some (.ref 238), some (.ref 246), some (.int (nI (7 * n))), some (.int (nI 2)), z6], [.int ((nI (7 * n)) + (nI 1)), .ref 0, .ref 238])) (by decide +kernel) rfl ?_
      dsimp only
      rw [show (nI (7 * n)) + (nI 1) = nI ((7 * n) + 1) from nI_add _ _]
      refine am_Rq.ial (k := (7 * n) + 1) (show decode (am_by 0) 291 = .ok (.iaload, 1) by decide +kernel) h01 (by omega) (by omega) ?_
      refine am_Rq.blk (is := [(.aload_n 0, 1), (.iload 4, 2), (.iconst 2, 1), (.iadd, 1)]) (q := (297, [some (.ref 0), some (.ref 2), some (.ref 238), some (.ref 246), some (.int (nI (7 * n))), some (.int (nI 2)), z6], [.int ((nI (7 * n)) + (nI 2)), .ref 0, .int (xs ((7 * n) + 1)), .ref 238])) (by decide +kernel) rfl ?_
      dsimp only
      rw [show (nI (7 * n)) + (nI 2) = nI ((7 * n) + 2) from nI_add _ _]
      refine am_Rq.ial (k := (7 * n) + 2) (show decode (am_by 0) 297 = .ok (.iaload, 1) by decide +kernel) h01 (by omega) (by omega) ?_
      refine am_Rq.blk (is := [(.aload_n 0, 1), (.iload 4, 2), (.iconst 3, 1), (.iadd, 1)]) (q := (303, [some (.ref 0), some (.ref 2), some (.ref 238), some (.ref 246), some (.int (nI (7 * n))), some (.int (nI 2)), z6], [.int ((nI (7 * n)) + (nI 3)), .ref 0, .int (xs ((7 * n) + 2)), .int (xs ((7 * n) + 1)), .ref 238])) (by decide +kernel) rfl ?_
      dsimp only
      rw [show (nI (7 * n)) + (nI 3) = nI ((7 * n) + 3) from nI_add _ _]
      refine am_Rq.ial (k := (7 * n) + 3) (show decode (am_by 0) 303 = .ok (.iaload, 1) by decide +kernel) h01 (by omega) (by omega) ?_
      refine am_Rq.blk (is := [(.aload_n 0, 1), (.iload 4, 2), (.iconst 4, 1), (.iadd, 1)]) (q := (309, [some (.ref 0), some (.ref 2), some (.ref 238), some (.ref 246), some (.int (nI (7 * n))), some (.int (nI 2)), z6], [.int ((nI (7 * n)) + (nI 4)), .ref 0, .int (xs ((7 * n) + 3)), .int (xs ((7 * n) + 2)), .int (xs ((7 * n) + 1)), .ref 238])) (by decide +kernel) rfl ?_
      dsimp only
      rw [show (nI (7 * n)) + (nI 4) = nI ((7 * n) + 4) from nI_add _ _]
      refine am_Rq.ial (k := (7 * n) + 4) (show decode (am_by 0) 309 = .ok (.iaload, 1) by decide +kernel) h01 (by omega) (by omega) ?_
      refine am_Rq.callV (show decode (am_by 0) 310 = .ok (.invokevirtual 91, 3) by decide +kernel) rfl [.int (xs ((7 * n) + 1)), .int (xs ((7 * n) + 2)), .int (xs ((7 * n) + 3)), .int (xs ((7 * n) + 4))] [] rfl rfl (Nat.le_of_ble_eq_true rfl) rfl hO1 rfl (hm hp1 th hM1) ?_
      rintro hp2 _ ⟨rfl, hM2, hf2⟩
      have h02 := (hf2.2.2 0 (fun q => by omega)).trans h01
      have hU2 := (hf2.2.2 246 (fun q => by omega)).trans hU1
      have hC2 := hC1.kept (fun a a1 a2 => hf2.2.2 a (fun q => by omega))
      show am_Rq _ 0 313 [some (.ref 0), some (.ref 2), some (.ref 238), some (.ref 246), some (.int (nI (7 * n))), some (.int (nI 2)), z6] [.int (nI 0)] _ _
      refine am_Rq.blk (is := [(.istore 6, 2), (.aload_n 2, 1)]) (q := (316, [some (.ref 0), some (.ref 2), some (.ref 238), some (.ref 246), some (.int (nI (7 * n))), some (.int (nI 2)), some (.int (nI 0))], [.ref 238])) (by decide +kernel) rfl ?_
      dsimp only
      have hM3 := hM2
      obtain ⟨⟨⟨co2, hO2⟩, hS2, -⟩, -⟩ := hM3
      refine am_Rq.callV (show decode (am_by 0) 316 = .ok (.invokevirtual 85, 3) by decide +kernel) rfl [] [] rfl rfl (Nat.le_of_ble_eq_true rfl) rfl hO2 rfl (m_thrown (d := 8) hO2 hS2) ?_
      rintro hq _ ⟨e1, rfl⟩
      rw [e1]
      clear e1 hq
      show am_Rq _ 0 319 [some (.ref 0), some (.ref 2), some (.ref 238), some (.ref 246), some (.int (nI (7 * n))), some (.int (nI 2)), some (.int (nI 0))] [.int (nI 2)] _ _
      refine am_Rq.blk (is := [(.iload 5, 2)]) (q := (321, [some (.ref 0), some (.ref 2), some (.ref 238), some (.ref 246), some (.int (nI (7 * n))), some (.int (nI 2)), some (.int (nI 0))], [.int (nI 2), .int (nI 2)])) (by decide +kernel) rfl ?_
      dsimp only
      refine am_Rq.if2T (t := 326) (show decode (am_by 0) 321 = .ok (.if_icmp .eq 5, 3) by decide +kernel) (by decide) (rfl) ?_
      refine am_Rq.blk (is := [(.iload 5, 2)]) (q := (328, [some (.ref 0), some (.ref 2), some (.ref 238), some (.ref 246), some (.int (nI (7 * n))), some (.int (nI 2)), some (.int (nI 0))], [.int (nI 2)])) (by decide +kernel) rfl ?_
      dsimp only
      refine am_Rq.if1T (t := 343) (show decode (am_by 0) 328 = .ok (.ifCond .ne 15, 3) by decide +kernel) (by decide) (rfl) ?_
      refine am_Rq.blk (is := [(.goto 1081, 3)]) (q := (1424, [some (.ref 0), some (.ref 2), some (.ref 238), some (.ref 246), some (.int (nI (7 * n))), some (.int (nI 2)), some (.int (nI 0))], [])) (by decide +kernel) rfl ?_
      dsimp only
      refine am_Rq.blk (is := [(.iinc 4 7, 3)]) (q := (1427, [some (.ref 0), some (.ref 2), some (.ref 238), some (.ref 246), some (.int ((nI (7 * n)) + (nI 7))), some (.int (nI 2)), some (.int (nI 0))], [])) (by decide +kernel) rfl ?_
      dsimp only
      rw [show (nI (7 * n)) + (nI 7) = nI ((7 * n) + 7) from nI_add _ _]
      refine am_Rq.blk (is := [(.goto (-1404), 3)]) (q := (23, [some (.ref 0), some (.ref 2), some (.ref 238), some (.ref 246), some (.int (nI ((7 * n) + 7))), some (.int (nI 2)), some (.int (nI 0))], [])) (by decide +kernel) rfl ?_
      dsimp only
      rw [show 7 * n + 7 = 7 * (n + 1) by omega]
      exact ih _ _ _ ⟨s, f, kn, nx, ks, hs, 2, h02, hC2, hM2, ⟨_, hU2⟩, hR.more, by rw [hf2.1, hl1]; omega, by rw [hf2.1, hl1]; omega, by rw [hf2.2.1, ht1]; omega⟩
    ·
      refine am_Rq.blk (is := [(.aload_n 1, 1), (.aload_n 0, 1), (.iload 4, 2), (.iconst 1, 1), (.iadd, 1)]) (q := (260, [some (.ref 0), some (.ref 2), some (.ref 238), some (.ref 246), some (.int (nI (7 * n))), z5, z6], [.int ((nI (7 * n)) + (nI 1)), .ref 0, .ref 2])) (by decide +kernel) rfl ?_
      dsimp only
      rw [show (nI (7 * n)) + (nI 1) = nI ((7 * n) + 1) from nI_add _ _]
      refine am_Rq.ial (k := (7 * n) + 1) (show decode (am_by 0) 260 = .ok (.iaload, 1) by decide +kernel) h0 (by omega) (by omega) ?_
      refine am_Rq.blk (is := [(.aload_n 0, 1), (.iload 4, 2), (.iconst 2, 1), (.iadd, 1)]) (q := (266, [some (.ref 0), some (.ref 2), some (.ref 238), some (.ref 246), some (.int (nI (7 * n))), z5, z6], [.int ((nI (7 * n)) + (nI 2)), .ref 0, .int (xs ((7 * n) + 1)), .ref 2])) (by decide +kernel) rfl ?_
      dsimp only
      rw [show (nI (7 * n)) + (nI 2) = nI ((7 * n) + 2) from nI_add _ _]
      refine am_Rq.ial (k := (7 * n) + 2) (show decode (am_by 0) 266 = .ok (.iaload, 1) by decide +kernel) h0 (by omega) (by omega) ?_
      refine am_Rq.blk (is := [(.aload_n 0, 1), (.iload 4, 2), (.iconst 3, 1), (.iadd, 1)]) (q := (272, [some (.ref 0), some (.ref 2), some (.ref 238), some (.ref 246), some (.int (nI (7 * n))), z5, z6], [.int ((nI (7 * n)) + (nI 3)), .ref 0, .int (xs ((7 * n) + 2)), .int (xs ((7 * n) + 1)), .ref 2])) (by decide +kernel) rfl ?_
      dsimp only
      rw [show (nI (7 * n)) + (nI 3) = nI ((7 * n) + 3) from nI_add _ _]
      refine am_Rq.ial (k := (7 * n) + 3) (show decode (am_by 0) 272 = .ok (.iaload, 1) by decide +kernel) h0 (by omega) (by omega) ?_
      refine am_Rq.blk (is := [(.aload_n 0, 1), (.iload 4, 2), (.iconst 4, 1), (.iadd, 1)]) (q := (278, [some (.ref 0), some (.ref 2), some (.ref 238), some (.ref 246), some (.int (nI (7 * n))), z5, z6], [.int ((nI (7 * n)) + (nI 4)), .ref 0, .int (xs ((7 * n) + 3)), .int (xs ((7 * n) + 2)), .int (xs ((7 * n) + 1)), .ref 2])) (by decide +kernel) rfl ?_
      dsimp only
      rw [show (nI (7 * n)) + (nI 4) = nI ((7 * n) + 4) from nI_add _ _]
      refine am_Rq.ial (k := (7 * n) + 4) (show decode (am_by 0) 278 = .ok (.iaload, 1) by decide +kernel) h0 (by omega) (by omega) ?_
      refine am_Rq.blk (is := [(.aload_n 3, 1)]) (q := (280, [some (.ref 0), some (.ref 2), some (.ref 238), some (.ref 246), some (.int (nI (7 * n))), z5, z6], [.ref 246, .int (xs ((7 * n) + 4)), .int (xs ((7 * n) + 3)), .int (xs ((7 * n) + 2)), .int (xs ((7 * n) + 1)), .ref 2])) (by decide +kernel) rfl ?_
      dsimp only
      refine am_Rq.callS (show decode (am_by 0) 280 = .ok (.invokestatic 88, 3) by decide +kernel) rfl [.ref 2, .int (xs ((7 * n) + 1)), .int (xs ((7 * n) + 2)), .int (xs ((7 * n) + 3)), .int (xs ((7 * n) + 4)), .ref 246] [] rfl rfl (Nat.le_of_ble_eq_true rfl) rfl rfl (w_issue_no1 hC hU hc) ?_
      rintro hp1 _ ⟨rfl, he1⟩
      have hk : ∀ a, a < 247 → hp1[a]? = hp[a]? := fun a ha => by rw [he1]; exact List.getElem?_append_left (by omega)
      have hl1 : hp1.length = hp.length + 1 := by rw [he1]; exact ap_len rfl
      have ht1 : am_tot hp1 = am_tot hp + 6 := by rw [he1]; exact c_exT _ _
      have h01 := (hk 0 (by omega)).trans h0
      have hU1 := (hk 246 (by omega)).trans hU
      have hM1 := hM.kept (fun a a1 a2 => hk a (by omega))
      have hC1 := hC.kept (fun a a1 a2 => hk a (by omega))
      have hM0 := hM1
      obtain ⟨⟨⟨co1, hO1⟩, -⟩, -⟩ := hM0
      show am_Rq _ 0 283 [some (.ref 0), some (.ref 2), some (.ref 238), some (.ref 246), some (.int (nI (7 * n))), z5, z6] [.int (nI 3)] _ _
      refine am_Rq.blk (is := [(.istore 5, 2), (.aload_n 2, 1), (.aload_n 0, 1), (.iload 4, 2), (.iconst 1, 1), (.iadd, 1)]) (q := (291, [some (.ref 0), some (.ref 2), some (.ref 238), some (.ref 246), some (.int (nI (7 * n))), some (.int (nI 3)), z6], [.int ((nI (7 * n)) + (nI 1)), .ref 0, .ref 238])) (by decide +kernel) rfl ?_
      dsimp only
      rw [show (nI (7 * n)) + (nI 1) = nI ((7 * n) + 1) from nI_add _ _]
      refine am_Rq.ial (k := (7 * n) + 1) (show decode (am_by 0) 291 = .ok (.iaload, 1) by decide +kernel) h01 (by omega) (by omega) ?_
      refine am_Rq.blk (is := [(.aload_n 0, 1), (.iload 4, 2), (.iconst 2, 1), (.iadd, 1)]) (q := (297, [some (.ref 0), some (.ref 2), some (.ref 238), some (.ref 246), some (.int (nI (7 * n))), some (.int (nI 3)), z6], [.int ((nI (7 * n)) + (nI 2)), .ref 0, .int (xs ((7 * n) + 1)), .ref 238])) (by decide +kernel) rfl ?_
      dsimp only
      rw [show (nI (7 * n)) + (nI 2) = nI ((7 * n) + 2) from nI_add _ _]
      refine am_Rq.ial (k := (7 * n) + 2) (show decode (am_by 0) 297 = .ok (.iaload, 1) by decide +kernel) h01 (by omega) (by omega) ?_
      refine am_Rq.blk (is := [(.aload_n 0, 1), (.iload 4, 2), (.iconst 3, 1), (.iadd, 1)]) (q := (303, [some (.ref 0), some (.ref 2), some (.ref 238), some (.ref 246), some (.int (nI (7 * n))), some (.int (nI 3)), z6], [.int ((nI (7 * n)) + (nI 3)), .ref 0, .int (xs ((7 * n) + 2)), .int (xs ((7 * n) + 1)), .ref 238])) (by decide +kernel) rfl ?_
      dsimp only
      rw [show (nI (7 * n)) + (nI 3) = nI ((7 * n) + 3) from nI_add _ _]
      refine am_Rq.ial (k := (7 * n) + 3) (show decode (am_by 0) 303 = .ok (.iaload, 1) by decide +kernel) h01 (by omega) (by omega) ?_
      refine am_Rq.blk (is := [(.aload_n 0, 1), (.iload 4, 2), (.iconst 4, 1), (.iadd, 1)]) (q := (309, [some (.ref 0), some (.ref 2), some (.ref 238), some (.ref 246), some (.int (nI (7 * n))), some (.int (nI 3)), z6], [.int ((nI (7 * n)) + (nI 4)), .ref 0, .int (xs ((7 * n) + 3)), .int (xs ((7 * n) + 2)), .int (xs ((7 * n) + 1)), .ref 238])) (by decide +kernel) rfl ?_
      dsimp only
      rw [show (nI (7 * n)) + (nI 4) = nI ((7 * n) + 4) from nI_add _ _]
      refine am_Rq.ial (k := (7 * n) + 4) (show decode (am_by 0) 309 = .ok (.iaload, 1) by decide +kernel) h01 (by omega) (by omega) ?_
      refine am_Rq.callV (show decode (am_by 0) 310 = .ok (.invokevirtual 91, 3) by decide +kernel) rfl [.int (xs ((7 * n) + 1)), .int (xs ((7 * n) + 2)), .int (xs ((7 * n) + 3)), .int (xs ((7 * n) + 4))] [] rfl rfl (Nat.le_of_ble_eq_true rfl) rfl hO1 rfl (hm hp1 th hM1) ?_
      rintro hp2 _ ⟨rfl, hM2, hf2⟩
      have h02 := (hf2.2.2 0 (fun q => by omega)).trans h01
      have hU2 := (hf2.2.2 246 (fun q => by omega)).trans hU1
      have hC2 := hC1.kept (fun a a1 a2 => hf2.2.2 a (fun q => by omega))
      show am_Rq _ 0 313 [some (.ref 0), some (.ref 2), some (.ref 238), some (.ref 246), some (.int (nI (7 * n))), some (.int (nI 3)), z6] [.int (nI 0)] _ _
      refine am_Rq.blk (is := [(.istore 6, 2), (.aload_n 2, 1)]) (q := (316, [some (.ref 0), some (.ref 2), some (.ref 238), some (.ref 246), some (.int (nI (7 * n))), some (.int (nI 3)), some (.int (nI 0))], [.ref 238])) (by decide +kernel) rfl ?_
      dsimp only
      have hM3 := hM2
      obtain ⟨⟨⟨co2, hO2⟩, hS2, -⟩, -⟩ := hM3
      refine am_Rq.callV (show decode (am_by 0) 316 = .ok (.invokevirtual 85, 3) by decide +kernel) rfl [] [] rfl rfl (Nat.le_of_ble_eq_true rfl) rfl hO2 rfl (m_thrown (d := 8) hO2 hS2) ?_
      rintro hq _ ⟨e1, rfl⟩
      rw [e1]
      clear e1 hq
      show am_Rq _ 0 319 [some (.ref 0), some (.ref 2), some (.ref 238), some (.ref 246), some (.int (nI (7 * n))), some (.int (nI 3)), some (.int (nI 0))] [.int (nI 3)] _ _
      refine am_Rq.blk (is := [(.iload 5, 2)]) (q := (321, [some (.ref 0), some (.ref 2), some (.ref 238), some (.ref 246), some (.int (nI (7 * n))), some (.int (nI 3)), some (.int (nI 0))], [.int (nI 3), .int (nI 3)])) (by decide +kernel) rfl ?_
      dsimp only
      refine am_Rq.if2T (t := 326) (show decode (am_by 0) 321 = .ok (.if_icmp .eq 5, 3) by decide +kernel) (by decide) (rfl) ?_
      refine am_Rq.blk (is := [(.iload 5, 2)]) (q := (328, [some (.ref 0), some (.ref 2), some (.ref 238), some (.ref 246), some (.int (nI (7 * n))), some (.int (nI 3)), some (.int (nI 0))], [.int (nI 3)])) (by decide +kernel) rfl ?_
      dsimp only
      refine am_Rq.if1T (t := 343) (show decode (am_by 0) 328 = .ok (.ifCond .ne 15, 3) by decide +kernel) (by decide) (rfl) ?_
      refine am_Rq.blk (is := [(.goto 1081, 3)]) (q := (1424, [some (.ref 0), some (.ref 2), some (.ref 238), some (.ref 246), some (.int (nI (7 * n))), some (.int (nI 3)), some (.int (nI 0))], [])) (by decide +kernel) rfl ?_
      dsimp only
      refine am_Rq.blk (is := [(.iinc 4 7, 3)]) (q := (1427, [some (.ref 0), some (.ref 2), some (.ref 238), some (.ref 246), some (.int ((nI (7 * n)) + (nI 7))), some (.int (nI 3)), some (.int (nI 0))], [])) (by decide +kernel) rfl ?_
      dsimp only
      rw [show (nI (7 * n)) + (nI 7) = nI ((7 * n) + 7) from nI_add _ _]
      refine am_Rq.blk (is := [(.goto (-1404), 3)]) (q := (23, [some (.ref 0), some (.ref 2), some (.ref 238), some (.ref 246), some (.int (nI ((7 * n) + 7))), some (.int (nI 3)), some (.int (nI 0))], [])) (by decide +kernel) rfl ?_
      dsimp only
      rw [show 7 * n + 7 = 7 * (n + 1) by omega]
      exact ih _ _ _ ⟨s, f, kn, nx, ks, hs, 3, h02, hC2, hM2, ⟨_, hU2⟩, hR.more, by rw [hf2.1, hl1]; omega, by rw [hf2.1, hl1]; omega, by rw [hf2.2.1, ht1]; omega⟩
theorem l_transfer {L n : Nat} {xs : Nat → Int32} (hL : L ≤ 3584) (hn : 7 * n + 7 ≤ L) {hp : am_H} (h : l_St L xs hp n) {Q : am_H → am_R → Prop} (ih : ∀ hp1 z5 z6, l_St L xs hp1 (n + 1) → am_Rq 9 0 23 [some (.ref 0), some (.ref 2), some (.ref 238), some (.ref 246), some (.int (nI (7 * (n + 1)))), z5, z6] [] hp1 Q) {z5 z6 : Option Value} : am_Rq 9 0 346 [some (.ref 0), some (.ref 2), some (.ref 238), some (.ref 246), some (.int (nI (7 * n))), z5, z6] [] hp Q := by
  obtain ⟨s, f, kn, nx, ks, hs, th, h0, hC, hM, ⟨ou, hU⟩, hR, l1, l2, l3⟩ := h
  have hp9 := p_transfer hR (by omega) (xs (7 * n + 1)) (xs (7 * n + 2)) (xs (7 * n + 3)) (xs (7 * n + 4))
  rcases hp9 with ⟨v, s1, kn1, nx1, ks1, hc, hm⟩ | ⟨k, c, hin, hc, hm⟩
  ·
    refine am_Rq.blk (is := [(.aload_n 1, 1), (.aload_n 0, 1), (.iload 4, 2), (.iconst 1, 1), (.iadd, 1)]) (q := (352, [some (.ref 0), some (.ref 2), some (.ref 238), some (.ref 246), some (.int (nI (7 * n))), z5, z6], [.int ((nI (7 * n)) + (nI 1)), .ref 0, .ref 2])) (by decide +kernel) rfl ?_
    dsimp only
    rw [show (nI (7 * n)) + (nI 1) = nI ((7 * n) + 1) from nI_add _ _]
    refine am_Rq.ial (k := (7 * n) + 1) (show decode (am_by 0) 352 = .ok (.iaload, 1) by decide +kernel) h0 (by omega) (by omega) ?_
    refine am_Rq.blk (is := [(.aload_n 0, 1), (.iload 4, 2), (.iconst 2, 1), (.iadd, 1)]) (q := (358, [some (.ref 0), some (.ref 2), some (.ref 238), some (.ref 246), some (.int (nI (7 * n))), z5, z6], [.int ((nI (7 * n)) + (nI 2)), .ref 0, .int (xs ((7 * n) + 1)), .ref 2])) (by decide +kernel) rfl ?_
    dsimp only
    rw [show (nI (7 * n)) + (nI 2) = nI ((7 * n) + 2) from nI_add _ _]
    refine am_Rq.ial (k := (7 * n) + 2) (show decode (am_by 0) 358 = .ok (.iaload, 1) by decide +kernel) h0 (by omega) (by omega) ?_
    refine am_Rq.blk (is := [(.aload_n 0, 1), (.iload 4, 2), (.iconst 3, 1), (.iadd, 1)]) (q := (364, [some (.ref 0), some (.ref 2), some (.ref 238), some (.ref 246), some (.int (nI (7 * n))), z5, z6], [.int ((nI (7 * n)) + (nI 3)), .ref 0, .int (xs ((7 * n) + 2)), .int (xs ((7 * n) + 1)), .ref 2])) (by decide +kernel) rfl ?_
    dsimp only
    rw [show (nI (7 * n)) + (nI 3) = nI ((7 * n) + 3) from nI_add _ _]
    refine am_Rq.ial (k := (7 * n) + 3) (show decode (am_by 0) 364 = .ok (.iaload, 1) by decide +kernel) h0 (by omega) (by omega) ?_
    refine am_Rq.blk (is := [(.aload_n 0, 1), (.iload 4, 2), (.iconst 4, 1), (.iadd, 1)]) (q := (370, [some (.ref 0), some (.ref 2), some (.ref 238), some (.ref 246), some (.int (nI (7 * n))), z5, z6], [.int ((nI (7 * n)) + (nI 4)), .ref 0, .int (xs ((7 * n) + 3)), .int (xs ((7 * n) + 2)), .int (xs ((7 * n) + 1)), .ref 2])) (by decide +kernel) rfl ?_
    dsimp only
    rw [show (nI (7 * n)) + (nI 4) = nI ((7 * n) + 4) from nI_add _ _]
    refine am_Rq.ial (k := (7 * n) + 4) (show decode (am_by 0) 370 = .ok (.iaload, 1) by decide +kernel) h0 (by omega) (by omega) ?_
    refine am_Rq.blk (is := [(.aload_n 3, 1)]) (q := (372, [some (.ref 0), some (.ref 2), some (.ref 238), some (.ref 246), some (.int (nI (7 * n))), z5, z6], [.ref 246, .int (xs ((7 * n) + 4)), .int (xs ((7 * n) + 3)), .int (xs ((7 * n) + 2)), .int (xs ((7 * n) + 1)), .ref 2])) (by decide +kernel) rfl ?_
    dsimp only
    refine am_Rq.callS (show decode (am_by 0) 372 = .ok (.invokestatic 92, 3) by decide +kernel) rfl [.ref 2, .int (xs ((7 * n) + 1)), .int (xs ((7 * n) + 2)), .int (xs ((7 * n) + 3)), .int (xs ((7 * n) + 4)), .ref 246] [] rfl rfl (Nat.le_of_ble_eq_true rfl) rfl rfl (w_transfer hC hU hc) ?_
    rintro hp1 _ ⟨rfl, hC1, hU1, hf1⟩
    have h01 := (hf1.2.2 0 (fun q => by omega)).trans h0
    have hM1 := hM.kept (fun a a1 a2 => hf1.2.2 a (fun q => by omega))
    have hM0 := hM1
    obtain ⟨⟨⟨co1, hO1⟩, -⟩, -⟩ := hM0
    show am_Rq _ 0 375 [some (.ref 0), some (.ref 2), some (.ref 238), some (.ref 246), some (.int (nI (7 * n))), z5, z6] [.int (nI 0)] _ _
    refine am_Rq.blk (is := [(.istore 5, 2), (.aload_n 2, 1), (.aload_n 0, 1), (.iload 4, 2), (.iconst 1, 1), (.iadd, 1)]) (q := (383, [some (.ref 0), some (.ref 2), some (.ref 238), some (.ref 246), some (.int (nI (7 * n))), some (.int (nI 0)), z6], [.int ((nI (7 * n)) + (nI 1)), .ref 0, .ref 238])) (by decide +kernel) rfl ?_
    dsimp only
    rw [show (nI (7 * n)) + (nI 1) = nI ((7 * n) + 1) from nI_add _ _]
    refine am_Rq.ial (k := (7 * n) + 1) (show decode (am_by 0) 383 = .ok (.iaload, 1) by decide +kernel) h01 (by omega) (by omega) ?_
    refine am_Rq.blk (is := [(.aload_n 0, 1), (.iload 4, 2), (.iconst 2, 1), (.iadd, 1)]) (q := (389, [some (.ref 0), some (.ref 2), some (.ref 238), some (.ref 246), some (.int (nI (7 * n))), some (.int (nI 0)), z6], [.int ((nI (7 * n)) + (nI 2)), .ref 0, .int (xs ((7 * n) + 1)), .ref 238])) (by decide +kernel) rfl ?_
    dsimp only
    rw [show (nI (7 * n)) + (nI 2) = nI ((7 * n) + 2) from nI_add _ _]
    refine am_Rq.ial (k := (7 * n) + 2) (show decode (am_by 0) 389 = .ok (.iaload, 1) by decide +kernel) h01 (by omega) (by omega) ?_
    refine am_Rq.blk (is := [(.aload_n 0, 1), (.iload 4, 2), (.iconst 3, 1), (.iadd, 1)]) (q := (395, [some (.ref 0), some (.ref 2), some (.ref 238), some (.ref 246), some (.int (nI (7 * n))), some (.int (nI 0)), z6], [.int ((nI (7 * n)) + (nI 3)), .ref 0, .int (xs ((7 * n) + 2)), .int (xs ((7 * n) + 1)), .ref 238])) (by decide +kernel) rfl ?_
    dsimp only
    rw [show (nI (7 * n)) + (nI 3) = nI ((7 * n) + 3) from nI_add _ _]
    refine am_Rq.ial (k := (7 * n) + 3) (show decode (am_by 0) 395 = .ok (.iaload, 1) by decide +kernel) h01 (by omega) (by omega) ?_
    refine am_Rq.blk (is := [(.aload_n 0, 1), (.iload 4, 2), (.iconst 4, 1), (.iadd, 1)]) (q := (401, [some (.ref 0), some (.ref 2), some (.ref 238), some (.ref 246), some (.int (nI (7 * n))), some (.int (nI 0)), z6], [.int ((nI (7 * n)) + (nI 4)), .ref 0, .int (xs ((7 * n) + 3)), .int (xs ((7 * n) + 2)), .int (xs ((7 * n) + 1)), .ref 238])) (by decide +kernel) rfl ?_
    dsimp only
    rw [show (nI (7 * n)) + (nI 4) = nI ((7 * n) + 4) from nI_add _ _]
    refine am_Rq.ial (k := (7 * n) + 4) (show decode (am_by 0) 401 = .ok (.iaload, 1) by decide +kernel) h01 (by omega) (by omega) ?_
    refine am_Rq.callV (show decode (am_by 0) 402 = .ok (.invokevirtual 94, 3) by decide +kernel) rfl [.int (xs ((7 * n) + 1)), .int (xs ((7 * n) + 2)), .int (xs ((7 * n) + 3)), .int (xs ((7 * n) + 4))] [] rfl rfl (Nat.le_of_ble_eq_true rfl) rfl hO1 rfl (hm hp1 th hM1) ?_
    rintro hp2 _ ⟨rfl, ⟨f2, hM2, hs2, hR2⟩, hf2⟩
    have h02 := (hf2.2.2 0 (fun q => by omega)).trans h01
    have hU2 := (hf2.2.2 246 (fun q => by omega)).trans hU1
    have hC2 := hC1.kept (fun a a1 a2 => hf2.2.2 a (fun q => by omega))
    show am_Rq _ 0 405 [some (.ref 0), some (.ref 2), some (.ref 238), some (.ref 246), some (.int (nI (7 * n))), some (.int (nI 0)), z6] [.int v] _ _
    refine am_Rq.blk (is := [(.istore 6, 2), (.aload_n 2, 1)]) (q := (408, [some (.ref 0), some (.ref 2), some (.ref 238), some (.ref 246), some (.int (nI (7 * n))), some (.int (nI 0)), some (.int v)], [.ref 238])) (by decide +kernel) rfl ?_
    dsimp only
    have hM3 := hM2
    obtain ⟨⟨⟨co2, hO2⟩, hS2, -⟩, -⟩ := hM3
    refine am_Rq.callV (show decode (am_by 0) 408 = .ok (.invokevirtual 85, 3) by decide +kernel) rfl [] [] rfl rfl (Nat.le_of_ble_eq_true rfl) rfl hO2 rfl (m_thrown (d := 8) hO2 hS2) ?_
    rintro hq _ ⟨e1, rfl⟩
    rw [e1]
    clear e1 hq
    show am_Rq _ 0 411 [some (.ref 0), some (.ref 2), some (.ref 238), some (.ref 246), some (.int (nI (7 * n))), some (.int (nI 0)), some (.int v)] [.int (nI 0)] _ _
    refine am_Rq.blk (is := [(.iload 5, 2)]) (q := (413, [some (.ref 0), some (.ref 2), some (.ref 238), some (.ref 246), some (.int (nI (7 * n))), some (.int (nI 0)), some (.int v)], [.int (nI 0), .int (nI 0)])) (by decide +kernel) rfl ?_
    dsimp only
    refine am_Rq.if2T (t := 418) (show decode (am_by 0) 413 = .ok (.if_icmp .eq 5, 3) by decide +kernel) (by decide) (rfl) ?_
    refine am_Rq.blk (is := [(.iload 5, 2)]) (q := (420, [some (.ref 0), some (.ref 2), some (.ref 238), some (.ref 246), some (.int (nI (7 * n))), some (.int (nI 0)), some (.int v)], [.int (nI 0)])) (by decide +kernel) rfl ?_
    dsimp only
    refine am_Rq.if1F (show decode (am_by 0) 420 = .ok (.ifCond .ne 15, 3) by decide +kernel) (by decide) (rfl) ?_
    refine am_Rq.blk (is := [(.aload_n 3, 1), (.iconst 0, 1)]) (q := (425, [some (.ref 0), some (.ref 2), some (.ref 238), some (.ref 246), some (.int (nI (7 * n))), some (.int (nI 0)), some (.int v)], [.int (nI 0), .ref 246])) (by decide +kernel) rfl ?_
    dsimp only
    refine am_Rq.lal (k := 0) (show decode (am_by 0) 425 = .ok (.laload, 1) by decide +kernel) hU2 (by omega) (by omega) ?_
    refine am_Rq.blk (is := [(.iload 6, 2)]) (q := (428, [some (.ref 0), some (.ref 2), some (.ref 238), some (.ref 246), some (.int (nI (7 * n))), some (.int (nI 0)), some (.int v)], [.int v, .long ((va_up ou 0 v.toInt64) 0)])) (by decide +kernel) rfl ?_
    dsimp only
    rw [va_up_self]
    refine am_Rq.blk (is := [(.i2l, 1), (.lcmp, 1)]) (q := (430, [some (.ref 0), some (.ref 2), some (.ref 238), some (.ref 246), some (.int (nI (7 * n))), some (.int (nI 0)), some (.int v)], [.int (lg_cmp v.toInt64 v.toInt64)])) (by decide +kernel) rfl ?_
    dsimp only
    refine am_Rq.if1T (t := 435) (show decode (am_by 0) 430 = .ok (.ifCond .eq 5, 3) by decide +kernel) (by decide) (by rw [nm_ceq]; exact decide_eq_true rfl) ?_
    refine am_Rq.blk (is := [(.goto 989, 3)]) (q := (1424, [some (.ref 0), some (.ref 2), some (.ref 238), some (.ref 246), some (.int (nI (7 * n))), some (.int (nI 0)), some (.int v)], [])) (by decide +kernel) rfl ?_
    dsimp only
    refine am_Rq.blk (is := [(.iinc 4 7, 3)]) (q := (1427, [some (.ref 0), some (.ref 2), some (.ref 238), some (.ref 246), some (.int ((nI (7 * n)) + (nI 7))), some (.int (nI 0)), some (.int v)], [])) (by decide +kernel) rfl ?_
    dsimp only
    rw [show (nI (7 * n)) + (nI 7) = nI ((7 * n) + 7) from nI_add _ _]
    refine am_Rq.blk (is := [(.goto (-1404), 3)]) (q := (23, [some (.ref 0), some (.ref 2), some (.ref 238), some (.ref 246), some (.int (nI ((7 * n) + 7))), some (.int (nI 0)), some (.int v)], [])) (by decide +kernel) rfl ?_
    dsimp only
    rw [show 7 * n + 7 = 7 * (n + 1) by omega]
    exact ih _ _ _ ⟨s1, f2, kn1, nx1, ks1, hs2, 0, h02, hC2, hM2, ⟨_, hU2⟩, hR2, by rw [hf2.1, hf1.1]; omega, by rw [hf2.1, hf1.1]; omega, by rw [hf2.2.1, hf1.2.1]; omega⟩
  ·
    simp only [List.mem_cons, Prod.mk.injEq, List.not_mem_nil, or_false] at hin
    rcases hin with ⟨rfl, rfl⟩ | ⟨rfl, rfl⟩ | ⟨rfl, rfl⟩
    ·
      refine am_Rq.blk (is := [(.aload_n 1, 1), (.aload_n 0, 1), (.iload 4, 2), (.iconst 1, 1), (.iadd, 1)]) (q := (352, [some (.ref 0), some (.ref 2), some (.ref 238), some (.ref 246), some (.int (nI (7 * n))), z5, z6], [.int ((nI (7 * n)) + (nI 1)), .ref 0, .ref 2])) (by decide +kernel) rfl ?_
      dsimp only
      rw [show (nI (7 * n)) + (nI 1) = nI ((7 * n) + 1) from nI_add _ _]
      refine am_Rq.ial (k := (7 * n) + 1) (show decode (am_by 0) 352 = .ok (.iaload, 1) by decide +kernel) h0 (by omega) (by omega) ?_
      refine am_Rq.blk (is := [(.aload_n 0, 1), (.iload 4, 2), (.iconst 2, 1), (.iadd, 1)]) (q := (358, [some (.ref 0), some (.ref 2), some (.ref 238), some (.ref 246), some (.int (nI (7 * n))), z5, z6], [.int ((nI (7 * n)) + (nI 2)), .ref 0, .int (xs ((7 * n) + 1)), .ref 2])) (by decide +kernel) rfl ?_
      dsimp only
      rw [show (nI (7 * n)) + (nI 2) = nI ((7 * n) + 2) from nI_add _ _]
      refine am_Rq.ial (k := (7 * n) + 2) (show decode (am_by 0) 358 = .ok (.iaload, 1) by decide +kernel) h0 (by omega) (by omega) ?_
      refine am_Rq.blk (is := [(.aload_n 0, 1), (.iload 4, 2), (.iconst 3, 1), (.iadd, 1)]) (q := (364, [some (.ref 0), some (.ref 2), some (.ref 238), some (.ref 246), some (.int (nI (7 * n))), z5, z6], [.int ((nI (7 * n)) + (nI 3)), .ref 0, .int (xs ((7 * n) + 2)), .int (xs ((7 * n) + 1)), .ref 2])) (by decide +kernel) rfl ?_
      dsimp only
      rw [show (nI (7 * n)) + (nI 3) = nI ((7 * n) + 3) from nI_add _ _]
      refine am_Rq.ial (k := (7 * n) + 3) (show decode (am_by 0) 364 = .ok (.iaload, 1) by decide +kernel) h0 (by omega) (by omega) ?_
      refine am_Rq.blk (is := [(.aload_n 0, 1), (.iload 4, 2), (.iconst 4, 1), (.iadd, 1)]) (q := (370, [some (.ref 0), some (.ref 2), some (.ref 238), some (.ref 246), some (.int (nI (7 * n))), z5, z6], [.int ((nI (7 * n)) + (nI 4)), .ref 0, .int (xs ((7 * n) + 3)), .int (xs ((7 * n) + 2)), .int (xs ((7 * n) + 1)), .ref 2])) (by decide +kernel) rfl ?_
      dsimp only
      rw [show (nI (7 * n)) + (nI 4) = nI ((7 * n) + 4) from nI_add _ _]
      refine am_Rq.ial (k := (7 * n) + 4) (show decode (am_by 0) 370 = .ok (.iaload, 1) by decide +kernel) h0 (by omega) (by omega) ?_
      refine am_Rq.blk (is := [(.aload_n 3, 1)]) (q := (372, [some (.ref 0), some (.ref 2), some (.ref 238), some (.ref 246), some (.int (nI (7 * n))), z5, z6], [.ref 246, .int (xs ((7 * n) + 4)), .int (xs ((7 * n) + 3)), .int (xs ((7 * n) + 2)), .int (xs ((7 * n) + 1)), .ref 2])) (by decide +kernel) rfl ?_
      dsimp only
      refine am_Rq.callS (show decode (am_by 0) 372 = .ok (.invokestatic 92, 3) by decide +kernel) rfl [.ref 2, .int (xs ((7 * n) + 1)), .int (xs ((7 * n) + 2)), .int (xs ((7 * n) + 3)), .int (xs ((7 * n) + 4)), .ref 246] [] rfl rfl (Nat.le_of_ble_eq_true rfl) rfl rfl (w_transfer_no2 hC hU hc) ?_
      rintro hp1 _ ⟨rfl, he1⟩
      have hk : ∀ a, a < 247 → hp1[a]? = hp[a]? := fun a ha => by rw [he1]; exact List.getElem?_append_left (by omega)
      have hl1 : hp1.length = hp.length + 1 := by rw [he1]; exact ap_len rfl
      have ht1 : am_tot hp1 = am_tot hp + 6 := by rw [he1]; exact c_exT _ _
      have h01 := (hk 0 (by omega)).trans h0
      have hU1 := (hk 246 (by omega)).trans hU
      have hM1 := hM.kept (fun a a1 a2 => hk a (by omega))
      have hC1 := hC.kept (fun a a1 a2 => hk a (by omega))
      have hM0 := hM1
      obtain ⟨⟨⟨co1, hO1⟩, -⟩, -⟩ := hM0
      show am_Rq _ 0 375 [some (.ref 0), some (.ref 2), some (.ref 238), some (.ref 246), some (.int (nI (7 * n))), z5, z6] [.int (nI 1)] _ _
      refine am_Rq.blk (is := [(.istore 5, 2), (.aload_n 2, 1), (.aload_n 0, 1), (.iload 4, 2), (.iconst 1, 1), (.iadd, 1)]) (q := (383, [some (.ref 0), some (.ref 2), some (.ref 238), some (.ref 246), some (.int (nI (7 * n))), some (.int (nI 1)), z6], [.int ((nI (7 * n)) + (nI 1)), .ref 0, .ref 238])) (by decide +kernel) rfl ?_
      dsimp only
      rw [show (nI (7 * n)) + (nI 1) = nI ((7 * n) + 1) from nI_add _ _]
      refine am_Rq.ial (k := (7 * n) + 1) (show decode (am_by 0) 383 = .ok (.iaload, 1) by decide +kernel) h01 (by omega) (by omega) ?_
      refine am_Rq.blk (is := [(.aload_n 0, 1), (.iload 4, 2), (.iconst 2, 1), (.iadd, 1)]) (q := (389, [some (.ref 0), some (.ref 2), some (.ref 238), some (.ref 246), some (.int (nI (7 * n))), some (.int (nI 1)), z6], [.int ((nI (7 * n)) + (nI 2)), .ref 0, .int (xs ((7 * n) + 1)), .ref 238])) (by decide +kernel) rfl ?_
      dsimp only
      rw [show (nI (7 * n)) + (nI 2) = nI ((7 * n) + 2) from nI_add _ _]
      refine am_Rq.ial (k := (7 * n) + 2) (show decode (am_by 0) 389 = .ok (.iaload, 1) by decide +kernel) h01 (by omega) (by omega) ?_
      refine am_Rq.blk (is := [(.aload_n 0, 1), (.iload 4, 2), (.iconst 3, 1), (.iadd, 1)]) (q := (395, [some (.ref 0), some (.ref 2), some (.ref 238), some (.ref 246), some (.int (nI (7 * n))), some (.int (nI 1)), z6], [.int ((nI (7 * n)) + (nI 3)), .ref 0, .int (xs ((7 * n) + 2)), .int (xs ((7 * n) + 1)), .ref 238])) (by decide +kernel) rfl ?_
      dsimp only
      rw [show (nI (7 * n)) + (nI 3) = nI ((7 * n) + 3) from nI_add _ _]
      refine am_Rq.ial (k := (7 * n) + 3) (show decode (am_by 0) 395 = .ok (.iaload, 1) by decide +kernel) h01 (by omega) (by omega) ?_
      refine am_Rq.blk (is := [(.aload_n 0, 1), (.iload 4, 2), (.iconst 4, 1), (.iadd, 1)]) (q := (401, [some (.ref 0), some (.ref 2), some (.ref 238), some (.ref 246), some (.int (nI (7 * n))), some (.int (nI 1)), z6], [.int ((nI (7 * n)) + (nI 4)), .ref 0, .int (xs ((7 * n) + 3)), .int (xs ((7 * n) + 2)), .int (xs ((7 * n) + 1)), .ref 238])) (by decide +kernel) rfl ?_
      dsimp only
      rw [show (nI (7 * n)) + (nI 4) = nI ((7 * n) + 4) from nI_add _ _]
      refine am_Rq.ial (k := (7 * n) + 4) (show decode (am_by 0) 401 = .ok (.iaload, 1) by decide +kernel) h01 (by omega) (by omega) ?_
      refine am_Rq.callV (show decode (am_by 0) 402 = .ok (.invokevirtual 94, 3) by decide +kernel) rfl [.int (xs ((7 * n) + 1)), .int (xs ((7 * n) + 2)), .int (xs ((7 * n) + 3)), .int (xs ((7 * n) + 4))] [] rfl rfl (Nat.le_of_ble_eq_true rfl) rfl hO1 rfl (hm hp1 th hM1) ?_
      rintro hp2 _ ⟨rfl, hM2, hf2⟩
      have h02 := (hf2.2.2 0 (fun q => by omega)).trans h01
      have hU2 := (hf2.2.2 246 (fun q => by omega)).trans hU1
      have hC2 := hC1.kept (fun a a1 a2 => hf2.2.2 a (fun q => by omega))
      show am_Rq _ 0 405 [some (.ref 0), some (.ref 2), some (.ref 238), some (.ref 246), some (.int (nI (7 * n))), some (.int (nI 1)), z6] [.int (nI 0)] _ _
      refine am_Rq.blk (is := [(.istore 6, 2), (.aload_n 2, 1)]) (q := (408, [some (.ref 0), some (.ref 2), some (.ref 238), some (.ref 246), some (.int (nI (7 * n))), some (.int (nI 1)), some (.int (nI 0))], [.ref 238])) (by decide +kernel) rfl ?_
      dsimp only
      have hM3 := hM2
      obtain ⟨⟨⟨co2, hO2⟩, hS2, -⟩, -⟩ := hM3
      refine am_Rq.callV (show decode (am_by 0) 408 = .ok (.invokevirtual 85, 3) by decide +kernel) rfl [] [] rfl rfl (Nat.le_of_ble_eq_true rfl) rfl hO2 rfl (m_thrown (d := 8) hO2 hS2) ?_
      rintro hq _ ⟨e1, rfl⟩
      rw [e1]
      clear e1 hq
      show am_Rq _ 0 411 [some (.ref 0), some (.ref 2), some (.ref 238), some (.ref 246), some (.int (nI (7 * n))), some (.int (nI 1)), some (.int (nI 0))] [.int (nI 1)] _ _
      refine am_Rq.blk (is := [(.iload 5, 2)]) (q := (413, [some (.ref 0), some (.ref 2), some (.ref 238), some (.ref 246), some (.int (nI (7 * n))), some (.int (nI 1)), some (.int (nI 0))], [.int (nI 1), .int (nI 1)])) (by decide +kernel) rfl ?_
      dsimp only
      refine am_Rq.if2T (t := 418) (show decode (am_by 0) 413 = .ok (.if_icmp .eq 5, 3) by decide +kernel) (by decide) (rfl) ?_
      refine am_Rq.blk (is := [(.iload 5, 2)]) (q := (420, [some (.ref 0), some (.ref 2), some (.ref 238), some (.ref 246), some (.int (nI (7 * n))), some (.int (nI 1)), some (.int (nI 0))], [.int (nI 1)])) (by decide +kernel) rfl ?_
      dsimp only
      refine am_Rq.if1T (t := 435) (show decode (am_by 0) 420 = .ok (.ifCond .ne 15, 3) by decide +kernel) (by decide) (rfl) ?_
      refine am_Rq.blk (is := [(.goto 989, 3)]) (q := (1424, [some (.ref 0), some (.ref 2), some (.ref 238), some (.ref 246), some (.int (nI (7 * n))), some (.int (nI 1)), some (.int (nI 0))], [])) (by decide +kernel) rfl ?_
      dsimp only
      refine am_Rq.blk (is := [(.iinc 4 7, 3)]) (q := (1427, [some (.ref 0), some (.ref 2), some (.ref 238), some (.ref 246), some (.int ((nI (7 * n)) + (nI 7))), some (.int (nI 1)), some (.int (nI 0))], [])) (by decide +kernel) rfl ?_
      dsimp only
      rw [show (nI (7 * n)) + (nI 7) = nI ((7 * n) + 7) from nI_add _ _]
      refine am_Rq.blk (is := [(.goto (-1404), 3)]) (q := (23, [some (.ref 0), some (.ref 2), some (.ref 238), some (.ref 246), some (.int (nI ((7 * n) + 7))), some (.int (nI 1)), some (.int (nI 0))], [])) (by decide +kernel) rfl ?_
      dsimp only
      rw [show 7 * n + 7 = 7 * (n + 1) by omega]
      exact ih _ _ _ ⟨s, f, kn, nx, ks, hs, 1, h02, hC2, hM2, ⟨_, hU2⟩, hR.more, by rw [hf2.1, hl1]; omega, by rw [hf2.1, hl1]; omega, by rw [hf2.2.1, ht1]; omega⟩
    ·
      refine am_Rq.blk (is := [(.aload_n 1, 1), (.aload_n 0, 1), (.iload 4, 2), (.iconst 1, 1), (.iadd, 1)]) (q := (352, [some (.ref 0), some (.ref 2), some (.ref 238), some (.ref 246), some (.int (nI (7 * n))), z5, z6], [.int ((nI (7 * n)) + (nI 1)), .ref 0, .ref 2])) (by decide +kernel) rfl ?_
      dsimp only
      rw [show (nI (7 * n)) + (nI 1) = nI ((7 * n) + 1) from nI_add _ _]
      refine am_Rq.ial (k := (7 * n) + 1) (show decode (am_by 0) 352 = .ok (.iaload, 1) by decide +kernel) h0 (by omega) (by omega) ?_
      refine am_Rq.blk (is := [(.aload_n 0, 1), (.iload 4, 2), (.iconst 2, 1), (.iadd, 1)]) (q := (358, [some (.ref 0), some (.ref 2), some (.ref 238), some (.ref 246), some (.int (nI (7 * n))), z5, z6], [.int ((nI (7 * n)) + (nI 2)), .ref 0, .int (xs ((7 * n) + 1)), .ref 2])) (by decide +kernel) rfl ?_
      dsimp only
      rw [show (nI (7 * n)) + (nI 2) = nI ((7 * n) + 2) from nI_add _ _]
      refine am_Rq.ial (k := (7 * n) + 2) (show decode (am_by 0) 358 = .ok (.iaload, 1) by decide +kernel) h0 (by omega) (by omega) ?_
      refine am_Rq.blk (is := [(.aload_n 0, 1), (.iload 4, 2), (.iconst 3, 1), (.iadd, 1)]) (q := (364, [some (.ref 0), some (.ref 2), some (.ref 238), some (.ref 246), some (.int (nI (7 * n))), z5, z6], [.int ((nI (7 * n)) + (nI 3)), .ref 0, .int (xs ((7 * n) + 2)), .int (xs ((7 * n) + 1)), .ref 2])) (by decide +kernel) rfl ?_
      dsimp only
      rw [show (nI (7 * n)) + (nI 3) = nI ((7 * n) + 3) from nI_add _ _]
      refine am_Rq.ial (k := (7 * n) + 3) (show decode (am_by 0) 364 = .ok (.iaload, 1) by decide +kernel) h0 (by omega) (by omega) ?_
      refine am_Rq.blk (is := [(.aload_n 0, 1), (.iload 4, 2), (.iconst 4, 1), (.iadd, 1)]) (q := (370, [some (.ref 0), some (.ref 2), some (.ref 238), some (.ref 246), some (.int (nI (7 * n))), z5, z6], [.int ((nI (7 * n)) + (nI 4)), .ref 0, .int (xs ((7 * n) + 3)), .int (xs ((7 * n) + 2)), .int (xs ((7 * n) + 1)), .ref 2])) (by decide +kernel) rfl ?_
      dsimp only
      rw [show (nI (7 * n)) + (nI 4) = nI ((7 * n) + 4) from nI_add _ _]
      refine am_Rq.ial (k := (7 * n) + 4) (show decode (am_by 0) 370 = .ok (.iaload, 1) by decide +kernel) h0 (by omega) (by omega) ?_
      refine am_Rq.blk (is := [(.aload_n 3, 1)]) (q := (372, [some (.ref 0), some (.ref 2), some (.ref 238), some (.ref 246), some (.int (nI (7 * n))), z5, z6], [.ref 246, .int (xs ((7 * n) + 4)), .int (xs ((7 * n) + 3)), .int (xs ((7 * n) + 2)), .int (xs ((7 * n) + 1)), .ref 2])) (by decide +kernel) rfl ?_
      dsimp only
      refine am_Rq.callS (show decode (am_by 0) 372 = .ok (.invokestatic 92, 3) by decide +kernel) rfl [.ref 2, .int (xs ((7 * n) + 1)), .int (xs ((7 * n) + 2)), .int (xs ((7 * n) + 3)), .int (xs ((7 * n) + 4)), .ref 246] [] rfl rfl (Nat.le_of_ble_eq_true rfl) rfl rfl (w_transfer_no0 hC hU hc) ?_
      rintro hp1 _ ⟨rfl, he1⟩
      have hk : ∀ a, a < 247 → hp1[a]? = hp[a]? := fun a ha => by rw [he1]; exact List.getElem?_append_left (by omega)
      have hl1 : hp1.length = hp.length + 1 := by rw [he1]; exact ap_len rfl
      have ht1 : am_tot hp1 = am_tot hp + 6 := by rw [he1]; exact c_exT _ _
      have h01 := (hk 0 (by omega)).trans h0
      have hU1 := (hk 246 (by omega)).trans hU
      have hM1 := hM.kept (fun a a1 a2 => hk a (by omega))
      have hC1 := hC.kept (fun a a1 a2 => hk a (by omega))
      have hM0 := hM1
      obtain ⟨⟨⟨co1, hO1⟩, -⟩, -⟩ := hM0
      show am_Rq _ 0 375 [some (.ref 0), some (.ref 2), some (.ref 238), some (.ref 246), some (.int (nI (7 * n))), z5, z6] [.int (nI 2)] _ _
      refine am_Rq.blk (is := [(.istore 5, 2), (.aload_n 2, 1), (.aload_n 0, 1), (.iload 4, 2), (.iconst 1, 1), (.iadd, 1)]) (q := (383, [some (.ref 0), some (.ref 2), some (.ref 238), some (.ref 246), some (.int (nI (7 * n))), some (.int (nI 2)), z6], [.int ((nI (7 * n)) + (nI 1)), .ref 0, .ref 238])) (by decide +kernel) rfl ?_
      dsimp only
      rw [show (nI (7 * n)) + (nI 1) = nI ((7 * n) + 1) from nI_add _ _]
      refine am_Rq.ial (k := (7 * n) + 1) (show decode (am_by 0) 383 = .ok (.iaload, 1) by decide +kernel) h01 (by omega) (by omega) ?_
      refine am_Rq.blk (is := [(.aload_n 0, 1), (.iload 4, 2), (.iconst 2, 1), (.iadd, 1)]) (q := (389, [some (.ref 0), some (.ref 2), some (.ref 238), some (.ref 246), some (.int (nI (7 * n))), some (.int (nI 2)), z6], [.int ((nI (7 * n)) + (nI 2)), .ref 0, .int (xs ((7 * n) + 1)), .ref 238])) (by decide +kernel) rfl ?_
      dsimp only
      rw [show (nI (7 * n)) + (nI 2) = nI ((7 * n) + 2) from nI_add _ _]
      refine am_Rq.ial (k := (7 * n) + 2) (show decode (am_by 0) 389 = .ok (.iaload, 1) by decide +kernel) h01 (by omega) (by omega) ?_
      refine am_Rq.blk (is := [(.aload_n 0, 1), (.iload 4, 2), (.iconst 3, 1), (.iadd, 1)]) (q := (395, [some (.ref 0), some (.ref 2), some (.ref 238), some (.ref 246), some (.int (nI (7 * n))), some (.int (nI 2)), z6], [.int ((nI (7 * n)) + (nI 3)), .ref 0, .int (xs ((7 * n) + 2)), .int (xs ((7 * n) + 1)), .ref 238])) (by decide +kernel) rfl ?_
      dsimp only
      rw [show (nI (7 * n)) + (nI 3) = nI ((7 * n) + 3) from nI_add _ _]
      refine am_Rq.ial (k := (7 * n) + 3) (show decode (am_by 0) 395 = .ok (.iaload, 1) by decide +kernel) h01 (by omega) (by omega) ?_
      refine am_Rq.blk (is := [(.aload_n 0, 1), (.iload 4, 2), (.iconst 4, 1), (.iadd, 1)]) (q := (401, [some (.ref 0), some (.ref 2), some (.ref 238), some (.ref 246), some (.int (nI (7 * n))), some (.int (nI 2)), z6], [.int ((nI (7 * n)) + (nI 4)), .ref 0, .int (xs ((7 * n) + 3)), .int (xs ((7 * n) + 2)), .int (xs ((7 * n) + 1)), .ref 238])) (by decide +kernel) rfl ?_
      dsimp only
      rw [show (nI (7 * n)) + (nI 4) = nI ((7 * n) + 4) from nI_add _ _]
      refine am_Rq.ial (k := (7 * n) + 4) (show decode (am_by 0) 401 = .ok (.iaload, 1) by decide +kernel) h01 (by omega) (by omega) ?_
      refine am_Rq.callV (show decode (am_by 0) 402 = .ok (.invokevirtual 94, 3) by decide +kernel) rfl [.int (xs ((7 * n) + 1)), .int (xs ((7 * n) + 2)), .int (xs ((7 * n) + 3)), .int (xs ((7 * n) + 4))] [] rfl rfl (Nat.le_of_ble_eq_true rfl) rfl hO1 rfl (hm hp1 th hM1) ?_
      rintro hp2 _ ⟨rfl, hM2, hf2⟩
      have h02 := (hf2.2.2 0 (fun q => by omega)).trans h01
      have hU2 := (hf2.2.2 246 (fun q => by omega)).trans hU1
      have hC2 := hC1.kept (fun a a1 a2 => hf2.2.2 a (fun q => by omega))
      show am_Rq _ 0 405 [some (.ref 0), some (.ref 2), some (.ref 238), some (.ref 246), some (.int (nI (7 * n))), some (.int (nI 2)), z6] [.int (nI 0)] _ _
      refine am_Rq.blk (is := [(.istore 6, 2), (.aload_n 2, 1)]) (q := (408, [some (.ref 0), some (.ref 2), some (.ref 238), some (.ref 246), some (.int (nI (7 * n))), some (.int (nI 2)), some (.int (nI 0))], [.ref 238])) (by decide +kernel) rfl ?_
      dsimp only
      have hM3 := hM2
      obtain ⟨⟨⟨co2, hO2⟩, hS2, -⟩, -⟩ := hM3
      refine am_Rq.callV (show decode (am_by 0) 408 = .ok (.invokevirtual 85, 3) by decide +kernel) rfl [] [] rfl rfl (Nat.le_of_ble_eq_true rfl) rfl hO2 rfl (m_thrown (d := 8) hO2 hS2) ?_
      rintro hq _ ⟨e1, rfl⟩
      rw [e1]
      clear e1 hq
      show am_Rq _ 0 411 [some (.ref 0), some (.ref 2), some (.ref 238), some (.ref 246), some (.int (nI (7 * n))), some (.int (nI 2)), some (.int (nI 0))] [.int (nI 2)] _ _
      refine am_Rq.blk (is := [(.iload 5, 2)]) (q := (413, [some (.ref 0), some (.ref 2), some (.ref 238), some (.ref 246), some (.int (nI (7 * n))), some (.int (nI 2)), some (.int (nI 0))], [.int (nI 2), .int (nI 2)])) (by decide +kernel) rfl ?_
      dsimp only
      refine am_Rq.if2T (t := 418) (show decode (am_by 0) 413 = .ok (.if_icmp .eq 5, 3) by decide +kernel) (by decide) (rfl) ?_
      refine am_Rq.blk (is := [(.iload 5, 2)]) (q := (420, [some (.ref 0), some (.ref 2), some (.ref 238), some (.ref 246), some (.int (nI (7 * n))), some (.int (nI 2)), some (.int (nI 0))], [.int (nI 2)])) (by decide +kernel) rfl ?_
      dsimp only
      refine am_Rq.if1T (t := 435) (show decode (am_by 0) 420 = .ok (.ifCond .ne 15, 3) by decide +kernel) (by decide) (rfl) ?_
      refine am_Rq.blk (is := [(.goto 989, 3)]) (q := (1424, [some (.ref 0), some (.ref 2), some (.ref 238), some (.ref 246), some (.int (nI (7 * n))), some (.int (nI 2)), some (.int (nI 0))], [])) (by decide +kernel) rfl ?_
      dsimp only
      refine am_Rq.blk (is := [(.iinc 4 7, 3)]) (q := (1427, [some (.ref 0), some (.ref 2), some (.ref 238), some (.ref 246), some (.int ((nI (7 * n)) + (nI 7))), some (.int (nI 2)), some (.int (nI 0))], [])) (by decide +kernel) rfl ?_
      dsimp only
      rw [show (nI (7 * n)) + (nI 7) = nI ((7 * n) + 7) from nI_add _ _]
      refine am_Rq.blk (is := [(.goto (-1404), 3)]) (q := (23, [some (.ref 0), some (.ref 2), some (.ref 238), some (.ref 246), some (.int (nI ((7 * n) + 7))), some (.int (nI 2)), some (.int (nI 0))], [])) (by decide +kernel) rfl ?_
      dsimp only
      rw [show 7 * n + 7 = 7 * (n + 1) by omega]
      exact ih _ _ _ ⟨s, f, kn, nx, ks, hs, 2, h02, hC2, hM2, ⟨_, hU2⟩, hR.more, by rw [hf2.1, hl1]; omega, by rw [hf2.1, hl1]; omega, by rw [hf2.2.1, ht1]; omega⟩
    ·
      refine am_Rq.blk (is := [(.aload_n 1, 1), (.aload_n 0, 1), (.iload 4, 2), (.iconst 1, 1), (.iadd, 1)]) (q := (352, [some (.ref 0), some (.ref 2), some (.ref 238), some (.ref 246), some (.int (nI (7 * n))), z5, z6], [.int ((nI (7 * n)) + (nI 1)), .ref 0, .ref 2])) (by decide +kernel) rfl ?_
      dsimp only
      rw [show (nI (7 * n)) + (nI 1) = nI ((7 * n) + 1) from nI_add _ _]
      refine am_Rq.ial (k := (7 * n) + 1) (show decode (am_by 0) 352 = .ok (.iaload, 1) by decide +kernel) h0 (by omega) (by omega) ?_
      refine am_Rq.blk (is := [(.aload_n 0, 1), (.iload 4, 2), (.iconst 2, 1), (.iadd, 1)]) (q := (358, [some (.ref 0), some (.ref 2), some (.ref 238), some (.ref 246), some (.int (nI (7 * n))), z5, z6], [.int ((nI (7 * n)) + (nI 2)), .ref 0, .int (xs ((7 * n) + 1)), .ref 2])) (by decide +kernel) rfl ?_
      dsimp only
      rw [show (nI (7 * n)) + (nI 2) = nI ((7 * n) + 2) from nI_add _ _]
      refine am_Rq.ial (k := (7 * n) + 2) (show decode (am_by 0) 358 = .ok (.iaload, 1) by decide +kernel) h0 (by omega) (by omega) ?_
      refine am_Rq.blk (is := [(.aload_n 0, 1), (.iload 4, 2), (.iconst 3, 1), (.iadd, 1)]) (q := (364, [some (.ref 0), some (.ref 2), some (.ref 238), some (.ref 246), some (.int (nI (7 * n))), z5, z6], [.int ((nI (7 * n)) + (nI 3)), .ref 0, .int (xs ((7 * n) + 2)), .int (xs ((7 * n) + 1)), .ref 2])) (by decide +kernel) rfl ?_
      dsimp only
      rw [show (nI (7 * n)) + (nI 3) = nI ((7 * n) + 3) from nI_add _ _]
      refine am_Rq.ial (k := (7 * n) + 3) (show decode (am_by 0) 364 = .ok (.iaload, 1) by decide +kernel) h0 (by omega) (by omega) ?_
      refine am_Rq.blk (is := [(.aload_n 0, 1), (.iload 4, 2), (.iconst 4, 1), (.iadd, 1)]) (q := (370, [some (.ref 0), some (.ref 2), some (.ref 238), some (.ref 246), some (.int (nI (7 * n))), z5, z6], [.int ((nI (7 * n)) + (nI 4)), .ref 0, .int (xs ((7 * n) + 3)), .int (xs ((7 * n) + 2)), .int (xs ((7 * n) + 1)), .ref 2])) (by decide +kernel) rfl ?_
      dsimp only
      rw [show (nI (7 * n)) + (nI 4) = nI ((7 * n) + 4) from nI_add _ _]
      refine am_Rq.ial (k := (7 * n) + 4) (show decode (am_by 0) 370 = .ok (.iaload, 1) by decide +kernel) h0 (by omega) (by omega) ?_
      refine am_Rq.blk (is := [(.aload_n 3, 1)]) (q := (372, [some (.ref 0), some (.ref 2), some (.ref 238), some (.ref 246), some (.int (nI (7 * n))), z5, z6], [.ref 246, .int (xs ((7 * n) + 4)), .int (xs ((7 * n) + 3)), .int (xs ((7 * n) + 2)), .int (xs ((7 * n) + 1)), .ref 2])) (by decide +kernel) rfl ?_
      dsimp only
      refine am_Rq.callS (show decode (am_by 0) 372 = .ok (.invokestatic 92, 3) by decide +kernel) rfl [.ref 2, .int (xs ((7 * n) + 1)), .int (xs ((7 * n) + 2)), .int (xs ((7 * n) + 3)), .int (xs ((7 * n) + 4)), .ref 246] [] rfl rfl (Nat.le_of_ble_eq_true rfl) rfl rfl (w_transfer_no1 hC hU hc) ?_
      rintro hp1 _ ⟨rfl, he1⟩
      have hk : ∀ a, a < 247 → hp1[a]? = hp[a]? := fun a ha => by rw [he1]; exact List.getElem?_append_left (by omega)
      have hl1 : hp1.length = hp.length + 1 := by rw [he1]; exact ap_len rfl
      have ht1 : am_tot hp1 = am_tot hp + 6 := by rw [he1]; exact c_exT _ _
      have h01 := (hk 0 (by omega)).trans h0
      have hU1 := (hk 246 (by omega)).trans hU
      have hM1 := hM.kept (fun a a1 a2 => hk a (by omega))
      have hC1 := hC.kept (fun a a1 a2 => hk a (by omega))
      have hM0 := hM1
      obtain ⟨⟨⟨co1, hO1⟩, -⟩, -⟩ := hM0
      show am_Rq _ 0 375 [some (.ref 0), some (.ref 2), some (.ref 238), some (.ref 246), some (.int (nI (7 * n))), z5, z6] [.int (nI 3)] _ _
      refine am_Rq.blk (is := [(.istore 5, 2), (.aload_n 2, 1), (.aload_n 0, 1), (.iload 4, 2), (.iconst 1, 1), (.iadd, 1)]) (q := (383, [some (.ref 0), some (.ref 2), some (.ref 238), some (.ref 246), some (.int (nI (7 * n))), some (.int (nI 3)), z6], [.int ((nI (7 * n)) + (nI 1)), .ref 0, .ref 238])) (by decide +kernel) rfl ?_
      dsimp only
      rw [show (nI (7 * n)) + (nI 1) = nI ((7 * n) + 1) from nI_add _ _]
      refine am_Rq.ial (k := (7 * n) + 1) (show decode (am_by 0) 383 = .ok (.iaload, 1) by decide +kernel) h01 (by omega) (by omega) ?_
      refine am_Rq.blk (is := [(.aload_n 0, 1), (.iload 4, 2), (.iconst 2, 1), (.iadd, 1)]) (q := (389, [some (.ref 0), some (.ref 2), some (.ref 238), some (.ref 246), some (.int (nI (7 * n))), some (.int (nI 3)), z6], [.int ((nI (7 * n)) + (nI 2)), .ref 0, .int (xs ((7 * n) + 1)), .ref 238])) (by decide +kernel) rfl ?_
      dsimp only
      rw [show (nI (7 * n)) + (nI 2) = nI ((7 * n) + 2) from nI_add _ _]
      refine am_Rq.ial (k := (7 * n) + 2) (show decode (am_by 0) 389 = .ok (.iaload, 1) by decide +kernel) h01 (by omega) (by omega) ?_
      refine am_Rq.blk (is := [(.aload_n 0, 1), (.iload 4, 2), (.iconst 3, 1), (.iadd, 1)]) (q := (395, [some (.ref 0), some (.ref 2), some (.ref 238), some (.ref 246), some (.int (nI (7 * n))), some (.int (nI 3)), z6], [.int ((nI (7 * n)) + (nI 3)), .ref 0, .int (xs ((7 * n) + 2)), .int (xs ((7 * n) + 1)), .ref 238])) (by decide +kernel) rfl ?_
      dsimp only
      rw [show (nI (7 * n)) + (nI 3) = nI ((7 * n) + 3) from nI_add _ _]
      refine am_Rq.ial (k := (7 * n) + 3) (show decode (am_by 0) 395 = .ok (.iaload, 1) by decide +kernel) h01 (by omega) (by omega) ?_
      refine am_Rq.blk (is := [(.aload_n 0, 1), (.iload 4, 2), (.iconst 4, 1), (.iadd, 1)]) (q := (401, [some (.ref 0), some (.ref 2), some (.ref 238), some (.ref 246), some (.int (nI (7 * n))), some (.int (nI 3)), z6], [.int ((nI (7 * n)) + (nI 4)), .ref 0, .int (xs ((7 * n) + 3)), .int (xs ((7 * n) + 2)), .int (xs ((7 * n) + 1)), .ref 238])) (by decide +kernel) rfl ?_
      dsimp only
      rw [show (nI (7 * n)) + (nI 4) = nI ((7 * n) + 4) from nI_add _ _]
      refine am_Rq.ial (k := (7 * n) + 4) (show decode (am_by 0) 401 = .ok (.iaload, 1) by decide +kernel) h01 (by omega) (by omega) ?_
      refine am_Rq.callV (show decode (am_by 0) 402 = .ok (.invokevirtual 94, 3) by decide +kernel) rfl [.int (xs ((7 * n) + 1)), .int (xs ((7 * n) + 2)), .int (xs ((7 * n) + 3)), .int (xs ((7 * n) + 4))] [] rfl rfl (Nat.le_of_ble_eq_true rfl) rfl hO1 rfl (hm hp1 th hM1) ?_
      rintro hp2 _ ⟨rfl, hM2, hf2⟩
      have h02 := (hf2.2.2 0 (fun q => by omega)).trans h01
      have hU2 := (hf2.2.2 246 (fun q => by omega)).trans hU1
      have hC2 := hC1.kept (fun a a1 a2 => hf2.2.2 a (fun q => by omega))
      show am_Rq _ 0 405 [some (.ref 0), some (.ref 2), some (.ref 238), some (.ref 246), some (.int (nI (7 * n))), some (.int (nI 3)), z6] [.int (nI 0)] _ _
      refine am_Rq.blk (is := [(.istore 6, 2), (.aload_n 2, 1)]) (q := (408, [some (.ref 0), some (.ref 2), some (.ref 238), some (.ref 246), some (.int (nI (7 * n))), some (.int (nI 3)), some (.int (nI 0))], [.ref 238])) (by decide +kernel) rfl ?_
      dsimp only
      have hM3 := hM2
      obtain ⟨⟨⟨co2, hO2⟩, hS2, -⟩, -⟩ := hM3
      refine am_Rq.callV (show decode (am_by 0) 408 = .ok (.invokevirtual 85, 3) by decide +kernel) rfl [] [] rfl rfl (Nat.le_of_ble_eq_true rfl) rfl hO2 rfl (m_thrown (d := 8) hO2 hS2) ?_
      rintro hq _ ⟨e1, rfl⟩
      rw [e1]
      clear e1 hq
      show am_Rq _ 0 411 [some (.ref 0), some (.ref 2), some (.ref 238), some (.ref 246), some (.int (nI (7 * n))), some (.int (nI 3)), some (.int (nI 0))] [.int (nI 3)] _ _
      refine am_Rq.blk (is := [(.iload 5, 2)]) (q := (413, [some (.ref 0), some (.ref 2), some (.ref 238), some (.ref 246), some (.int (nI (7 * n))), some (.int (nI 3)), some (.int (nI 0))], [.int (nI 3), .int (nI 3)])) (by decide +kernel) rfl ?_
      dsimp only
      refine am_Rq.if2T (t := 418) (show decode (am_by 0) 413 = .ok (.if_icmp .eq 5, 3) by decide +kernel) (by decide) (rfl) ?_
      refine am_Rq.blk (is := [(.iload 5, 2)]) (q := (420, [some (.ref 0), some (.ref 2), some (.ref 238), some (.ref 246), some (.int (nI (7 * n))), some (.int (nI 3)), some (.int (nI 0))], [.int (nI 3)])) (by decide +kernel) rfl ?_
      dsimp only
      refine am_Rq.if1T (t := 435) (show decode (am_by 0) 420 = .ok (.ifCond .ne 15, 3) by decide +kernel) (by decide) (rfl) ?_
      refine am_Rq.blk (is := [(.goto 989, 3)]) (q := (1424, [some (.ref 0), some (.ref 2), some (.ref 238), some (.ref 246), some (.int (nI (7 * n))), some (.int (nI 3)), some (.int (nI 0))], [])) (by decide +kernel) rfl ?_
      dsimp only
      refine am_Rq.blk (is := [(.iinc 4 7, 3)]) (q := (1427, [some (.ref 0), some (.ref 2), some (.ref 238), some (.ref 246), some (.int ((nI (7 * n)) + (nI 7))), some (.int (nI 3)), some (.int (nI 0))], [])) (by decide +kernel) rfl ?_
      dsimp only
      rw [show (nI (7 * n)) + (nI 7) = nI ((7 * n) + 7) from nI_add _ _]
      refine am_Rq.blk (is := [(.goto (-1404), 3)]) (q := (23, [some (.ref 0), some (.ref 2), some (.ref 238), some (.ref 246), some (.int (nI ((7 * n) + 7))), some (.int (nI 3)), some (.int (nI 0))], [])) (by decide +kernel) rfl ?_
      dsimp only
      rw [show 7 * n + 7 = 7 * (n + 1) by omega]
      exact ih _ _ _ ⟨s, f, kn, nx, ks, hs, 3, h02, hC2, hM2, ⟨_, hU2⟩, hR.more, by rw [hf2.1, hl1]; omega, by rw [hf2.1, hl1]; omega, by rw [hf2.2.1, ht1]; omega⟩
theorem l_convert {L n : Nat} {xs : Nat → Int32} (hL : L ≤ 3584) (hn : 7 * n + 7 ≤ L) {hp : am_H} (h : l_St L xs hp n) {Q : am_H → am_R → Prop} (ih : ∀ hp1 z5 z6, l_St L xs hp1 (n + 1) → am_Rq 9 0 23 [some (.ref 0), some (.ref 2), some (.ref 238), some (.ref 246), some (.int (nI (7 * (n + 1)))), z5, z6] [] hp1 Q) {z5 z6 : Option Value} : am_Rq 9 0 438 [some (.ref 0), some (.ref 2), some (.ref 238), some (.ref 246), some (.int (nI (7 * n))), z5, z6] [] hp Q := by
  obtain ⟨s, f, kn, nx, ks, hs, th, h0, hC, hM, ⟨ou, hU⟩, hR, l1, l2, l3⟩ := h
  have hp9 := p_convert hR (by omega) (xs (7 * n + 1)) (xs (7 * n + 2)) (xs (7 * n + 3))
  rcases hp9 with ⟨v, s1, kn1, nx1, ks1, hc, hm⟩ | ⟨k, c, hin, hc, hm⟩
  ·
    refine am_Rq.blk (is := [(.aload_n 1, 1), (.aload_n 0, 1), (.iload 4, 2), (.iconst 1, 1), (.iadd, 1)]) (q := (444, [some (.ref 0), some (.ref 2), some (.ref 238), some (.ref 246), some (.int (nI (7 * n))), z5, z6], [.int ((nI (7 * n)) + (nI 1)), .ref 0, .ref 2])) (by decide +kernel) rfl ?_
    dsimp only
    rw [show (nI (7 * n)) + (nI 1) = nI ((7 * n) + 1) from nI_add _ _]
    refine am_Rq.ial (k := (7 * n) + 1) (show decode (am_by 0) 444 = .ok (.iaload, 1) by decide +kernel) h0 (by omega) (by omega) ?_
    refine am_Rq.blk (is := [(.aload_n 0, 1), (.iload 4, 2), (.iconst 2, 1), (.iadd, 1)]) (q := (450, [some (.ref 0), some (.ref 2), some (.ref 238), some (.ref 246), some (.int (nI (7 * n))), z5, z6], [.int ((nI (7 * n)) + (nI 2)), .ref 0, .int (xs ((7 * n) + 1)), .ref 2])) (by decide +kernel) rfl ?_
    dsimp only
    rw [show (nI (7 * n)) + (nI 2) = nI ((7 * n) + 2) from nI_add _ _]
    refine am_Rq.ial (k := (7 * n) + 2) (show decode (am_by 0) 450 = .ok (.iaload, 1) by decide +kernel) h0 (by omega) (by omega) ?_
    refine am_Rq.blk (is := [(.aload_n 0, 1), (.iload 4, 2), (.iconst 3, 1), (.iadd, 1)]) (q := (456, [some (.ref 0), some (.ref 2), some (.ref 238), some (.ref 246), some (.int (nI (7 * n))), z5, z6], [.int ((nI (7 * n)) + (nI 3)), .ref 0, .int (xs ((7 * n) + 2)), .int (xs ((7 * n) + 1)), .ref 2])) (by decide +kernel) rfl ?_
    dsimp only
    rw [show (nI (7 * n)) + (nI 3) = nI ((7 * n) + 3) from nI_add _ _]
    refine am_Rq.ial (k := (7 * n) + 3) (show decode (am_by 0) 456 = .ok (.iaload, 1) by decide +kernel) h0 (by omega) (by omega) ?_
    refine am_Rq.blk (is := [(.aload_n 3, 1)]) (q := (458, [some (.ref 0), some (.ref 2), some (.ref 238), some (.ref 246), some (.int (nI (7 * n))), z5, z6], [.ref 246, .int (xs ((7 * n) + 3)), .int (xs ((7 * n) + 2)), .int (xs ((7 * n) + 1)), .ref 2])) (by decide +kernel) rfl ?_
    dsimp only
    refine am_Rq.callS (show decode (am_by 0) 458 = .ok (.invokestatic 95, 3) by decide +kernel) rfl [.ref 2, .int (xs ((7 * n) + 1)), .int (xs ((7 * n) + 2)), .int (xs ((7 * n) + 3)), .ref 246] [] rfl rfl (Nat.le_of_ble_eq_true rfl) rfl rfl (w_convert hC hU hc) ?_
    rintro hp1 _ ⟨rfl, hC1, hU1, hf1⟩
    have h01 := (hf1.2.2 0 (fun q => by omega)).trans h0
    have hM1 := hM.kept (fun a a1 a2 => hf1.2.2 a (fun q => by omega))
    have hM0 := hM1
    obtain ⟨⟨⟨co1, hO1⟩, -⟩, -⟩ := hM0
    show am_Rq _ 0 461 [some (.ref 0), some (.ref 2), some (.ref 238), some (.ref 246), some (.int (nI (7 * n))), z5, z6] [.int (nI 0)] _ _
    refine am_Rq.blk (is := [(.istore 5, 2), (.aload_n 2, 1), (.aload_n 0, 1), (.iload 4, 2), (.iconst 1, 1), (.iadd, 1)]) (q := (469, [some (.ref 0), some (.ref 2), some (.ref 238), some (.ref 246), some (.int (nI (7 * n))), some (.int (nI 0)), z6], [.int ((nI (7 * n)) + (nI 1)), .ref 0, .ref 238])) (by decide +kernel) rfl ?_
    dsimp only
    rw [show (nI (7 * n)) + (nI 1) = nI ((7 * n) + 1) from nI_add _ _]
    refine am_Rq.ial (k := (7 * n) + 1) (show decode (am_by 0) 469 = .ok (.iaload, 1) by decide +kernel) h01 (by omega) (by omega) ?_
    refine am_Rq.blk (is := [(.aload_n 0, 1), (.iload 4, 2), (.iconst 2, 1), (.iadd, 1)]) (q := (475, [some (.ref 0), some (.ref 2), some (.ref 238), some (.ref 246), some (.int (nI (7 * n))), some (.int (nI 0)), z6], [.int ((nI (7 * n)) + (nI 2)), .ref 0, .int (xs ((7 * n) + 1)), .ref 238])) (by decide +kernel) rfl ?_
    dsimp only
    rw [show (nI (7 * n)) + (nI 2) = nI ((7 * n) + 2) from nI_add _ _]
    refine am_Rq.ial (k := (7 * n) + 2) (show decode (am_by 0) 475 = .ok (.iaload, 1) by decide +kernel) h01 (by omega) (by omega) ?_
    refine am_Rq.blk (is := [(.aload_n 0, 1), (.iload 4, 2), (.iconst 3, 1), (.iadd, 1)]) (q := (481, [some (.ref 0), some (.ref 2), some (.ref 238), some (.ref 246), some (.int (nI (7 * n))), some (.int (nI 0)), z6], [.int ((nI (7 * n)) + (nI 3)), .ref 0, .int (xs ((7 * n) + 2)), .int (xs ((7 * n) + 1)), .ref 238])) (by decide +kernel) rfl ?_
    dsimp only
    rw [show (nI (7 * n)) + (nI 3) = nI ((7 * n) + 3) from nI_add _ _]
    refine am_Rq.ial (k := (7 * n) + 3) (show decode (am_by 0) 481 = .ok (.iaload, 1) by decide +kernel) h01 (by omega) (by omega) ?_
    refine am_Rq.callV (show decode (am_by 0) 482 = .ok (.invokevirtual 98, 3) by decide +kernel) rfl [.int (xs ((7 * n) + 1)), .int (xs ((7 * n) + 2)), .int (xs ((7 * n) + 3))] [] rfl rfl (Nat.le_of_ble_eq_true rfl) rfl hO1 rfl (hm hp1 th hM1) ?_
    rintro hp2 _ ⟨rfl, ⟨f2, hM2, hs2, hR2⟩, hf2⟩
    have h02 := (hf2.2.2 0 (fun q => by omega)).trans h01
    have hU2 := (hf2.2.2 246 (fun q => by omega)).trans hU1
    have hC2 := hC1.kept (fun a a1 a2 => hf2.2.2 a (fun q => by omega))
    show am_Rq _ 0 485 [some (.ref 0), some (.ref 2), some (.ref 238), some (.ref 246), some (.int (nI (7 * n))), some (.int (nI 0)), z6] [.int v] _ _
    refine am_Rq.blk (is := [(.istore 6, 2), (.aload_n 2, 1)]) (q := (488, [some (.ref 0), some (.ref 2), some (.ref 238), some (.ref 246), some (.int (nI (7 * n))), some (.int (nI 0)), some (.int v)], [.ref 238])) (by decide +kernel) rfl ?_
    dsimp only
    have hM3 := hM2
    obtain ⟨⟨⟨co2, hO2⟩, hS2, -⟩, -⟩ := hM3
    refine am_Rq.callV (show decode (am_by 0) 488 = .ok (.invokevirtual 85, 3) by decide +kernel) rfl [] [] rfl rfl (Nat.le_of_ble_eq_true rfl) rfl hO2 rfl (m_thrown (d := 8) hO2 hS2) ?_
    rintro hq _ ⟨e1, rfl⟩
    rw [e1]
    clear e1 hq
    show am_Rq _ 0 491 [some (.ref 0), some (.ref 2), some (.ref 238), some (.ref 246), some (.int (nI (7 * n))), some (.int (nI 0)), some (.int v)] [.int (nI 0)] _ _
    refine am_Rq.blk (is := [(.iload 5, 2)]) (q := (493, [some (.ref 0), some (.ref 2), some (.ref 238), some (.ref 246), some (.int (nI (7 * n))), some (.int (nI 0)), some (.int v)], [.int (nI 0), .int (nI 0)])) (by decide +kernel) rfl ?_
    dsimp only
    refine am_Rq.if2T (t := 498) (show decode (am_by 0) 493 = .ok (.if_icmp .eq 5, 3) by decide +kernel) (by decide) (rfl) ?_
    refine am_Rq.blk (is := [(.iload 5, 2)]) (q := (500, [some (.ref 0), some (.ref 2), some (.ref 238), some (.ref 246), some (.int (nI (7 * n))), some (.int (nI 0)), some (.int v)], [.int (nI 0)])) (by decide +kernel) rfl ?_
    dsimp only
    refine am_Rq.if1F (show decode (am_by 0) 500 = .ok (.ifCond .ne 15, 3) by decide +kernel) (by decide) (rfl) ?_
    refine am_Rq.blk (is := [(.aload_n 3, 1), (.iconst 0, 1)]) (q := (505, [some (.ref 0), some (.ref 2), some (.ref 238), some (.ref 246), some (.int (nI (7 * n))), some (.int (nI 0)), some (.int v)], [.int (nI 0), .ref 246])) (by decide +kernel) rfl ?_
    dsimp only
    refine am_Rq.lal (k := 0) (show decode (am_by 0) 505 = .ok (.laload, 1) by decide +kernel) hU2 (by omega) (by omega) ?_
    refine am_Rq.blk (is := [(.iload 6, 2)]) (q := (508, [some (.ref 0), some (.ref 2), some (.ref 238), some (.ref 246), some (.int (nI (7 * n))), some (.int (nI 0)), some (.int v)], [.int v, .long ((va_up ou 0 v.toInt64) 0)])) (by decide +kernel) rfl ?_
    dsimp only
    rw [va_up_self]
    refine am_Rq.blk (is := [(.i2l, 1), (.lcmp, 1)]) (q := (510, [some (.ref 0), some (.ref 2), some (.ref 238), some (.ref 246), some (.int (nI (7 * n))), some (.int (nI 0)), some (.int v)], [.int (lg_cmp v.toInt64 v.toInt64)])) (by decide +kernel) rfl ?_
    dsimp only
    refine am_Rq.if1T (t := 515) (show decode (am_by 0) 510 = .ok (.ifCond .eq 5, 3) by decide +kernel) (by decide) (by rw [nm_ceq]; exact decide_eq_true rfl) ?_
    refine am_Rq.blk (is := [(.goto 909, 3)]) (q := (1424, [some (.ref 0), some (.ref 2), some (.ref 238), some (.ref 246), some (.int (nI (7 * n))), some (.int (nI 0)), some (.int v)], [])) (by decide +kernel) rfl ?_
    dsimp only
    refine am_Rq.blk (is := [(.iinc 4 7, 3)]) (q := (1427, [some (.ref 0), some (.ref 2), some (.ref 238), some (.ref 246), some (.int ((nI (7 * n)) + (nI 7))), some (.int (nI 0)), some (.int v)], [])) (by decide +kernel) rfl ?_
    dsimp only
    rw [show (nI (7 * n)) + (nI 7) = nI ((7 * n) + 7) from nI_add _ _]
    refine am_Rq.blk (is := [(.goto (-1404), 3)]) (q := (23, [some (.ref 0), some (.ref 2), some (.ref 238), some (.ref 246), some (.int (nI ((7 * n) + 7))), some (.int (nI 0)), some (.int v)], [])) (by decide +kernel) rfl ?_
    dsimp only
    rw [show 7 * n + 7 = 7 * (n + 1) by omega]
    exact ih _ _ _ ⟨s1, f2, kn1, nx1, ks1, hs2, 0, h02, hC2, hM2, ⟨_, hU2⟩, hR2, by rw [hf2.1, hf1.1]; omega, by rw [hf2.1, hf1.1]; omega, by rw [hf2.2.1, hf1.2.1]; omega⟩
  ·
    simp only [List.mem_cons, Prod.mk.injEq, List.not_mem_nil, or_false] at hin
    rcases hin with ⟨rfl, rfl⟩ | ⟨rfl, rfl⟩ | ⟨rfl, rfl⟩
    ·
      refine am_Rq.blk (is := [(.aload_n 1, 1), (.aload_n 0, 1), (.iload 4, 2), (.iconst 1, 1), (.iadd, 1)]) (q := (444, [some (.ref 0), some (.ref 2), some (.ref 238), some (.ref 246), some (.int (nI (7 * n))), z5, z6], [.int ((nI (7 * n)) + (nI 1)), .ref 0, .ref 2])) (by decide +kernel) rfl ?_
      dsimp only
      rw [show (nI (7 * n)) + (nI 1) = nI ((7 * n) + 1) from nI_add _ _]
      refine am_Rq.ial (k := (7 * n) + 1) (show decode (am_by 0) 444 = .ok (.iaload, 1) by decide +kernel) h0 (by omega) (by omega) ?_
      refine am_Rq.blk (is := [(.aload_n 0, 1), (.iload 4, 2), (.iconst 2, 1), (.iadd, 1)]) (q := (450, [some (.ref 0), some (.ref 2), some (.ref 238), some (.ref 246), some (.int (nI (7 * n))), z5, z6], [.int ((nI (7 * n)) + (nI 2)), .ref 0, .int (xs ((7 * n) + 1)), .ref 2])) (by decide +kernel) rfl ?_
      dsimp only
      rw [show (nI (7 * n)) + (nI 2) = nI ((7 * n) + 2) from nI_add _ _]
      refine am_Rq.ial (k := (7 * n) + 2) (show decode (am_by 0) 450 = .ok (.iaload, 1) by decide +kernel) h0 (by omega) (by omega) ?_
      refine am_Rq.blk (is := [(.aload_n 0, 1), (.iload 4, 2), (.iconst 3, 1), (.iadd, 1)]) (q := (456, [some (.ref 0), some (.ref 2), some (.ref 238), some (.ref 246), some (.int (nI (7 * n))), z5, z6], [.int ((nI (7 * n)) + (nI 3)), .ref 0, .int (xs ((7 * n) + 2)), .int (xs ((7 * n) + 1)), .ref 2])) (by decide +kernel) rfl ?_
      dsimp only
      rw [show (nI (7 * n)) + (nI 3) = nI ((7 * n) + 3) from nI_add _ _]
      refine am_Rq.ial (k := (7 * n) + 3) (show decode (am_by 0) 456 = .ok (.iaload, 1) by decide +kernel) h0 (by omega) (by omega) ?_
      refine am_Rq.blk (is := [(.aload_n 3, 1)]) (q := (458, [some (.ref 0), some (.ref 2), some (.ref 238), some (.ref 246), some (.int (nI (7 * n))), z5, z6], [.ref 246, .int (xs ((7 * n) + 3)), .int (xs ((7 * n) + 2)), .int (xs ((7 * n) + 1)), .ref 2])) (by decide +kernel) rfl ?_
      dsimp only
      refine am_Rq.callS (show decode (am_by 0) 458 = .ok (.invokestatic 95, 3) by decide +kernel) rfl [.ref 2, .int (xs ((7 * n) + 1)), .int (xs ((7 * n) + 2)), .int (xs ((7 * n) + 3)), .ref 246] [] rfl rfl (Nat.le_of_ble_eq_true rfl) rfl rfl (w_convert_no2 hC hU hc) ?_
      rintro hp1 _ ⟨rfl, he1⟩
      have hk : ∀ a, a < 247 → hp1[a]? = hp[a]? := fun a ha => by rw [he1]; exact List.getElem?_append_left (by omega)
      have hl1 : hp1.length = hp.length + 1 := by rw [he1]; exact ap_len rfl
      have ht1 : am_tot hp1 = am_tot hp + 6 := by rw [he1]; exact c_exT _ _
      have h01 := (hk 0 (by omega)).trans h0
      have hU1 := (hk 246 (by omega)).trans hU
      have hM1 := hM.kept (fun a a1 a2 => hk a (by omega))
      have hC1 := hC.kept (fun a a1 a2 => hk a (by omega))
      have hM0 := hM1
      obtain ⟨⟨⟨co1, hO1⟩, -⟩, -⟩ := hM0
      show am_Rq _ 0 461 [some (.ref 0), some (.ref 2), some (.ref 238), some (.ref 246), some (.int (nI (7 * n))), z5, z6] [.int (nI 1)] _ _
      refine am_Rq.blk (is := [(.istore 5, 2), (.aload_n 2, 1), (.aload_n 0, 1), (.iload 4, 2), (.iconst 1, 1), (.iadd, 1)]) (q := (469, [some (.ref 0), some (.ref 2), some (.ref 238), some (.ref 246), some (.int (nI (7 * n))), some (.int (nI 1)), z6], [.int ((nI (7 * n)) + (nI 1)), .ref 0, .ref 238])) (by decide +kernel) rfl ?_
      dsimp only
      rw [show (nI (7 * n)) + (nI 1) = nI ((7 * n) + 1) from nI_add _ _]
      refine am_Rq.ial (k := (7 * n) + 1) (show decode (am_by 0) 469 = .ok (.iaload, 1) by decide +kernel) h01 (by omega) (by omega) ?_
      refine am_Rq.blk (is := [(.aload_n 0, 1), (.iload 4, 2), (.iconst 2, 1), (.iadd, 1)]) (q := (475, [some (.ref 0), some (.ref 2), some (.ref 238), some (.ref 246), some (.int (nI (7 * n))), some (.int (nI 1)), z6], [.int ((nI (7 * n)) + (nI 2)), .ref 0, .int (xs ((7 * n) + 1)), .ref 238])) (by decide +kernel) rfl ?_
      dsimp only
      rw [show (nI (7 * n)) + (nI 2) = nI ((7 * n) + 2) from nI_add _ _]
      refine am_Rq.ial (k := (7 * n) + 2) (show decode (am_by 0) 475 = .ok (.iaload, 1) by decide +kernel) h01 (by omega) (by omega) ?_
      refine am_Rq.blk (is := [(.aload_n 0, 1), (.iload 4, 2), (.iconst 3, 1), (.iadd, 1)]) (q := (481, [some (.ref 0), some (.ref 2), some (.ref 238), some (.ref 246), some (.int (nI (7 * n))), some (.int (nI 1)), z6], [.int ((nI (7 * n)) + (nI 3)), .ref 0, .int (xs ((7 * n) + 2)), .int (xs ((7 * n) + 1)), .ref 238])) (by decide +kernel) rfl ?_
      dsimp only
      rw [show (nI (7 * n)) + (nI 3) = nI ((7 * n) + 3) from nI_add _ _]
      refine am_Rq.ial (k := (7 * n) + 3) (show decode (am_by 0) 481 = .ok (.iaload, 1) by decide +kernel) h01 (by omega) (by omega) ?_
      refine am_Rq.callV (show decode (am_by 0) 482 = .ok (.invokevirtual 98, 3) by decide +kernel) rfl [.int (xs ((7 * n) + 1)), .int (xs ((7 * n) + 2)), .int (xs ((7 * n) + 3))] [] rfl rfl (Nat.le_of_ble_eq_true rfl) rfl hO1 rfl (hm hp1 th hM1) ?_
      rintro hp2 _ ⟨rfl, hM2, hf2⟩
      have h02 := (hf2.2.2 0 (fun q => by omega)).trans h01
      have hU2 := (hf2.2.2 246 (fun q => by omega)).trans hU1
      have hC2 := hC1.kept (fun a a1 a2 => hf2.2.2 a (fun q => by omega))
      show am_Rq _ 0 485 [some (.ref 0), some (.ref 2), some (.ref 238), some (.ref 246), some (.int (nI (7 * n))), some (.int (nI 1)), z6] [.int (nI 0)] _ _
      refine am_Rq.blk (is := [(.istore 6, 2), (.aload_n 2, 1)]) (q := (488, [some (.ref 0), some (.ref 2), some (.ref 238), some (.ref 246), some (.int (nI (7 * n))), some (.int (nI 1)), some (.int (nI 0))], [.ref 238])) (by decide +kernel) rfl ?_
      dsimp only
      have hM3 := hM2
      obtain ⟨⟨⟨co2, hO2⟩, hS2, -⟩, -⟩ := hM3
      refine am_Rq.callV (show decode (am_by 0) 488 = .ok (.invokevirtual 85, 3) by decide +kernel) rfl [] [] rfl rfl (Nat.le_of_ble_eq_true rfl) rfl hO2 rfl (m_thrown (d := 8) hO2 hS2) ?_
      rintro hq _ ⟨e1, rfl⟩
      rw [e1]
      clear e1 hq
      show am_Rq _ 0 491 [some (.ref 0), some (.ref 2), some (.ref 238), some (.ref 246), some (.int (nI (7 * n))), some (.int (nI 1)), some (.int (nI 0))] [.int (nI 1)] _ _
      refine am_Rq.blk (is := [(.iload 5, 2)]) (q := (493, [some (.ref 0), some (.ref 2), some (.ref 238), some (.ref 246), some (.int (nI (7 * n))), some (.int (nI 1)), some (.int (nI 0))], [.int (nI 1), .int (nI 1)])) (by decide +kernel) rfl ?_
      dsimp only
      refine am_Rq.if2T (t := 498) (show decode (am_by 0) 493 = .ok (.if_icmp .eq 5, 3) by decide +kernel) (by decide) (rfl) ?_
      refine am_Rq.blk (is := [(.iload 5, 2)]) (q := (500, [some (.ref 0), some (.ref 2), some (.ref 238), some (.ref 246), some (.int (nI (7 * n))), some (.int (nI 1)), some (.int (nI 0))], [.int (nI 1)])) (by decide +kernel) rfl ?_
      dsimp only
      refine am_Rq.if1T (t := 515) (show decode (am_by 0) 500 = .ok (.ifCond .ne 15, 3) by decide +kernel) (by decide) (rfl) ?_
      refine am_Rq.blk (is := [(.goto 909, 3)]) (q := (1424, [some (.ref 0), some (.ref 2), some (.ref 238), some (.ref 246), some (.int (nI (7 * n))), some (.int (nI 1)), some (.int (nI 0))], [])) (by decide +kernel) rfl ?_
      dsimp only
      refine am_Rq.blk (is := [(.iinc 4 7, 3)]) (q := (1427, [some (.ref 0), some (.ref 2), some (.ref 238), some (.ref 246), some (.int ((nI (7 * n)) + (nI 7))), some (.int (nI 1)), some (.int (nI 0))], [])) (by decide +kernel) rfl ?_
      dsimp only
      rw [show (nI (7 * n)) + (nI 7) = nI ((7 * n) + 7) from nI_add _ _]
      refine am_Rq.blk (is := [(.goto (-1404), 3)]) (q := (23, [some (.ref 0), some (.ref 2), some (.ref 238), some (.ref 246), some (.int (nI ((7 * n) + 7))), some (.int (nI 1)), some (.int (nI 0))], [])) (by decide +kernel) rfl ?_
      dsimp only
      rw [show 7 * n + 7 = 7 * (n + 1) by omega]
      exact ih _ _ _ ⟨s, f, kn, nx, ks, hs, 1, h02, hC2, hM2, ⟨_, hU2⟩, hR.more, by rw [hf2.1, hl1]; omega, by rw [hf2.1, hl1]; omega, by rw [hf2.2.1, ht1]; omega⟩
    ·
      refine am_Rq.blk (is := [(.aload_n 1, 1), (.aload_n 0, 1), (.iload 4, 2), (.iconst 1, 1), (.iadd, 1)]) (q := (444, [some (.ref 0), some (.ref 2), some (.ref 238), some (.ref 246), some (.int (nI (7 * n))), z5, z6], [.int ((nI (7 * n)) + (nI 1)), .ref 0, .ref 2])) (by decide +kernel) rfl ?_
      dsimp only
      rw [show (nI (7 * n)) + (nI 1) = nI ((7 * n) + 1) from nI_add _ _]
      refine am_Rq.ial (k := (7 * n) + 1) (show decode (am_by 0) 444 = .ok (.iaload, 1) by decide +kernel) h0 (by omega) (by omega) ?_
      refine am_Rq.blk (is := [(.aload_n 0, 1), (.iload 4, 2), (.iconst 2, 1), (.iadd, 1)]) (q := (450, [some (.ref 0), some (.ref 2), some (.ref 238), some (.ref 246), some (.int (nI (7 * n))), z5, z6], [.int ((nI (7 * n)) + (nI 2)), .ref 0, .int (xs ((7 * n) + 1)), .ref 2])) (by decide +kernel) rfl ?_
      dsimp only
      rw [show (nI (7 * n)) + (nI 2) = nI ((7 * n) + 2) from nI_add _ _]
      refine am_Rq.ial (k := (7 * n) + 2) (show decode (am_by 0) 450 = .ok (.iaload, 1) by decide +kernel) h0 (by omega) (by omega) ?_
      refine am_Rq.blk (is := [(.aload_n 0, 1), (.iload 4, 2), (.iconst 3, 1), (.iadd, 1)]) (q := (456, [some (.ref 0), some (.ref 2), some (.ref 238), some (.ref 246), some (.int (nI (7 * n))), z5, z6], [.int ((nI (7 * n)) + (nI 3)), .ref 0, .int (xs ((7 * n) + 2)), .int (xs ((7 * n) + 1)), .ref 2])) (by decide +kernel) rfl ?_
      dsimp only
      rw [show (nI (7 * n)) + (nI 3) = nI ((7 * n) + 3) from nI_add _ _]
      refine am_Rq.ial (k := (7 * n) + 3) (show decode (am_by 0) 456 = .ok (.iaload, 1) by decide +kernel) h0 (by omega) (by omega) ?_
      refine am_Rq.blk (is := [(.aload_n 3, 1)]) (q := (458, [some (.ref 0), some (.ref 2), some (.ref 238), some (.ref 246), some (.int (nI (7 * n))), z5, z6], [.ref 246, .int (xs ((7 * n) + 3)), .int (xs ((7 * n) + 2)), .int (xs ((7 * n) + 1)), .ref 2])) (by decide +kernel) rfl ?_
      dsimp only
      refine am_Rq.callS (show decode (am_by 0) 458 = .ok (.invokestatic 95, 3) by decide +kernel) rfl [.ref 2, .int (xs ((7 * n) + 1)), .int (xs ((7 * n) + 2)), .int (xs ((7 * n) + 3)), .ref 246] [] rfl rfl (Nat.le_of_ble_eq_true rfl) rfl rfl (w_convert_no0 hC hU hc) ?_
      rintro hp1 _ ⟨rfl, he1⟩
      have hk : ∀ a, a < 247 → hp1[a]? = hp[a]? := fun a ha => by rw [he1]; exact List.getElem?_append_left (by omega)
      have hl1 : hp1.length = hp.length + 1 := by rw [he1]; exact ap_len rfl
      have ht1 : am_tot hp1 = am_tot hp + 6 := by rw [he1]; exact c_exT _ _
      have h01 := (hk 0 (by omega)).trans h0
      have hU1 := (hk 246 (by omega)).trans hU
      have hM1 := hM.kept (fun a a1 a2 => hk a (by omega))
      have hC1 := hC.kept (fun a a1 a2 => hk a (by omega))
      have hM0 := hM1
      obtain ⟨⟨⟨co1, hO1⟩, -⟩, -⟩ := hM0
      show am_Rq _ 0 461 [some (.ref 0), some (.ref 2), some (.ref 238), some (.ref 246), some (.int (nI (7 * n))), z5, z6] [.int (nI 2)] _ _
      refine am_Rq.blk (is := [(.istore 5, 2), (.aload_n 2, 1), (.aload_n 0, 1), (.iload 4, 2), (.iconst 1, 1), (.iadd, 1)]) (q := (469, [some (.ref 0), some (.ref 2), some (.ref 238), some (.ref 246), some (.int (nI (7 * n))), some (.int (nI 2)), z6], [.int ((nI (7 * n)) + (nI 1)), .ref 0, .ref 238])) (by decide +kernel) rfl ?_
      dsimp only
      rw [show (nI (7 * n)) + (nI 1) = nI ((7 * n) + 1) from nI_add _ _]
      refine am_Rq.ial (k := (7 * n) + 1) (show decode (am_by 0) 469 = .ok (.iaload, 1) by decide +kernel) h01 (by omega) (by omega) ?_
      refine am_Rq.blk (is := [(.aload_n 0, 1), (.iload 4, 2), (.iconst 2, 1), (.iadd, 1)]) (q := (475, [some (.ref 0), some (.ref 2), some (.ref 238), some (.ref 246), some (.int (nI (7 * n))), some (.int (nI 2)), z6], [.int ((nI (7 * n)) + (nI 2)), .ref 0, .int (xs ((7 * n) + 1)), .ref 238])) (by decide +kernel) rfl ?_
      dsimp only
      rw [show (nI (7 * n)) + (nI 2) = nI ((7 * n) + 2) from nI_add _ _]
      refine am_Rq.ial (k := (7 * n) + 2) (show decode (am_by 0) 475 = .ok (.iaload, 1) by decide +kernel) h01 (by omega) (by omega) ?_
      refine am_Rq.blk (is := [(.aload_n 0, 1), (.iload 4, 2), (.iconst 3, 1), (.iadd, 1)]) (q := (481, [some (.ref 0), some (.ref 2), some (.ref 238), some (.ref 246), some (.int (nI (7 * n))), some (.int (nI 2)), z6], [.int ((nI (7 * n)) + (nI 3)), .ref 0, .int (xs ((7 * n) + 2)), .int (xs ((7 * n) + 1)), .ref 238])) (by decide +kernel) rfl ?_
      dsimp only
      rw [show (nI (7 * n)) + (nI 3) = nI ((7 * n) + 3) from nI_add _ _]
      refine am_Rq.ial (k := (7 * n) + 3) (show decode (am_by 0) 481 = .ok (.iaload, 1) by decide +kernel) h01 (by omega) (by omega) ?_
      refine am_Rq.callV (show decode (am_by 0) 482 = .ok (.invokevirtual 98, 3) by decide +kernel) rfl [.int (xs ((7 * n) + 1)), .int (xs ((7 * n) + 2)), .int (xs ((7 * n) + 3))] [] rfl rfl (Nat.le_of_ble_eq_true rfl) rfl hO1 rfl (hm hp1 th hM1) ?_
      rintro hp2 _ ⟨rfl, hM2, hf2⟩
      have h02 := (hf2.2.2 0 (fun q => by omega)).trans h01
      have hU2 := (hf2.2.2 246 (fun q => by omega)).trans hU1
      have hC2 := hC1.kept (fun a a1 a2 => hf2.2.2 a (fun q => by omega))
      show am_Rq _ 0 485 [some (.ref 0), some (.ref 2), some (.ref 238), some (.ref 246), some (.int (nI (7 * n))), some (.int (nI 2)), z6] [.int (nI 0)] _ _
      refine am_Rq.blk (is := [(.istore 6, 2), (.aload_n 2, 1)]) (q := (488, [some (.ref 0), some (.ref 2), some (.ref 238), some (.ref 246), some (.int (nI (7 * n))), some (.int (nI 2)), some (.int (nI 0))], [.ref 238])) (by decide +kernel) rfl ?_
      dsimp only
      have hM3 := hM2
      obtain ⟨⟨⟨co2, hO2⟩, hS2, -⟩, -⟩ := hM3
      refine am_Rq.callV (show decode (am_by 0) 488 = .ok (.invokevirtual 85, 3) by decide +kernel) rfl [] [] rfl rfl (Nat.le_of_ble_eq_true rfl) rfl hO2 rfl (m_thrown (d := 8) hO2 hS2) ?_
      rintro hq _ ⟨e1, rfl⟩
      rw [e1]
      clear e1 hq
      show am_Rq _ 0 491 [some (.ref 0), some (.ref 2), some (.ref 238), some (.ref 246), some (.int (nI (7 * n))), some (.int (nI 2)), some (.int (nI 0))] [.int (nI 2)] _ _
      refine am_Rq.blk (is := [(.iload 5, 2)]) (q := (493, [some (.ref 0), some (.ref 2), some (.ref 238), some (.ref 246), some (.int (nI (7 * n))), some (.int (nI 2)), some (.int (nI 0))], [.int (nI 2), .int (nI 2)])) (by decide +kernel) rfl ?_
      dsimp only
      refine am_Rq.if2T (t := 498) (show decode (am_by 0) 493 = .ok (.if_icmp .eq 5, 3) by decide +kernel) (by decide) (rfl) ?_
      refine am_Rq.blk (is := [(.iload 5, 2)]) (q := (500, [some (.ref 0), some (.ref 2), some (.ref 238), some (.ref 246), some (.int (nI (7 * n))), some (.int (nI 2)), some (.int (nI 0))], [.int (nI 2)])) (by decide +kernel) rfl ?_
      dsimp only
      refine am_Rq.if1T (t := 515) (show decode (am_by 0) 500 = .ok (.ifCond .ne 15, 3) by decide +kernel) (by decide) (rfl) ?_
      refine am_Rq.blk (is := [(.goto 909, 3)]) (q := (1424, [some (.ref 0), some (.ref 2), some (.ref 238), some (.ref 246), some (.int (nI (7 * n))), some (.int (nI 2)), some (.int (nI 0))], [])) (by decide +kernel) rfl ?_
      dsimp only
      refine am_Rq.blk (is := [(.iinc 4 7, 3)]) (q := (1427, [some (.ref 0), some (.ref 2), some (.ref 238), some (.ref 246), some (.int ((nI (7 * n)) + (nI 7))), some (.int (nI 2)), some (.int (nI 0))], [])) (by decide +kernel) rfl ?_
      dsimp only
      rw [show (nI (7 * n)) + (nI 7) = nI ((7 * n) + 7) from nI_add _ _]
      refine am_Rq.blk (is := [(.goto (-1404), 3)]) (q := (23, [some (.ref 0), some (.ref 2), some (.ref 238), some (.ref 246), some (.int (nI ((7 * n) + 7))), some (.int (nI 2)), some (.int (nI 0))], [])) (by decide +kernel) rfl ?_
      dsimp only
      rw [show 7 * n + 7 = 7 * (n + 1) by omega]
      exact ih _ _ _ ⟨s, f, kn, nx, ks, hs, 2, h02, hC2, hM2, ⟨_, hU2⟩, hR.more, by rw [hf2.1, hl1]; omega, by rw [hf2.1, hl1]; omega, by rw [hf2.2.1, ht1]; omega⟩
    ·
      refine am_Rq.blk (is := [(.aload_n 1, 1), (.aload_n 0, 1), (.iload 4, 2), (.iconst 1, 1), (.iadd, 1)]) (q := (444, [some (.ref 0), some (.ref 2), some (.ref 238), some (.ref 246), some (.int (nI (7 * n))), z5, z6], [.int ((nI (7 * n)) + (nI 1)), .ref 0, .ref 2])) (by decide +kernel) rfl ?_
      dsimp only
      rw [show (nI (7 * n)) + (nI 1) = nI ((7 * n) + 1) from nI_add _ _]
      refine am_Rq.ial (k := (7 * n) + 1) (show decode (am_by 0) 444 = .ok (.iaload, 1) by decide +kernel) h0 (by omega) (by omega) ?_
      refine am_Rq.blk (is := [(.aload_n 0, 1), (.iload 4, 2), (.iconst 2, 1), (.iadd, 1)]) (q := (450, [some (.ref 0), some (.ref 2), some (.ref 238), some (.ref 246), some (.int (nI (7 * n))), z5, z6], [.int ((nI (7 * n)) + (nI 2)), .ref 0, .int (xs ((7 * n) + 1)), .ref 2])) (by decide +kernel) rfl ?_
      dsimp only
      rw [show (nI (7 * n)) + (nI 2) = nI ((7 * n) + 2) from nI_add _ _]
      refine am_Rq.ial (k := (7 * n) + 2) (show decode (am_by 0) 450 = .ok (.iaload, 1) by decide +kernel) h0 (by omega) (by omega) ?_
      refine am_Rq.blk (is := [(.aload_n 0, 1), (.iload 4, 2), (.iconst 3, 1), (.iadd, 1)]) (q := (456, [some (.ref 0), some (.ref 2), some (.ref 238), some (.ref 246), some (.int (nI (7 * n))), z5, z6], [.int ((nI (7 * n)) + (nI 3)), .ref 0, .int (xs ((7 * n) + 2)), .int (xs ((7 * n) + 1)), .ref 2])) (by decide +kernel) rfl ?_
      dsimp only
      rw [show (nI (7 * n)) + (nI 3) = nI ((7 * n) + 3) from nI_add _ _]
      refine am_Rq.ial (k := (7 * n) + 3) (show decode (am_by 0) 456 = .ok (.iaload, 1) by decide +kernel) h0 (by omega) (by omega) ?_
      refine am_Rq.blk (is := [(.aload_n 3, 1)]) (q := (458, [some (.ref 0), some (.ref 2), some (.ref 238), some (.ref 246), some (.int (nI (7 * n))), z5, z6], [.ref 246, .int (xs ((7 * n) + 3)), .int (xs ((7 * n) + 2)), .int (xs ((7 * n) + 1)), .ref 2])) (by decide +kernel) rfl ?_
      dsimp only
      refine am_Rq.callS (show decode (am_by 0) 458 = .ok (.invokestatic 95, 3) by decide +kernel) rfl [.ref 2, .int (xs ((7 * n) + 1)), .int (xs ((7 * n) + 2)), .int (xs ((7 * n) + 3)), .ref 246] [] rfl rfl (Nat.le_of_ble_eq_true rfl) rfl rfl (w_convert_no1 hC hU hc) ?_
      rintro hp1 _ ⟨rfl, he1⟩
      have hk : ∀ a, a < 247 → hp1[a]? = hp[a]? := fun a ha => by rw [he1]; exact List.getElem?_append_left (by omega)
      have hl1 : hp1.length = hp.length + 1 := by rw [he1]; exact ap_len rfl
      have ht1 : am_tot hp1 = am_tot hp + 6 := by rw [he1]; exact c_exT _ _
      have h01 := (hk 0 (by omega)).trans h0
      have hU1 := (hk 246 (by omega)).trans hU
      have hM1 := hM.kept (fun a a1 a2 => hk a (by omega))
      have hC1 := hC.kept (fun a a1 a2 => hk a (by omega))
      have hM0 := hM1
      obtain ⟨⟨⟨co1, hO1⟩, -⟩, -⟩ := hM0
      show am_Rq _ 0 461 [some (.ref 0), some (.ref 2), some (.ref 238), some (.ref 246), some (.int (nI (7 * n))), z5, z6] [.int (nI 3)] _ _
      refine am_Rq.blk (is := [(.istore 5, 2), (.aload_n 2, 1), (.aload_n 0, 1), (.iload 4, 2), (.iconst 1, 1), (.iadd, 1)]) (q := (469, [some (.ref 0), some (.ref 2), some (.ref 238), some (.ref 246), some (.int (nI (7 * n))), some (.int (nI 3)), z6], [.int ((nI (7 * n)) + (nI 1)), .ref 0, .ref 238])) (by decide +kernel) rfl ?_
      dsimp only
      rw [show (nI (7 * n)) + (nI 1) = nI ((7 * n) + 1) from nI_add _ _]
      refine am_Rq.ial (k := (7 * n) + 1) (show decode (am_by 0) 469 = .ok (.iaload, 1) by decide +kernel) h01 (by omega) (by omega) ?_
      refine am_Rq.blk (is := [(.aload_n 0, 1), (.iload 4, 2), (.iconst 2, 1), (.iadd, 1)]) (q := (475, [some (.ref 0), some (.ref 2), some (.ref 238), some (.ref 246), some (.int (nI (7 * n))), some (.int (nI 3)), z6], [.int ((nI (7 * n)) + (nI 2)), .ref 0, .int (xs ((7 * n) + 1)), .ref 238])) (by decide +kernel) rfl ?_
      dsimp only
      rw [show (nI (7 * n)) + (nI 2) = nI ((7 * n) + 2) from nI_add _ _]
      refine am_Rq.ial (k := (7 * n) + 2) (show decode (am_by 0) 475 = .ok (.iaload, 1) by decide +kernel) h01 (by omega) (by omega) ?_
      refine am_Rq.blk (is := [(.aload_n 0, 1), (.iload 4, 2), (.iconst 3, 1), (.iadd, 1)]) (q := (481, [some (.ref 0), some (.ref 2), some (.ref 238), some (.ref 246), some (.int (nI (7 * n))), some (.int (nI 3)), z6], [.int ((nI (7 * n)) + (nI 3)), .ref 0, .int (xs ((7 * n) + 2)), .int (xs ((7 * n) + 1)), .ref 238])) (by decide +kernel) rfl ?_
      dsimp only
      rw [show (nI (7 * n)) + (nI 3) = nI ((7 * n) + 3) from nI_add _ _]
      refine am_Rq.ial (k := (7 * n) + 3) (show decode (am_by 0) 481 = .ok (.iaload, 1) by decide +kernel) h01 (by omega) (by omega) ?_
      refine am_Rq.callV (show decode (am_by 0) 482 = .ok (.invokevirtual 98, 3) by decide +kernel) rfl [.int (xs ((7 * n) + 1)), .int (xs ((7 * n) + 2)), .int (xs ((7 * n) + 3))] [] rfl rfl (Nat.le_of_ble_eq_true rfl) rfl hO1 rfl (hm hp1 th hM1) ?_
      rintro hp2 _ ⟨rfl, hM2, hf2⟩
      have h02 := (hf2.2.2 0 (fun q => by omega)).trans h01
      have hU2 := (hf2.2.2 246 (fun q => by omega)).trans hU1
      have hC2 := hC1.kept (fun a a1 a2 => hf2.2.2 a (fun q => by omega))
      show am_Rq _ 0 485 [some (.ref 0), some (.ref 2), some (.ref 238), some (.ref 246), some (.int (nI (7 * n))), some (.int (nI 3)), z6] [.int (nI 0)] _ _
      refine am_Rq.blk (is := [(.istore 6, 2), (.aload_n 2, 1)]) (q := (488, [some (.ref 0), some (.ref 2), some (.ref 238), some (.ref 246), some (.int (nI (7 * n))), some (.int (nI 3)), some (.int (nI 0))], [.ref 238])) (by decide +kernel) rfl ?_
      dsimp only
      have hM3 := hM2
      obtain ⟨⟨⟨co2, hO2⟩, hS2, -⟩, -⟩ := hM3
      refine am_Rq.callV (show decode (am_by 0) 488 = .ok (.invokevirtual 85, 3) by decide +kernel) rfl [] [] rfl rfl (Nat.le_of_ble_eq_true rfl) rfl hO2 rfl (m_thrown (d := 8) hO2 hS2) ?_
      rintro hq _ ⟨e1, rfl⟩
      rw [e1]
      clear e1 hq
      show am_Rq _ 0 491 [some (.ref 0), some (.ref 2), some (.ref 238), some (.ref 246), some (.int (nI (7 * n))), some (.int (nI 3)), some (.int (nI 0))] [.int (nI 3)] _ _
      refine am_Rq.blk (is := [(.iload 5, 2)]) (q := (493, [some (.ref 0), some (.ref 2), some (.ref 238), some (.ref 246), some (.int (nI (7 * n))), some (.int (nI 3)), some (.int (nI 0))], [.int (nI 3), .int (nI 3)])) (by decide +kernel) rfl ?_
      dsimp only
      refine am_Rq.if2T (t := 498) (show decode (am_by 0) 493 = .ok (.if_icmp .eq 5, 3) by decide +kernel) (by decide) (rfl) ?_
      refine am_Rq.blk (is := [(.iload 5, 2)]) (q := (500, [some (.ref 0), some (.ref 2), some (.ref 238), some (.ref 246), some (.int (nI (7 * n))), some (.int (nI 3)), some (.int (nI 0))], [.int (nI 3)])) (by decide +kernel) rfl ?_
      dsimp only
      refine am_Rq.if1T (t := 515) (show decode (am_by 0) 500 = .ok (.ifCond .ne 15, 3) by decide +kernel) (by decide) (rfl) ?_
      refine am_Rq.blk (is := [(.goto 909, 3)]) (q := (1424, [some (.ref 0), some (.ref 2), some (.ref 238), some (.ref 246), some (.int (nI (7 * n))), some (.int (nI 3)), some (.int (nI 0))], [])) (by decide +kernel) rfl ?_
      dsimp only
      refine am_Rq.blk (is := [(.iinc 4 7, 3)]) (q := (1427, [some (.ref 0), some (.ref 2), some (.ref 238), some (.ref 246), some (.int ((nI (7 * n)) + (nI 7))), some (.int (nI 3)), some (.int (nI 0))], [])) (by decide +kernel) rfl ?_
      dsimp only
      rw [show (nI (7 * n)) + (nI 7) = nI ((7 * n) + 7) from nI_add _ _]
      refine am_Rq.blk (is := [(.goto (-1404), 3)]) (q := (23, [some (.ref 0), some (.ref 2), some (.ref 238), some (.ref 246), some (.int (nI ((7 * n) + 7))), some (.int (nI 3)), some (.int (nI 0))], [])) (by decide +kernel) rfl ?_
      dsimp only
      rw [show 7 * n + 7 = 7 * (n + 1) by omega]
      exact ih _ _ _ ⟨s, f, kn, nx, ks, hs, 3, h02, hC2, hM2, ⟨_, hU2⟩, hR.more, by rw [hf2.1, hl1]; omega, by rw [hf2.1, hl1]; omega, by rw [hf2.2.1, ht1]; omega⟩
theorem l_pool {L n : Nat} {xs : Nat → Int32} (hL : L ≤ 3584) (hn : 7 * n + 7 ≤ L) {hp : am_H} (h : l_St L xs hp n) {Q : am_H → am_R → Prop} (ih : ∀ hp1 z5 z6, l_St L xs hp1 (n + 1) → am_Rq 9 0 23 [some (.ref 0), some (.ref 2), some (.ref 238), some (.ref 246), some (.int (nI (7 * (n + 1)))), z5, z6] [] hp1 Q) {z5 z6 : Option Value} : am_Rq 9 0 518 [some (.ref 0), some (.ref 2), some (.ref 238), some (.ref 246), some (.int (nI (7 * n))), z5, z6] [] hp Q := by
  obtain ⟨s, f, kn, nx, ks, hs, th, h0, hC, hM, ⟨ou, hU⟩, hR, l1, l2, l3⟩ := h
  have hp9 := p_pool hR (by omega) (xs (7 * n + 1))
  rcases hp9 with ⟨v, s1, kn1, nx1, ks1, hc, hm⟩ | ⟨k, c, hin, hc, hm⟩
  ·
    refine am_Rq.blk (is := [(.aload_n 1, 1), (.aload_n 0, 1), (.iload 4, 2), (.iconst 1, 1), (.iadd, 1)]) (q := (524, [some (.ref 0), some (.ref 2), some (.ref 238), some (.ref 246), some (.int (nI (7 * n))), z5, z6], [.int ((nI (7 * n)) + (nI 1)), .ref 0, .ref 2])) (by decide +kernel) rfl ?_
    dsimp only
    rw [show (nI (7 * n)) + (nI 1) = nI ((7 * n) + 1) from nI_add _ _]
    refine am_Rq.ial (k := (7 * n) + 1) (show decode (am_by 0) 524 = .ok (.iaload, 1) by decide +kernel) h0 (by omega) (by omega) ?_
    refine am_Rq.blk (is := [(.aload_n 3, 1)]) (q := (526, [some (.ref 0), some (.ref 2), some (.ref 238), some (.ref 246), some (.int (nI (7 * n))), z5, z6], [.ref 246, .int (xs ((7 * n) + 1)), .ref 2])) (by decide +kernel) rfl ?_
    dsimp only
    refine am_Rq.callS (show decode (am_by 0) 526 = .ok (.invokestatic 99, 3) by decide +kernel) rfl [.ref 2, .int (xs ((7 * n) + 1)), .ref 246] [] rfl rfl (Nat.le_of_ble_eq_true rfl) rfl rfl (w_pool hC hU hc) ?_
    rintro hp1 _ ⟨rfl, hC1, hU1, hf1⟩
    have h01 := (hf1.2.2 0 (fun q => by omega)).trans h0
    have hM1 := hM.kept (fun a a1 a2 => hf1.2.2 a (fun q => by omega))
    have hM0 := hM1
    obtain ⟨⟨⟨co1, hO1⟩, -⟩, -⟩ := hM0
    show am_Rq _ 0 529 [some (.ref 0), some (.ref 2), some (.ref 238), some (.ref 246), some (.int (nI (7 * n))), z5, z6] [.int (nI 0)] _ _
    refine am_Rq.blk (is := [(.istore 5, 2), (.aload_n 2, 1), (.aload_n 0, 1), (.iload 4, 2), (.iconst 1, 1), (.iadd, 1)]) (q := (537, [some (.ref 0), some (.ref 2), some (.ref 238), some (.ref 246), some (.int (nI (7 * n))), some (.int (nI 0)), z6], [.int ((nI (7 * n)) + (nI 1)), .ref 0, .ref 238])) (by decide +kernel) rfl ?_
    dsimp only
    rw [show (nI (7 * n)) + (nI 1) = nI ((7 * n) + 1) from nI_add _ _]
    refine am_Rq.ial (k := (7 * n) + 1) (show decode (am_by 0) 537 = .ok (.iaload, 1) by decide +kernel) h01 (by omega) (by omega) ?_
    refine am_Rq.callV (show decode (am_by 0) 538 = .ok (.invokevirtual 102, 3) by decide +kernel) rfl [.int (xs ((7 * n) + 1))] [] rfl rfl (Nat.le_of_ble_eq_true rfl) rfl hO1 rfl (hm hp1 th hM1) ?_
    rintro hp2 _ ⟨rfl, ⟨f2, hM2, hs2, hR2⟩, hf2⟩
    have h02 := (hf2.2.2 0 (fun q => by omega)).trans h01
    have hU2 := (hf2.2.2 246 (fun q => by omega)).trans hU1
    have hC2 := hC1.kept (fun a a1 a2 => hf2.2.2 a (fun q => by omega))
    show am_Rq _ 0 541 [some (.ref 0), some (.ref 2), some (.ref 238), some (.ref 246), some (.int (nI (7 * n))), some (.int (nI 0)), z6] [.int v] _ _
    refine am_Rq.blk (is := [(.istore 6, 2), (.aload_n 2, 1)]) (q := (544, [some (.ref 0), some (.ref 2), some (.ref 238), some (.ref 246), some (.int (nI (7 * n))), some (.int (nI 0)), some (.int v)], [.ref 238])) (by decide +kernel) rfl ?_
    dsimp only
    have hM3 := hM2
    obtain ⟨⟨⟨co2, hO2⟩, hS2, -⟩, -⟩ := hM3
    refine am_Rq.callV (show decode (am_by 0) 544 = .ok (.invokevirtual 85, 3) by decide +kernel) rfl [] [] rfl rfl (Nat.le_of_ble_eq_true rfl) rfl hO2 rfl (m_thrown (d := 8) hO2 hS2) ?_
    rintro hq _ ⟨e1, rfl⟩
    rw [e1]
    clear e1 hq
    show am_Rq _ 0 547 [some (.ref 0), some (.ref 2), some (.ref 238), some (.ref 246), some (.int (nI (7 * n))), some (.int (nI 0)), some (.int v)] [.int (nI 0)] _ _
    refine am_Rq.blk (is := [(.iload 5, 2)]) (q := (549, [some (.ref 0), some (.ref 2), some (.ref 238), some (.ref 246), some (.int (nI (7 * n))), some (.int (nI 0)), some (.int v)], [.int (nI 0), .int (nI 0)])) (by decide +kernel) rfl ?_
    dsimp only
    refine am_Rq.if2T (t := 554) (show decode (am_by 0) 549 = .ok (.if_icmp .eq 5, 3) by decide +kernel) (by decide) (rfl) ?_
    refine am_Rq.blk (is := [(.iload 5, 2)]) (q := (556, [some (.ref 0), some (.ref 2), some (.ref 238), some (.ref 246), some (.int (nI (7 * n))), some (.int (nI 0)), some (.int v)], [.int (nI 0)])) (by decide +kernel) rfl ?_
    dsimp only
    refine am_Rq.if1F (show decode (am_by 0) 556 = .ok (.ifCond .ne 15, 3) by decide +kernel) (by decide) (rfl) ?_
    refine am_Rq.blk (is := [(.aload_n 3, 1), (.iconst 0, 1)]) (q := (561, [some (.ref 0), some (.ref 2), some (.ref 238), some (.ref 246), some (.int (nI (7 * n))), some (.int (nI 0)), some (.int v)], [.int (nI 0), .ref 246])) (by decide +kernel) rfl ?_
    dsimp only
    refine am_Rq.lal (k := 0) (show decode (am_by 0) 561 = .ok (.laload, 1) by decide +kernel) hU2 (by omega) (by omega) ?_
    refine am_Rq.blk (is := [(.iload 6, 2)]) (q := (564, [some (.ref 0), some (.ref 2), some (.ref 238), some (.ref 246), some (.int (nI (7 * n))), some (.int (nI 0)), some (.int v)], [.int v, .long ((va_up ou 0 v.toInt64) 0)])) (by decide +kernel) rfl ?_
    dsimp only
    rw [va_up_self]
    refine am_Rq.blk (is := [(.i2l, 1), (.lcmp, 1)]) (q := (566, [some (.ref 0), some (.ref 2), some (.ref 238), some (.ref 246), some (.int (nI (7 * n))), some (.int (nI 0)), some (.int v)], [.int (lg_cmp v.toInt64 v.toInt64)])) (by decide +kernel) rfl ?_
    dsimp only
    refine am_Rq.if1T (t := 571) (show decode (am_by 0) 566 = .ok (.ifCond .eq 5, 3) by decide +kernel) (by decide) (by rw [nm_ceq]; exact decide_eq_true rfl) ?_
    refine am_Rq.blk (is := [(.goto 853, 3)]) (q := (1424, [some (.ref 0), some (.ref 2), some (.ref 238), some (.ref 246), some (.int (nI (7 * n))), some (.int (nI 0)), some (.int v)], [])) (by decide +kernel) rfl ?_
    dsimp only
    refine am_Rq.blk (is := [(.iinc 4 7, 3)]) (q := (1427, [some (.ref 0), some (.ref 2), some (.ref 238), some (.ref 246), some (.int ((nI (7 * n)) + (nI 7))), some (.int (nI 0)), some (.int v)], [])) (by decide +kernel) rfl ?_
    dsimp only
    rw [show (nI (7 * n)) + (nI 7) = nI ((7 * n) + 7) from nI_add _ _]
    refine am_Rq.blk (is := [(.goto (-1404), 3)]) (q := (23, [some (.ref 0), some (.ref 2), some (.ref 238), some (.ref 246), some (.int (nI ((7 * n) + 7))), some (.int (nI 0)), some (.int v)], [])) (by decide +kernel) rfl ?_
    dsimp only
    rw [show 7 * n + 7 = 7 * (n + 1) by omega]
    exact ih _ _ _ ⟨s1, f2, kn1, nx1, ks1, hs2, 0, h02, hC2, hM2, ⟨_, hU2⟩, hR2, by rw [hf2.1, hf1.1]; omega, by rw [hf2.1, hf1.1]; omega, by rw [hf2.2.1, hf1.2.1]; omega⟩
  ·
    simp only [List.mem_cons, Prod.mk.injEq, List.not_mem_nil, or_false] at hin
    rcases hin with ⟨rfl, rfl⟩
    refine am_Rq.blk (is := [(.aload_n 1, 1), (.aload_n 0, 1), (.iload 4, 2), (.iconst 1, 1), (.iadd, 1)]) (q := (524, [some (.ref 0), some (.ref 2), some (.ref 238), some (.ref 246), some (.int (nI (7 * n))), z5, z6], [.int ((nI (7 * n)) + (nI 1)), .ref 0, .ref 2])) (by decide +kernel) rfl ?_
    dsimp only
    rw [show (nI (7 * n)) + (nI 1) = nI ((7 * n) + 1) from nI_add _ _]
    refine am_Rq.ial (k := (7 * n) + 1) (show decode (am_by 0) 524 = .ok (.iaload, 1) by decide +kernel) h0 (by omega) (by omega) ?_
    refine am_Rq.blk (is := [(.aload_n 3, 1)]) (q := (526, [some (.ref 0), some (.ref 2), some (.ref 238), some (.ref 246), some (.int (nI (7 * n))), z5, z6], [.ref 246, .int (xs ((7 * n) + 1)), .ref 2])) (by decide +kernel) rfl ?_
    dsimp only
    refine am_Rq.callS (show decode (am_by 0) 526 = .ok (.invokestatic 99, 3) by decide +kernel) rfl [.ref 2, .int (xs ((7 * n) + 1)), .ref 246] [] rfl rfl (Nat.le_of_ble_eq_true rfl) rfl rfl (w_pool_no0 hC hU hc) ?_
    rintro hp1 _ ⟨rfl, he1⟩
    have hk : ∀ a, a < 247 → hp1[a]? = hp[a]? := fun a ha => by rw [he1]; exact List.getElem?_append_left (by omega)
    have hl1 : hp1.length = hp.length + 1 := by rw [he1]; exact ap_len rfl
    have ht1 : am_tot hp1 = am_tot hp + 6 := by rw [he1]; exact c_exT _ _
    have h01 := (hk 0 (by omega)).trans h0
    have hU1 := (hk 246 (by omega)).trans hU
    have hM1 := hM.kept (fun a a1 a2 => hk a (by omega))
    have hC1 := hC.kept (fun a a1 a2 => hk a (by omega))
    have hM0 := hM1
    obtain ⟨⟨⟨co1, hO1⟩, -⟩, -⟩ := hM0
    show am_Rq _ 0 529 [some (.ref 0), some (.ref 2), some (.ref 238), some (.ref 246), some (.int (nI (7 * n))), z5, z6] [.int (nI 1)] _ _
    refine am_Rq.blk (is := [(.istore 5, 2), (.aload_n 2, 1), (.aload_n 0, 1), (.iload 4, 2), (.iconst 1, 1), (.iadd, 1)]) (q := (537, [some (.ref 0), some (.ref 2), some (.ref 238), some (.ref 246), some (.int (nI (7 * n))), some (.int (nI 1)), z6], [.int ((nI (7 * n)) + (nI 1)), .ref 0, .ref 238])) (by decide +kernel) rfl ?_
    dsimp only
    rw [show (nI (7 * n)) + (nI 1) = nI ((7 * n) + 1) from nI_add _ _]
    refine am_Rq.ial (k := (7 * n) + 1) (show decode (am_by 0) 537 = .ok (.iaload, 1) by decide +kernel) h01 (by omega) (by omega) ?_
    refine am_Rq.callV (show decode (am_by 0) 538 = .ok (.invokevirtual 102, 3) by decide +kernel) rfl [.int (xs ((7 * n) + 1))] [] rfl rfl (Nat.le_of_ble_eq_true rfl) rfl hO1 rfl (hm hp1 th hM1) ?_
    rintro hp2 _ ⟨rfl, hM2, hf2⟩
    have h02 := (hf2.2.2 0 (fun q => by omega)).trans h01
    have hU2 := (hf2.2.2 246 (fun q => by omega)).trans hU1
    have hC2 := hC1.kept (fun a a1 a2 => hf2.2.2 a (fun q => by omega))
    show am_Rq _ 0 541 [some (.ref 0), some (.ref 2), some (.ref 238), some (.ref 246), some (.int (nI (7 * n))), some (.int (nI 1)), z6] [.int (nI 0)] _ _
    refine am_Rq.blk (is := [(.istore 6, 2), (.aload_n 2, 1)]) (q := (544, [some (.ref 0), some (.ref 2), some (.ref 238), some (.ref 246), some (.int (nI (7 * n))), some (.int (nI 1)), some (.int (nI 0))], [.ref 238])) (by decide +kernel) rfl ?_
    dsimp only
    have hM3 := hM2
    obtain ⟨⟨⟨co2, hO2⟩, hS2, -⟩, -⟩ := hM3
    refine am_Rq.callV (show decode (am_by 0) 544 = .ok (.invokevirtual 85, 3) by decide +kernel) rfl [] [] rfl rfl (Nat.le_of_ble_eq_true rfl) rfl hO2 rfl (m_thrown (d := 8) hO2 hS2) ?_
    rintro hq _ ⟨e1, rfl⟩
    rw [e1]
    clear e1 hq
    show am_Rq _ 0 547 [some (.ref 0), some (.ref 2), some (.ref 238), some (.ref 246), some (.int (nI (7 * n))), some (.int (nI 1)), some (.int (nI 0))] [.int (nI 1)] _ _
    refine am_Rq.blk (is := [(.iload 5, 2)]) (q := (549, [some (.ref 0), some (.ref 2), some (.ref 238), some (.ref 246), some (.int (nI (7 * n))), some (.int (nI 1)), some (.int (nI 0))], [.int (nI 1), .int (nI 1)])) (by decide +kernel) rfl ?_
    dsimp only
    refine am_Rq.if2T (t := 554) (show decode (am_by 0) 549 = .ok (.if_icmp .eq 5, 3) by decide +kernel) (by decide) (rfl) ?_
    refine am_Rq.blk (is := [(.iload 5, 2)]) (q := (556, [some (.ref 0), some (.ref 2), some (.ref 238), some (.ref 246), some (.int (nI (7 * n))), some (.int (nI 1)), some (.int (nI 0))], [.int (nI 1)])) (by decide +kernel) rfl ?_
    dsimp only
    refine am_Rq.if1T (t := 571) (show decode (am_by 0) 556 = .ok (.ifCond .ne 15, 3) by decide +kernel) (by decide) (rfl) ?_
    refine am_Rq.blk (is := [(.goto 853, 3)]) (q := (1424, [some (.ref 0), some (.ref 2), some (.ref 238), some (.ref 246), some (.int (nI (7 * n))), some (.int (nI 1)), some (.int (nI 0))], [])) (by decide +kernel) rfl ?_
    dsimp only
    refine am_Rq.blk (is := [(.iinc 4 7, 3)]) (q := (1427, [some (.ref 0), some (.ref 2), some (.ref 238), some (.ref 246), some (.int ((nI (7 * n)) + (nI 7))), some (.int (nI 1)), some (.int (nI 0))], [])) (by decide +kernel) rfl ?_
    dsimp only
    rw [show (nI (7 * n)) + (nI 7) = nI ((7 * n) + 7) from nI_add _ _]
    refine am_Rq.blk (is := [(.goto (-1404), 3)]) (q := (23, [some (.ref 0), some (.ref 2), some (.ref 238), some (.ref 246), some (.int (nI ((7 * n) + 7))), some (.int (nI 1)), some (.int (nI 0))], [])) (by decide +kernel) rfl ?_
    dsimp only
    rw [show 7 * n + 7 = 7 * (n + 1) by omega]
    exact ih _ _ _ ⟨s, f, kn, nx, ks, hs, 1, h02, hC2, hM2, ⟨_, hU2⟩, hR.more, by rw [hf2.1, hl1]; omega, by rw [hf2.1, hl1]; omega, by rw [hf2.2.1, ht1]; omega⟩
theorem l_grant {L n : Nat} {xs : Nat → Int32} (hL : L ≤ 3584) (hn : 7 * n + 7 ≤ L) {hp : am_H} (h : l_St L xs hp n) {Q : am_H → am_R → Prop} (ih : ∀ hp1 z5 z6, l_St L xs hp1 (n + 1) → am_Rq 9 0 23 [some (.ref 0), some (.ref 2), some (.ref 238), some (.ref 246), some (.int (nI (7 * (n + 1)))), z5, z6] [] hp1 Q) {z5 z6 : Option Value} : am_Rq 9 0 574 [some (.ref 0), some (.ref 2), some (.ref 238), some (.ref 246), some (.int (nI (7 * n))), z5, z6] [] hp Q := by
  obtain ⟨s, f, kn, nx, ks, hs, th, h0, hC, hM, ⟨ou, hU⟩, hR, l1, l2, l3⟩ := h
  have hp9 := p_grant hR (by omega) (xs (7 * n + 1)) (xs (7 * n + 2)) (xs (7 * n + 3)) (xs (7 * n + 4))
  rcases hp9 with ⟨v, s1, kn1, nx1, ks1, hc, hm⟩ | ⟨k, c, hin, hc, hm⟩
  ·
    refine am_Rq.blk (is := [(.aload_n 1, 1), (.aload_n 0, 1), (.iload 4, 2), (.iconst 1, 1), (.iadd, 1)]) (q := (580, [some (.ref 0), some (.ref 2), some (.ref 238), some (.ref 246), some (.int (nI (7 * n))), z5, z6], [.int ((nI (7 * n)) + (nI 1)), .ref 0, .ref 2])) (by decide +kernel) rfl ?_
    dsimp only
    rw [show (nI (7 * n)) + (nI 1) = nI ((7 * n) + 1) from nI_add _ _]
    refine am_Rq.ial (k := (7 * n) + 1) (show decode (am_by 0) 580 = .ok (.iaload, 1) by decide +kernel) h0 (by omega) (by omega) ?_
    refine am_Rq.blk (is := [(.aload_n 0, 1), (.iload 4, 2), (.iconst 2, 1), (.iadd, 1)]) (q := (586, [some (.ref 0), some (.ref 2), some (.ref 238), some (.ref 246), some (.int (nI (7 * n))), z5, z6], [.int ((nI (7 * n)) + (nI 2)), .ref 0, .int (xs ((7 * n) + 1)), .ref 2])) (by decide +kernel) rfl ?_
    dsimp only
    rw [show (nI (7 * n)) + (nI 2) = nI ((7 * n) + 2) from nI_add _ _]
    refine am_Rq.ial (k := (7 * n) + 2) (show decode (am_by 0) 586 = .ok (.iaload, 1) by decide +kernel) h0 (by omega) (by omega) ?_
    refine am_Rq.blk (is := [(.aload_n 0, 1), (.iload 4, 2), (.iconst 3, 1), (.iadd, 1)]) (q := (592, [some (.ref 0), some (.ref 2), some (.ref 238), some (.ref 246), some (.int (nI (7 * n))), z5, z6], [.int ((nI (7 * n)) + (nI 3)), .ref 0, .int (xs ((7 * n) + 2)), .int (xs ((7 * n) + 1)), .ref 2])) (by decide +kernel) rfl ?_
    dsimp only
    rw [show (nI (7 * n)) + (nI 3) = nI ((7 * n) + 3) from nI_add _ _]
    refine am_Rq.ial (k := (7 * n) + 3) (show decode (am_by 0) 592 = .ok (.iaload, 1) by decide +kernel) h0 (by omega) (by omega) ?_
    refine am_Rq.blk (is := [(.aload_n 0, 1), (.iload 4, 2), (.iconst 4, 1), (.iadd, 1)]) (q := (598, [some (.ref 0), some (.ref 2), some (.ref 238), some (.ref 246), some (.int (nI (7 * n))), z5, z6], [.int ((nI (7 * n)) + (nI 4)), .ref 0, .int (xs ((7 * n) + 3)), .int (xs ((7 * n) + 2)), .int (xs ((7 * n) + 1)), .ref 2])) (by decide +kernel) rfl ?_
    dsimp only
    rw [show (nI (7 * n)) + (nI 4) = nI ((7 * n) + 4) from nI_add _ _]
    refine am_Rq.ial (k := (7 * n) + 4) (show decode (am_by 0) 598 = .ok (.iaload, 1) by decide +kernel) h0 (by omega) (by omega) ?_
    refine am_Rq.blk (is := [(.aload_n 3, 1)]) (q := (600, [some (.ref 0), some (.ref 2), some (.ref 238), some (.ref 246), some (.int (nI (7 * n))), z5, z6], [.ref 246, .int (xs ((7 * n) + 4)), .int (xs ((7 * n) + 3)), .int (xs ((7 * n) + 2)), .int (xs ((7 * n) + 1)), .ref 2])) (by decide +kernel) rfl ?_
    dsimp only
    refine am_Rq.callS (show decode (am_by 0) 600 = .ok (.invokestatic 103, 3) by decide +kernel) rfl [.ref 2, .int (xs ((7 * n) + 1)), .int (xs ((7 * n) + 2)), .int (xs ((7 * n) + 3)), .int (xs ((7 * n) + 4)), .ref 246] [] rfl rfl (Nat.le_of_ble_eq_true rfl) rfl rfl (w_grant hC hU hc) ?_
    rintro hp1 _ ⟨rfl, hC1, hU1, hf1⟩
    have h01 := (hf1.2.2 0 (fun q => by omega)).trans h0
    have hM1 := hM.kept (fun a a1 a2 => hf1.2.2 a (fun q => by omega))
    have hM0 := hM1
    obtain ⟨⟨⟨co1, hO1⟩, -⟩, -⟩ := hM0
    show am_Rq _ 0 603 [some (.ref 0), some (.ref 2), some (.ref 238), some (.ref 246), some (.int (nI (7 * n))), z5, z6] [.int (nI 0)] _ _
    refine am_Rq.blk (is := [(.istore 5, 2), (.aload_n 2, 1), (.aload_n 0, 1), (.iload 4, 2), (.iconst 1, 1), (.iadd, 1)]) (q := (611, [some (.ref 0), some (.ref 2), some (.ref 238), some (.ref 246), some (.int (nI (7 * n))), some (.int (nI 0)), z6], [.int ((nI (7 * n)) + (nI 1)), .ref 0, .ref 238])) (by decide +kernel) rfl ?_
    dsimp only
    rw [show (nI (7 * n)) + (nI 1) = nI ((7 * n) + 1) from nI_add _ _]
    refine am_Rq.ial (k := (7 * n) + 1) (show decode (am_by 0) 611 = .ok (.iaload, 1) by decide +kernel) h01 (by omega) (by omega) ?_
    refine am_Rq.blk (is := [(.aload_n 0, 1), (.iload 4, 2), (.iconst 2, 1), (.iadd, 1)]) (q := (617, [some (.ref 0), some (.ref 2), some (.ref 238), some (.ref 246), some (.int (nI (7 * n))), some (.int (nI 0)), z6], [.int ((nI (7 * n)) + (nI 2)), .ref 0, .int (xs ((7 * n) + 1)), .ref 238])) (by decide +kernel) rfl ?_
    dsimp only
    rw [show (nI (7 * n)) + (nI 2) = nI ((7 * n) + 2) from nI_add _ _]
    refine am_Rq.ial (k := (7 * n) + 2) (show decode (am_by 0) 617 = .ok (.iaload, 1) by decide +kernel) h01 (by omega) (by omega) ?_
    refine am_Rq.blk (is := [(.aload_n 0, 1), (.iload 4, 2), (.iconst 3, 1), (.iadd, 1)]) (q := (623, [some (.ref 0), some (.ref 2), some (.ref 238), some (.ref 246), some (.int (nI (7 * n))), some (.int (nI 0)), z6], [.int ((nI (7 * n)) + (nI 3)), .ref 0, .int (xs ((7 * n) + 2)), .int (xs ((7 * n) + 1)), .ref 238])) (by decide +kernel) rfl ?_
    dsimp only
    rw [show (nI (7 * n)) + (nI 3) = nI ((7 * n) + 3) from nI_add _ _]
    refine am_Rq.ial (k := (7 * n) + 3) (show decode (am_by 0) 623 = .ok (.iaload, 1) by decide +kernel) h01 (by omega) (by omega) ?_
    refine am_Rq.blk (is := [(.aload_n 0, 1), (.iload 4, 2), (.iconst 4, 1), (.iadd, 1)]) (q := (629, [some (.ref 0), some (.ref 2), some (.ref 238), some (.ref 246), some (.int (nI (7 * n))), some (.int (nI 0)), z6], [.int ((nI (7 * n)) + (nI 4)), .ref 0, .int (xs ((7 * n) + 3)), .int (xs ((7 * n) + 2)), .int (xs ((7 * n) + 1)), .ref 238])) (by decide +kernel) rfl ?_
    dsimp only
    rw [show (nI (7 * n)) + (nI 4) = nI ((7 * n) + 4) from nI_add _ _]
    refine am_Rq.ial (k := (7 * n) + 4) (show decode (am_by 0) 629 = .ok (.iaload, 1) by decide +kernel) h01 (by omega) (by omega) ?_
    refine am_Rq.callV (show decode (am_by 0) 630 = .ok (.invokevirtual 105, 3) by decide +kernel) rfl [.int (xs ((7 * n) + 1)), .int (xs ((7 * n) + 2)), .int (xs ((7 * n) + 3)), .int (xs ((7 * n) + 4))] [] rfl rfl (Nat.le_of_ble_eq_true rfl) rfl hO1 rfl (hm hp1 th hM1) ?_
    rintro hp2 _ ⟨rfl, ⟨f2, hM2, hs2, hR2⟩, hf2⟩
    have h02 := (hf2.2.2 0 (fun q => by omega)).trans h01
    have hU2 := (hf2.2.2 246 (fun q => by omega)).trans hU1
    have hC2 := hC1.kept (fun a a1 a2 => hf2.2.2 a (fun q => by omega))
    show am_Rq _ 0 633 [some (.ref 0), some (.ref 2), some (.ref 238), some (.ref 246), some (.int (nI (7 * n))), some (.int (nI 0)), z6] [.int v] _ _
    refine am_Rq.blk (is := [(.istore 6, 2), (.aload_n 2, 1)]) (q := (636, [some (.ref 0), some (.ref 2), some (.ref 238), some (.ref 246), some (.int (nI (7 * n))), some (.int (nI 0)), some (.int v)], [.ref 238])) (by decide +kernel) rfl ?_
    dsimp only
    have hM3 := hM2
    obtain ⟨⟨⟨co2, hO2⟩, hS2, -⟩, -⟩ := hM3
    refine am_Rq.callV (show decode (am_by 0) 636 = .ok (.invokevirtual 85, 3) by decide +kernel) rfl [] [] rfl rfl (Nat.le_of_ble_eq_true rfl) rfl hO2 rfl (m_thrown (d := 8) hO2 hS2) ?_
    rintro hq _ ⟨e1, rfl⟩
    rw [e1]
    clear e1 hq
    show am_Rq _ 0 639 [some (.ref 0), some (.ref 2), some (.ref 238), some (.ref 246), some (.int (nI (7 * n))), some (.int (nI 0)), some (.int v)] [.int (nI 0)] _ _
    refine am_Rq.blk (is := [(.iload 5, 2)]) (q := (641, [some (.ref 0), some (.ref 2), some (.ref 238), some (.ref 246), some (.int (nI (7 * n))), some (.int (nI 0)), some (.int v)], [.int (nI 0), .int (nI 0)])) (by decide +kernel) rfl ?_
    dsimp only
    refine am_Rq.if2T (t := 646) (show decode (am_by 0) 641 = .ok (.if_icmp .eq 5, 3) by decide +kernel) (by decide) (rfl) ?_
    refine am_Rq.blk (is := [(.iload 5, 2)]) (q := (648, [some (.ref 0), some (.ref 2), some (.ref 238), some (.ref 246), some (.int (nI (7 * n))), some (.int (nI 0)), some (.int v)], [.int (nI 0)])) (by decide +kernel) rfl ?_
    dsimp only
    refine am_Rq.if1F (show decode (am_by 0) 648 = .ok (.ifCond .ne 15, 3) by decide +kernel) (by decide) (rfl) ?_
    refine am_Rq.blk (is := [(.aload_n 3, 1), (.iconst 0, 1)]) (q := (653, [some (.ref 0), some (.ref 2), some (.ref 238), some (.ref 246), some (.int (nI (7 * n))), some (.int (nI 0)), some (.int v)], [.int (nI 0), .ref 246])) (by decide +kernel) rfl ?_
    dsimp only
    refine am_Rq.lal (k := 0) (show decode (am_by 0) 653 = .ok (.laload, 1) by decide +kernel) hU2 (by omega) (by omega) ?_
    refine am_Rq.blk (is := [(.iload 6, 2)]) (q := (656, [some (.ref 0), some (.ref 2), some (.ref 238), some (.ref 246), some (.int (nI (7 * n))), some (.int (nI 0)), some (.int v)], [.int v, .long ((va_up ou 0 v.toInt64) 0)])) (by decide +kernel) rfl ?_
    dsimp only
    rw [va_up_self]
    refine am_Rq.blk (is := [(.i2l, 1), (.lcmp, 1)]) (q := (658, [some (.ref 0), some (.ref 2), some (.ref 238), some (.ref 246), some (.int (nI (7 * n))), some (.int (nI 0)), some (.int v)], [.int (lg_cmp v.toInt64 v.toInt64)])) (by decide +kernel) rfl ?_
    dsimp only
    refine am_Rq.if1T (t := 663) (show decode (am_by 0) 658 = .ok (.ifCond .eq 5, 3) by decide +kernel) (by decide) (by rw [nm_ceq]; exact decide_eq_true rfl) ?_
    refine am_Rq.blk (is := [(.goto 761, 3)]) (q := (1424, [some (.ref 0), some (.ref 2), some (.ref 238), some (.ref 246), some (.int (nI (7 * n))), some (.int (nI 0)), some (.int v)], [])) (by decide +kernel) rfl ?_
    dsimp only
    refine am_Rq.blk (is := [(.iinc 4 7, 3)]) (q := (1427, [some (.ref 0), some (.ref 2), some (.ref 238), some (.ref 246), some (.int ((nI (7 * n)) + (nI 7))), some (.int (nI 0)), some (.int v)], [])) (by decide +kernel) rfl ?_
    dsimp only
    rw [show (nI (7 * n)) + (nI 7) = nI ((7 * n) + 7) from nI_add _ _]
    refine am_Rq.blk (is := [(.goto (-1404), 3)]) (q := (23, [some (.ref 0), some (.ref 2), some (.ref 238), some (.ref 246), some (.int (nI ((7 * n) + 7))), some (.int (nI 0)), some (.int v)], [])) (by decide +kernel) rfl ?_
    dsimp only
    rw [show 7 * n + 7 = 7 * (n + 1) by omega]
    exact ih _ _ _ ⟨s1, f2, kn1, nx1, ks1, hs2, 0, h02, hC2, hM2, ⟨_, hU2⟩, hR2, by rw [hf2.1, hf1.1]; omega, by rw [hf2.1, hf1.1]; omega, by rw [hf2.2.1, hf1.2.1]; omega⟩
  ·
    simp only [List.mem_cons, Prod.mk.injEq, List.not_mem_nil, or_false] at hin
    rcases hin with ⟨rfl, rfl⟩ | ⟨rfl, rfl⟩ | ⟨rfl, rfl⟩
    ·
      refine am_Rq.blk (is := [(.aload_n 1, 1), (.aload_n 0, 1), (.iload 4, 2), (.iconst 1, 1), (.iadd, 1)]) (q := (580, [some (.ref 0), some (.ref 2), some (.ref 238), some (.ref 246), some (.int (nI (7 * n))), z5, z6], [.int ((nI (7 * n)) + (nI 1)), .ref 0, .ref 2])) (by decide +kernel) rfl ?_
      dsimp only
      rw [show (nI (7 * n)) + (nI 1) = nI ((7 * n) + 1) from nI_add _ _]
      refine am_Rq.ial (k := (7 * n) + 1) (show decode (am_by 0) 580 = .ok (.iaload, 1) by decide +kernel) h0 (by omega) (by omega) ?_
      refine am_Rq.blk (is := [(.aload_n 0, 1), (.iload 4, 2), (.iconst 2, 1), (.iadd, 1)]) (q := (586, [some (.ref 0), some (.ref 2), some (.ref 238), some (.ref 246), some (.int (nI (7 * n))), z5, z6], [.int ((nI (7 * n)) + (nI 2)), .ref 0, .int (xs ((7 * n) + 1)), .ref 2])) (by decide +kernel) rfl ?_
      dsimp only
      rw [show (nI (7 * n)) + (nI 2) = nI ((7 * n) + 2) from nI_add _ _]
      refine am_Rq.ial (k := (7 * n) + 2) (show decode (am_by 0) 586 = .ok (.iaload, 1) by decide +kernel) h0 (by omega) (by omega) ?_
      refine am_Rq.blk (is := [(.aload_n 0, 1), (.iload 4, 2), (.iconst 3, 1), (.iadd, 1)]) (q := (592, [some (.ref 0), some (.ref 2), some (.ref 238), some (.ref 246), some (.int (nI (7 * n))), z5, z6], [.int ((nI (7 * n)) + (nI 3)), .ref 0, .int (xs ((7 * n) + 2)), .int (xs ((7 * n) + 1)), .ref 2])) (by decide +kernel) rfl ?_
      dsimp only
      rw [show (nI (7 * n)) + (nI 3) = nI ((7 * n) + 3) from nI_add _ _]
      refine am_Rq.ial (k := (7 * n) + 3) (show decode (am_by 0) 592 = .ok (.iaload, 1) by decide +kernel) h0 (by omega) (by omega) ?_
      refine am_Rq.blk (is := [(.aload_n 0, 1), (.iload 4, 2), (.iconst 4, 1), (.iadd, 1)]) (q := (598, [some (.ref 0), some (.ref 2), some (.ref 238), some (.ref 246), some (.int (nI (7 * n))), z5, z6], [.int ((nI (7 * n)) + (nI 4)), .ref 0, .int (xs ((7 * n) + 3)), .int (xs ((7 * n) + 2)), .int (xs ((7 * n) + 1)), .ref 2])) (by decide +kernel) rfl ?_
      dsimp only
      rw [show (nI (7 * n)) + (nI 4) = nI ((7 * n) + 4) from nI_add _ _]
      refine am_Rq.ial (k := (7 * n) + 4) (show decode (am_by 0) 598 = .ok (.iaload, 1) by decide +kernel) h0 (by omega) (by omega) ?_
      refine am_Rq.blk (is := [(.aload_n 3, 1)]) (q := (600, [some (.ref 0), some (.ref 2), some (.ref 238), some (.ref 246), some (.int (nI (7 * n))), z5, z6], [.ref 246, .int (xs ((7 * n) + 4)), .int (xs ((7 * n) + 3)), .int (xs ((7 * n) + 2)), .int (xs ((7 * n) + 1)), .ref 2])) (by decide +kernel) rfl ?_
      dsimp only
      refine am_Rq.callS (show decode (am_by 0) 600 = .ok (.invokestatic 103, 3) by decide +kernel) rfl [.ref 2, .int (xs ((7 * n) + 1)), .int (xs ((7 * n) + 2)), .int (xs ((7 * n) + 3)), .int (xs ((7 * n) + 4)), .ref 246] [] rfl rfl (Nat.le_of_ble_eq_true rfl) rfl rfl (w_grant_no2 hC hU hc) ?_
      rintro hp1 _ ⟨rfl, he1⟩
      have hk : ∀ a, a < 247 → hp1[a]? = hp[a]? := fun a ha => by rw [he1]; exact List.getElem?_append_left (by omega)
      have hl1 : hp1.length = hp.length + 1 := by rw [he1]; exact ap_len rfl
      have ht1 : am_tot hp1 = am_tot hp + 6 := by rw [he1]; exact c_exT _ _
      have h01 := (hk 0 (by omega)).trans h0
      have hU1 := (hk 246 (by omega)).trans hU
      have hM1 := hM.kept (fun a a1 a2 => hk a (by omega))
      have hC1 := hC.kept (fun a a1 a2 => hk a (by omega))
      have hM0 := hM1
      obtain ⟨⟨⟨co1, hO1⟩, -⟩, -⟩ := hM0
      show am_Rq _ 0 603 [some (.ref 0), some (.ref 2), some (.ref 238), some (.ref 246), some (.int (nI (7 * n))), z5, z6] [.int (nI 1)] _ _
      refine am_Rq.blk (is := [(.istore 5, 2), (.aload_n 2, 1), (.aload_n 0, 1), (.iload 4, 2), (.iconst 1, 1), (.iadd, 1)]) (q := (611, [some (.ref 0), some (.ref 2), some (.ref 238), some (.ref 246), some (.int (nI (7 * n))), some (.int (nI 1)), z6], [.int ((nI (7 * n)) + (nI 1)), .ref 0, .ref 238])) (by decide +kernel) rfl ?_
      dsimp only
      rw [show (nI (7 * n)) + (nI 1) = nI ((7 * n) + 1) from nI_add _ _]
      refine am_Rq.ial (k := (7 * n) + 1) (show decode (am_by 0) 611 = .ok (.iaload, 1) by decide +kernel) h01 (by omega) (by omega) ?_
      refine am_Rq.blk (is := [(.aload_n 0, 1), (.iload 4, 2), (.iconst 2, 1), (.iadd, 1)]) (q := (617, [some (.ref 0), some (.ref 2), some (.ref 238), some (.ref 246), some (.int (nI (7 * n))), some (.int (nI 1)), z6], [.int ((nI (7 * n)) + (nI 2)), .ref 0, .int (xs ((7 * n) + 1)), .ref 238])) (by decide +kernel) rfl ?_
      dsimp only
      rw [show (nI (7 * n)) + (nI 2) = nI ((7 * n) + 2) from nI_add _ _]
      refine am_Rq.ial (k := (7 * n) + 2) (show decode (am_by 0) 617 = .ok (.iaload, 1) by decide +kernel) h01 (by omega) (by omega) ?_
      refine am_Rq.blk (is := [(.aload_n 0, 1), (.iload 4, 2), (.iconst 3, 1), (.iadd, 1)]) (q := (623, [some (.ref 0), some (.ref 2), some (.ref 238), some (.ref 246), some (.int (nI (7 * n))), some (.int (nI 1)), z6], [.int ((nI (7 * n)) + (nI 3)), .ref 0, .int (xs ((7 * n) + 2)), .int (xs ((7 * n) + 1)), .ref 238])) (by decide +kernel) rfl ?_
      dsimp only
      rw [show (nI (7 * n)) + (nI 3) = nI ((7 * n) + 3) from nI_add _ _]
      refine am_Rq.ial (k := (7 * n) + 3) (show decode (am_by 0) 623 = .ok (.iaload, 1) by decide +kernel) h01 (by omega) (by omega) ?_
      refine am_Rq.blk (is := [(.aload_n 0, 1), (.iload 4, 2), (.iconst 4, 1), (.iadd, 1)]) (q := (629, [some (.ref 0), some (.ref 2), some (.ref 238), some (.ref 246), some (.int (nI (7 * n))), some (.int (nI 1)), z6], [.int ((nI (7 * n)) + (nI 4)), .ref 0, .int (xs ((7 * n) + 3)), .int (xs ((7 * n) + 2)), .int (xs ((7 * n) + 1)), .ref 238])) (by decide +kernel) rfl ?_
      dsimp only
      rw [show (nI (7 * n)) + (nI 4) = nI ((7 * n) + 4) from nI_add _ _]
      refine am_Rq.ial (k := (7 * n) + 4) (show decode (am_by 0) 629 = .ok (.iaload, 1) by decide +kernel) h01 (by omega) (by omega) ?_
      refine am_Rq.callV (show decode (am_by 0) 630 = .ok (.invokevirtual 105, 3) by decide +kernel) rfl [.int (xs ((7 * n) + 1)), .int (xs ((7 * n) + 2)), .int (xs ((7 * n) + 3)), .int (xs ((7 * n) + 4))] [] rfl rfl (Nat.le_of_ble_eq_true rfl) rfl hO1 rfl (hm hp1 th hM1) ?_
      rintro hp2 _ ⟨rfl, hM2, hf2⟩
      have h02 := (hf2.2.2 0 (fun q => by omega)).trans h01
      have hU2 := (hf2.2.2 246 (fun q => by omega)).trans hU1
      have hC2 := hC1.kept (fun a a1 a2 => hf2.2.2 a (fun q => by omega))
      show am_Rq _ 0 633 [some (.ref 0), some (.ref 2), some (.ref 238), some (.ref 246), some (.int (nI (7 * n))), some (.int (nI 1)), z6] [.int (nI 0)] _ _
      refine am_Rq.blk (is := [(.istore 6, 2), (.aload_n 2, 1)]) (q := (636, [some (.ref 0), some (.ref 2), some (.ref 238), some (.ref 246), some (.int (nI (7 * n))), some (.int (nI 1)), some (.int (nI 0))], [.ref 238])) (by decide +kernel) rfl ?_
      dsimp only
      have hM3 := hM2
      obtain ⟨⟨⟨co2, hO2⟩, hS2, -⟩, -⟩ := hM3
      refine am_Rq.callV (show decode (am_by 0) 636 = .ok (.invokevirtual 85, 3) by decide +kernel) rfl [] [] rfl rfl (Nat.le_of_ble_eq_true rfl) rfl hO2 rfl (m_thrown (d := 8) hO2 hS2) ?_
      rintro hq _ ⟨e1, rfl⟩
      rw [e1]
      clear e1 hq
      show am_Rq _ 0 639 [some (.ref 0), some (.ref 2), some (.ref 238), some (.ref 246), some (.int (nI (7 * n))), some (.int (nI 1)), some (.int (nI 0))] [.int (nI 1)] _ _
      refine am_Rq.blk (is := [(.iload 5, 2)]) (q := (641, [some (.ref 0), some (.ref 2), some (.ref 238), some (.ref 246), some (.int (nI (7 * n))), some (.int (nI 1)), some (.int (nI 0))], [.int (nI 1), .int (nI 1)])) (by decide +kernel) rfl ?_
      dsimp only
      refine am_Rq.if2T (t := 646) (show decode (am_by 0) 641 = .ok (.if_icmp .eq 5, 3) by decide +kernel) (by decide) (rfl) ?_
      refine am_Rq.blk (is := [(.iload 5, 2)]) (q := (648, [some (.ref 0), some (.ref 2), some (.ref 238), some (.ref 246), some (.int (nI (7 * n))), some (.int (nI 1)), some (.int (nI 0))], [.int (nI 1)])) (by decide +kernel) rfl ?_
      dsimp only
      refine am_Rq.if1T (t := 663) (show decode (am_by 0) 648 = .ok (.ifCond .ne 15, 3) by decide +kernel) (by decide) (rfl) ?_
      refine am_Rq.blk (is := [(.goto 761, 3)]) (q := (1424, [some (.ref 0), some (.ref 2), some (.ref 238), some (.ref 246), some (.int (nI (7 * n))), some (.int (nI 1)), some (.int (nI 0))], [])) (by decide +kernel) rfl ?_
      dsimp only
      refine am_Rq.blk (is := [(.iinc 4 7, 3)]) (q := (1427, [some (.ref 0), some (.ref 2), some (.ref 238), some (.ref 246), some (.int ((nI (7 * n)) + (nI 7))), some (.int (nI 1)), some (.int (nI 0))], [])) (by decide +kernel) rfl ?_
      dsimp only
      rw [show (nI (7 * n)) + (nI 7) = nI ((7 * n) + 7) from nI_add _ _]
      refine am_Rq.blk (is := [(.goto (-1404), 3)]) (q := (23, [some (.ref 0), some (.ref 2), some (.ref 238), some (.ref 246), some (.int (nI ((7 * n) + 7))), some (.int (nI 1)), some (.int (nI 0))], [])) (by decide +kernel) rfl ?_
      dsimp only
      rw [show 7 * n + 7 = 7 * (n + 1) by omega]
      exact ih _ _ _ ⟨s, f, kn, nx, ks, hs, 1, h02, hC2, hM2, ⟨_, hU2⟩, hR.more, by rw [hf2.1, hl1]; omega, by rw [hf2.1, hl1]; omega, by rw [hf2.2.1, ht1]; omega⟩
    ·
      refine am_Rq.blk (is := [(.aload_n 1, 1), (.aload_n 0, 1), (.iload 4, 2), (.iconst 1, 1), (.iadd, 1)]) (q := (580, [some (.ref 0), some (.ref 2), some (.ref 238), some (.ref 246), some (.int (nI (7 * n))), z5, z6], [.int ((nI (7 * n)) + (nI 1)), .ref 0, .ref 2])) (by decide +kernel) rfl ?_
      dsimp only
      rw [show (nI (7 * n)) + (nI 1) = nI ((7 * n) + 1) from nI_add _ _]
      refine am_Rq.ial (k := (7 * n) + 1) (show decode (am_by 0) 580 = .ok (.iaload, 1) by decide +kernel) h0 (by omega) (by omega) ?_
      refine am_Rq.blk (is := [(.aload_n 0, 1), (.iload 4, 2), (.iconst 2, 1), (.iadd, 1)]) (q := (586, [some (.ref 0), some (.ref 2), some (.ref 238), some (.ref 246), some (.int (nI (7 * n))), z5, z6], [.int ((nI (7 * n)) + (nI 2)), .ref 0, .int (xs ((7 * n) + 1)), .ref 2])) (by decide +kernel) rfl ?_
      dsimp only
      rw [show (nI (7 * n)) + (nI 2) = nI ((7 * n) + 2) from nI_add _ _]
      refine am_Rq.ial (k := (7 * n) + 2) (show decode (am_by 0) 586 = .ok (.iaload, 1) by decide +kernel) h0 (by omega) (by omega) ?_
      refine am_Rq.blk (is := [(.aload_n 0, 1), (.iload 4, 2), (.iconst 3, 1), (.iadd, 1)]) (q := (592, [some (.ref 0), some (.ref 2), some (.ref 238), some (.ref 246), some (.int (nI (7 * n))), z5, z6], [.int ((nI (7 * n)) + (nI 3)), .ref 0, .int (xs ((7 * n) + 2)), .int (xs ((7 * n) + 1)), .ref 2])) (by decide +kernel) rfl ?_
      dsimp only
      rw [show (nI (7 * n)) + (nI 3) = nI ((7 * n) + 3) from nI_add _ _]
      refine am_Rq.ial (k := (7 * n) + 3) (show decode (am_by 0) 592 = .ok (.iaload, 1) by decide +kernel) h0 (by omega) (by omega) ?_
      refine am_Rq.blk (is := [(.aload_n 0, 1), (.iload 4, 2), (.iconst 4, 1), (.iadd, 1)]) (q := (598, [some (.ref 0), some (.ref 2), some (.ref 238), some (.ref 246), some (.int (nI (7 * n))), z5, z6], [.int ((nI (7 * n)) + (nI 4)), .ref 0, .int (xs ((7 * n) + 3)), .int (xs ((7 * n) + 2)), .int (xs ((7 * n) + 1)), .ref 2])) (by decide +kernel) rfl ?_
      dsimp only
      rw [show (nI (7 * n)) + (nI 4) = nI ((7 * n) + 4) from nI_add _ _]
      refine am_Rq.ial (k := (7 * n) + 4) (show decode (am_by 0) 598 = .ok (.iaload, 1) by decide +kernel) h0 (by omega) (by omega) ?_
      refine am_Rq.blk (is := [(.aload_n 3, 1)]) (q := (600, [some (.ref 0), some (.ref 2), some (.ref 238), some (.ref 246), some (.int (nI (7 * n))), z5, z6], [.ref 246, .int (xs ((7 * n) + 4)), .int (xs ((7 * n) + 3)), .int (xs ((7 * n) + 2)), .int (xs ((7 * n) + 1)), .ref 2])) (by decide +kernel) rfl ?_
      dsimp only
      refine am_Rq.callS (show decode (am_by 0) 600 = .ok (.invokestatic 103, 3) by decide +kernel) rfl [.ref 2, .int (xs ((7 * n) + 1)), .int (xs ((7 * n) + 2)), .int (xs ((7 * n) + 3)), .int (xs ((7 * n) + 4)), .ref 246] [] rfl rfl (Nat.le_of_ble_eq_true rfl) rfl rfl (w_grant_no0 hC hU hc) ?_
      rintro hp1 _ ⟨rfl, he1⟩
      have hk : ∀ a, a < 247 → hp1[a]? = hp[a]? := fun a ha => by rw [he1]; exact List.getElem?_append_left (by omega)
      have hl1 : hp1.length = hp.length + 1 := by rw [he1]; exact ap_len rfl
      have ht1 : am_tot hp1 = am_tot hp + 6 := by rw [he1]; exact c_exT _ _
      have h01 := (hk 0 (by omega)).trans h0
      have hU1 := (hk 246 (by omega)).trans hU
      have hM1 := hM.kept (fun a a1 a2 => hk a (by omega))
      have hC1 := hC.kept (fun a a1 a2 => hk a (by omega))
      have hM0 := hM1
      obtain ⟨⟨⟨co1, hO1⟩, -⟩, -⟩ := hM0
      show am_Rq _ 0 603 [some (.ref 0), some (.ref 2), some (.ref 238), some (.ref 246), some (.int (nI (7 * n))), z5, z6] [.int (nI 2)] _ _
      refine am_Rq.blk (is := [(.istore 5, 2), (.aload_n 2, 1), (.aload_n 0, 1), (.iload 4, 2), (.iconst 1, 1), (.iadd, 1)]) (q := (611, [some (.ref 0), some (.ref 2), some (.ref 238), some (.ref 246), some (.int (nI (7 * n))), some (.int (nI 2)), z6], [.int ((nI (7 * n)) + (nI 1)), .ref 0, .ref 238])) (by decide +kernel) rfl ?_
      dsimp only
      rw [show (nI (7 * n)) + (nI 1) = nI ((7 * n) + 1) from nI_add _ _]
      refine am_Rq.ial (k := (7 * n) + 1) (show decode (am_by 0) 611 = .ok (.iaload, 1) by decide +kernel) h01 (by omega) (by omega) ?_
      refine am_Rq.blk (is := [(.aload_n 0, 1), (.iload 4, 2), (.iconst 2, 1), (.iadd, 1)]) (q := (617, [some (.ref 0), some (.ref 2), some (.ref 238), some (.ref 246), some (.int (nI (7 * n))), some (.int (nI 2)), z6], [.int ((nI (7 * n)) + (nI 2)), .ref 0, .int (xs ((7 * n) + 1)), .ref 238])) (by decide +kernel) rfl ?_
      dsimp only
      rw [show (nI (7 * n)) + (nI 2) = nI ((7 * n) + 2) from nI_add _ _]
      refine am_Rq.ial (k := (7 * n) + 2) (show decode (am_by 0) 617 = .ok (.iaload, 1) by decide +kernel) h01 (by omega) (by omega) ?_
      refine am_Rq.blk (is := [(.aload_n 0, 1), (.iload 4, 2), (.iconst 3, 1), (.iadd, 1)]) (q := (623, [some (.ref 0), some (.ref 2), some (.ref 238), some (.ref 246), some (.int (nI (7 * n))), some (.int (nI 2)), z6], [.int ((nI (7 * n)) + (nI 3)), .ref 0, .int (xs ((7 * n) + 2)), .int (xs ((7 * n) + 1)), .ref 238])) (by decide +kernel) rfl ?_
      dsimp only
      rw [show (nI (7 * n)) + (nI 3) = nI ((7 * n) + 3) from nI_add _ _]
      refine am_Rq.ial (k := (7 * n) + 3) (show decode (am_by 0) 623 = .ok (.iaload, 1) by decide +kernel) h01 (by omega) (by omega) ?_
      refine am_Rq.blk (is := [(.aload_n 0, 1), (.iload 4, 2), (.iconst 4, 1), (.iadd, 1)]) (q := (629, [some (.ref 0), some (.ref 2), some (.ref 238), some (.ref 246), some (.int (nI (7 * n))), some (.int (nI 2)), z6], [.int ((nI (7 * n)) + (nI 4)), .ref 0, .int (xs ((7 * n) + 3)), .int (xs ((7 * n) + 2)), .int (xs ((7 * n) + 1)), .ref 238])) (by decide +kernel) rfl ?_
      dsimp only
      rw [show (nI (7 * n)) + (nI 4) = nI ((7 * n) + 4) from nI_add _ _]
      refine am_Rq.ial (k := (7 * n) + 4) (show decode (am_by 0) 629 = .ok (.iaload, 1) by decide +kernel) h01 (by omega) (by omega) ?_
      refine am_Rq.callV (show decode (am_by 0) 630 = .ok (.invokevirtual 105, 3) by decide +kernel) rfl [.int (xs ((7 * n) + 1)), .int (xs ((7 * n) + 2)), .int (xs ((7 * n) + 3)), .int (xs ((7 * n) + 4))] [] rfl rfl (Nat.le_of_ble_eq_true rfl) rfl hO1 rfl (hm hp1 th hM1) ?_
      rintro hp2 _ ⟨rfl, hM2, hf2⟩
      have h02 := (hf2.2.2 0 (fun q => by omega)).trans h01
      have hU2 := (hf2.2.2 246 (fun q => by omega)).trans hU1
      have hC2 := hC1.kept (fun a a1 a2 => hf2.2.2 a (fun q => by omega))
      show am_Rq _ 0 633 [some (.ref 0), some (.ref 2), some (.ref 238), some (.ref 246), some (.int (nI (7 * n))), some (.int (nI 2)), z6] [.int (nI 0)] _ _
      refine am_Rq.blk (is := [(.istore 6, 2), (.aload_n 2, 1)]) (q := (636, [some (.ref 0), some (.ref 2), some (.ref 238), some (.ref 246), some (.int (nI (7 * n))), some (.int (nI 2)), some (.int (nI 0))], [.ref 238])) (by decide +kernel) rfl ?_
      dsimp only
      have hM3 := hM2
      obtain ⟨⟨⟨co2, hO2⟩, hS2, -⟩, -⟩ := hM3
      refine am_Rq.callV (show decode (am_by 0) 636 = .ok (.invokevirtual 85, 3) by decide +kernel) rfl [] [] rfl rfl (Nat.le_of_ble_eq_true rfl) rfl hO2 rfl (m_thrown (d := 8) hO2 hS2) ?_
      rintro hq _ ⟨e1, rfl⟩
      rw [e1]
      clear e1 hq
      show am_Rq _ 0 639 [some (.ref 0), some (.ref 2), some (.ref 238), some (.ref 246), some (.int (nI (7 * n))), some (.int (nI 2)), some (.int (nI 0))] [.int (nI 2)] _ _
      refine am_Rq.blk (is := [(.iload 5, 2)]) (q := (641, [some (.ref 0), some (.ref 2), some (.ref 238), some (.ref 246), some (.int (nI (7 * n))), some (.int (nI 2)), some (.int (nI 0))], [.int (nI 2), .int (nI 2)])) (by decide +kernel) rfl ?_
      dsimp only
      refine am_Rq.if2T (t := 646) (show decode (am_by 0) 641 = .ok (.if_icmp .eq 5, 3) by decide +kernel) (by decide) (rfl) ?_
      refine am_Rq.blk (is := [(.iload 5, 2)]) (q := (648, [some (.ref 0), some (.ref 2), some (.ref 238), some (.ref 246), some (.int (nI (7 * n))), some (.int (nI 2)), some (.int (nI 0))], [.int (nI 2)])) (by decide +kernel) rfl ?_
      dsimp only
      refine am_Rq.if1T (t := 663) (show decode (am_by 0) 648 = .ok (.ifCond .ne 15, 3) by decide +kernel) (by decide) (rfl) ?_
      refine am_Rq.blk (is := [(.goto 761, 3)]) (q := (1424, [some (.ref 0), some (.ref 2), some (.ref 238), some (.ref 246), some (.int (nI (7 * n))), some (.int (nI 2)), some (.int (nI 0))], [])) (by decide +kernel) rfl ?_
      dsimp only
      refine am_Rq.blk (is := [(.iinc 4 7, 3)]) (q := (1427, [some (.ref 0), some (.ref 2), some (.ref 238), some (.ref 246), some (.int ((nI (7 * n)) + (nI 7))), some (.int (nI 2)), some (.int (nI 0))], [])) (by decide +kernel) rfl ?_
      dsimp only
      rw [show (nI (7 * n)) + (nI 7) = nI ((7 * n) + 7) from nI_add _ _]
      refine am_Rq.blk (is := [(.goto (-1404), 3)]) (q := (23, [some (.ref 0), some (.ref 2), some (.ref 238), some (.ref 246), some (.int (nI ((7 * n) + 7))), some (.int (nI 2)), some (.int (nI 0))], [])) (by decide +kernel) rfl ?_
      dsimp only
      rw [show 7 * n + 7 = 7 * (n + 1) by omega]
      exact ih _ _ _ ⟨s, f, kn, nx, ks, hs, 2, h02, hC2, hM2, ⟨_, hU2⟩, hR.more, by rw [hf2.1, hl1]; omega, by rw [hf2.1, hl1]; omega, by rw [hf2.2.1, ht1]; omega⟩
    ·
      refine am_Rq.blk (is := [(.aload_n 1, 1), (.aload_n 0, 1), (.iload 4, 2), (.iconst 1, 1), (.iadd, 1)]) (q := (580, [some (.ref 0), some (.ref 2), some (.ref 238), some (.ref 246), some (.int (nI (7 * n))), z5, z6], [.int ((nI (7 * n)) + (nI 1)), .ref 0, .ref 2])) (by decide +kernel) rfl ?_
      dsimp only
      rw [show (nI (7 * n)) + (nI 1) = nI ((7 * n) + 1) from nI_add _ _]
      refine am_Rq.ial (k := (7 * n) + 1) (show decode (am_by 0) 580 = .ok (.iaload, 1) by decide +kernel) h0 (by omega) (by omega) ?_
      refine am_Rq.blk (is := [(.aload_n 0, 1), (.iload 4, 2), (.iconst 2, 1), (.iadd, 1)]) (q := (586, [some (.ref 0), some (.ref 2), some (.ref 238), some (.ref 246), some (.int (nI (7 * n))), z5, z6], [.int ((nI (7 * n)) + (nI 2)), .ref 0, .int (xs ((7 * n) + 1)), .ref 2])) (by decide +kernel) rfl ?_
      dsimp only
      rw [show (nI (7 * n)) + (nI 2) = nI ((7 * n) + 2) from nI_add _ _]
      refine am_Rq.ial (k := (7 * n) + 2) (show decode (am_by 0) 586 = .ok (.iaload, 1) by decide +kernel) h0 (by omega) (by omega) ?_
      refine am_Rq.blk (is := [(.aload_n 0, 1), (.iload 4, 2), (.iconst 3, 1), (.iadd, 1)]) (q := (592, [some (.ref 0), some (.ref 2), some (.ref 238), some (.ref 246), some (.int (nI (7 * n))), z5, z6], [.int ((nI (7 * n)) + (nI 3)), .ref 0, .int (xs ((7 * n) + 2)), .int (xs ((7 * n) + 1)), .ref 2])) (by decide +kernel) rfl ?_
      dsimp only
      rw [show (nI (7 * n)) + (nI 3) = nI ((7 * n) + 3) from nI_add _ _]
      refine am_Rq.ial (k := (7 * n) + 3) (show decode (am_by 0) 592 = .ok (.iaload, 1) by decide +kernel) h0 (by omega) (by omega) ?_
      refine am_Rq.blk (is := [(.aload_n 0, 1), (.iload 4, 2), (.iconst 4, 1), (.iadd, 1)]) (q := (598, [some (.ref 0), some (.ref 2), some (.ref 238), some (.ref 246), some (.int (nI (7 * n))), z5, z6], [.int ((nI (7 * n)) + (nI 4)), .ref 0, .int (xs ((7 * n) + 3)), .int (xs ((7 * n) + 2)), .int (xs ((7 * n) + 1)), .ref 2])) (by decide +kernel) rfl ?_
      dsimp only
      rw [show (nI (7 * n)) + (nI 4) = nI ((7 * n) + 4) from nI_add _ _]
      refine am_Rq.ial (k := (7 * n) + 4) (show decode (am_by 0) 598 = .ok (.iaload, 1) by decide +kernel) h0 (by omega) (by omega) ?_
      refine am_Rq.blk (is := [(.aload_n 3, 1)]) (q := (600, [some (.ref 0), some (.ref 2), some (.ref 238), some (.ref 246), some (.int (nI (7 * n))), z5, z6], [.ref 246, .int (xs ((7 * n) + 4)), .int (xs ((7 * n) + 3)), .int (xs ((7 * n) + 2)), .int (xs ((7 * n) + 1)), .ref 2])) (by decide +kernel) rfl ?_
      dsimp only
      refine am_Rq.callS (show decode (am_by 0) 600 = .ok (.invokestatic 103, 3) by decide +kernel) rfl [.ref 2, .int (xs ((7 * n) + 1)), .int (xs ((7 * n) + 2)), .int (xs ((7 * n) + 3)), .int (xs ((7 * n) + 4)), .ref 246] [] rfl rfl (Nat.le_of_ble_eq_true rfl) rfl rfl (w_grant_no1 hC hU hc) ?_
      rintro hp1 _ ⟨rfl, he1⟩
      have hk : ∀ a, a < 247 → hp1[a]? = hp[a]? := fun a ha => by rw [he1]; exact List.getElem?_append_left (by omega)
      have hl1 : hp1.length = hp.length + 1 := by rw [he1]; exact ap_len rfl
      have ht1 : am_tot hp1 = am_tot hp + 6 := by rw [he1]; exact c_exT _ _
      have h01 := (hk 0 (by omega)).trans h0
      have hU1 := (hk 246 (by omega)).trans hU
      have hM1 := hM.kept (fun a a1 a2 => hk a (by omega))
      have hC1 := hC.kept (fun a a1 a2 => hk a (by omega))
      have hM0 := hM1
      obtain ⟨⟨⟨co1, hO1⟩, -⟩, -⟩ := hM0
      show am_Rq _ 0 603 [some (.ref 0), some (.ref 2), some (.ref 238), some (.ref 246), some (.int (nI (7 * n))), z5, z6] [.int (nI 3)] _ _
      refine am_Rq.blk (is := [(.istore 5, 2), (.aload_n 2, 1), (.aload_n 0, 1), (.iload 4, 2), (.iconst 1, 1), (.iadd, 1)]) (q := (611, [some (.ref 0), some (.ref 2), some (.ref 238), some (.ref 246), some (.int (nI (7 * n))), some (.int (nI 3)), z6], [.int ((nI (7 * n)) + (nI 1)), .ref 0, .ref 238])) (by decide +kernel) rfl ?_
      dsimp only
      rw [show (nI (7 * n)) + (nI 1) = nI ((7 * n) + 1) from nI_add _ _]
      refine am_Rq.ial (k := (7 * n) + 1) (show decode (am_by 0) 611 = .ok (.iaload, 1) by decide +kernel) h01 (by omega) (by omega) ?_
      refine am_Rq.blk (is := [(.aload_n 0, 1), (.iload 4, 2), (.iconst 2, 1), (.iadd, 1)]) (q := (617, [some (.ref 0), some (.ref 2), some (.ref 238), some (.ref 246), some (.int (nI (7 * n))), some (.int (nI 3)), z6], [.int ((nI (7 * n)) + (nI 2)), .ref 0, .int (xs ((7 * n) + 1)), .ref 238])) (by decide +kernel) rfl ?_
      dsimp only
      rw [show (nI (7 * n)) + (nI 2) = nI ((7 * n) + 2) from nI_add _ _]
      refine am_Rq.ial (k := (7 * n) + 2) (show decode (am_by 0) 617 = .ok (.iaload, 1) by decide +kernel) h01 (by omega) (by omega) ?_
      refine am_Rq.blk (is := [(.aload_n 0, 1), (.iload 4, 2), (.iconst 3, 1), (.iadd, 1)]) (q := (623, [some (.ref 0), some (.ref 2), some (.ref 238), some (.ref 246), some (.int (nI (7 * n))), some (.int (nI 3)), z6], [.int ((nI (7 * n)) + (nI 3)), .ref 0, .int (xs ((7 * n) + 2)), .int (xs ((7 * n) + 1)), .ref 238])) (by decide +kernel) rfl ?_
      dsimp only
      rw [show (nI (7 * n)) + (nI 3) = nI ((7 * n) + 3) from nI_add _ _]
      refine am_Rq.ial (k := (7 * n) + 3) (show decode (am_by 0) 623 = .ok (.iaload, 1) by decide +kernel) h01 (by omega) (by omega) ?_
      refine am_Rq.blk (is := [(.aload_n 0, 1), (.iload 4, 2), (.iconst 4, 1), (.iadd, 1)]) (q := (629, [some (.ref 0), some (.ref 2), some (.ref 238), some (.ref 246), some (.int (nI (7 * n))), some (.int (nI 3)), z6], [.int ((nI (7 * n)) + (nI 4)), .ref 0, .int (xs ((7 * n) + 3)), .int (xs ((7 * n) + 2)), .int (xs ((7 * n) + 1)), .ref 238])) (by decide +kernel) rfl ?_
      dsimp only
      rw [show (nI (7 * n)) + (nI 4) = nI ((7 * n) + 4) from nI_add _ _]
      refine am_Rq.ial (k := (7 * n) + 4) (show decode (am_by 0) 629 = .ok (.iaload, 1) by decide +kernel) h01 (by omega) (by omega) ?_
      refine am_Rq.callV (show decode (am_by 0) 630 = .ok (.invokevirtual 105, 3) by decide +kernel) rfl [.int (xs ((7 * n) + 1)), .int (xs ((7 * n) + 2)), .int (xs ((7 * n) + 3)), .int (xs ((7 * n) + 4))] [] rfl rfl (Nat.le_of_ble_eq_true rfl) rfl hO1 rfl (hm hp1 th hM1) ?_
      rintro hp2 _ ⟨rfl, hM2, hf2⟩
      have h02 := (hf2.2.2 0 (fun q => by omega)).trans h01
      have hU2 := (hf2.2.2 246 (fun q => by omega)).trans hU1
      have hC2 := hC1.kept (fun a a1 a2 => hf2.2.2 a (fun q => by omega))
      show am_Rq _ 0 633 [some (.ref 0), some (.ref 2), some (.ref 238), some (.ref 246), some (.int (nI (7 * n))), some (.int (nI 3)), z6] [.int (nI 0)] _ _
      refine am_Rq.blk (is := [(.istore 6, 2), (.aload_n 2, 1)]) (q := (636, [some (.ref 0), some (.ref 2), some (.ref 238), some (.ref 246), some (.int (nI (7 * n))), some (.int (nI 3)), some (.int (nI 0))], [.ref 238])) (by decide +kernel) rfl ?_
      dsimp only
      have hM3 := hM2
      obtain ⟨⟨⟨co2, hO2⟩, hS2, -⟩, -⟩ := hM3
      refine am_Rq.callV (show decode (am_by 0) 636 = .ok (.invokevirtual 85, 3) by decide +kernel) rfl [] [] rfl rfl (Nat.le_of_ble_eq_true rfl) rfl hO2 rfl (m_thrown (d := 8) hO2 hS2) ?_
      rintro hq _ ⟨e1, rfl⟩
      rw [e1]
      clear e1 hq
      show am_Rq _ 0 639 [some (.ref 0), some (.ref 2), some (.ref 238), some (.ref 246), some (.int (nI (7 * n))), some (.int (nI 3)), some (.int (nI 0))] [.int (nI 3)] _ _
      refine am_Rq.blk (is := [(.iload 5, 2)]) (q := (641, [some (.ref 0), some (.ref 2), some (.ref 238), some (.ref 246), some (.int (nI (7 * n))), some (.int (nI 3)), some (.int (nI 0))], [.int (nI 3), .int (nI 3)])) (by decide +kernel) rfl ?_
      dsimp only
      refine am_Rq.if2T (t := 646) (show decode (am_by 0) 641 = .ok (.if_icmp .eq 5, 3) by decide +kernel) (by decide) (rfl) ?_
      refine am_Rq.blk (is := [(.iload 5, 2)]) (q := (648, [some (.ref 0), some (.ref 2), some (.ref 238), some (.ref 246), some (.int (nI (7 * n))), some (.int (nI 3)), some (.int (nI 0))], [.int (nI 3)])) (by decide +kernel) rfl ?_
      dsimp only
      refine am_Rq.if1T (t := 663) (show decode (am_by 0) 648 = .ok (.ifCond .ne 15, 3) by decide +kernel) (by decide) (rfl) ?_
      refine am_Rq.blk (is := [(.goto 761, 3)]) (q := (1424, [some (.ref 0), some (.ref 2), some (.ref 238), some (.ref 246), some (.int (nI (7 * n))), some (.int (nI 3)), some (.int (nI 0))], [])) (by decide +kernel) rfl ?_
      dsimp only
      refine am_Rq.blk (is := [(.iinc 4 7, 3)]) (q := (1427, [some (.ref 0), some (.ref 2), some (.ref 238), some (.ref 246), some (.int ((nI (7 * n)) + (nI 7))), some (.int (nI 3)), some (.int (nI 0))], [])) (by decide +kernel) rfl ?_
      dsimp only
      rw [show (nI (7 * n)) + (nI 7) = nI ((7 * n) + 7) from nI_add _ _]
      refine am_Rq.blk (is := [(.goto (-1404), 3)]) (q := (23, [some (.ref 0), some (.ref 2), some (.ref 238), some (.ref 246), some (.int (nI ((7 * n) + 7))), some (.int (nI 3)), some (.int (nI 0))], [])) (by decide +kernel) rfl ?_
      dsimp only
      rw [show 7 * n + 7 = 7 * (n + 1) by omega]
      exact ih _ _ _ ⟨s, f, kn, nx, ks, hs, 3, h02, hC2, hM2, ⟨_, hU2⟩, hR.more, by rw [hf2.1, hl1]; omega, by rw [hf2.1, hl1]; omega, by rw [hf2.2.1, ht1]; omega⟩
theorem l_pass {L n : Nat} {xs : Nat → Int32} (hL : L ≤ 3584) (hn : 7 * n + 7 ≤ L) {hp : am_H} (h : l_St L xs hp n) {Q : am_H → am_R → Prop} (ih : ∀ hp1 z5 z6, l_St L xs hp1 (n + 1) → am_Rq 9 0 23 [some (.ref 0), some (.ref 2), some (.ref 238), some (.ref 246), some (.int (nI (7 * (n + 1)))), z5, z6] [] hp1 Q) {z5 z6 : Option Value} : am_Rq 9 0 666 [some (.ref 0), some (.ref 2), some (.ref 238), some (.ref 246), some (.int (nI (7 * n))), z5, z6] [] hp Q := by
  obtain ⟨s, f, kn, nx, ks, hs, th, h0, hC, hM, ⟨ou, hU⟩, hR, l1, l2, l3⟩ := h
  have hp9 := p_pass hR (by omega) (xs (7 * n + 1))
  rcases hp9 with ⟨v, s1, kn1, nx1, ks1, hc, hm⟩ | ⟨k, c, hin, hc, hm⟩
  ·
    refine am_Rq.blk (is := [(.aload_n 1, 1), (.aload_n 0, 1), (.iload 4, 2), (.iconst 1, 1), (.iadd, 1)]) (q := (672, [some (.ref 0), some (.ref 2), some (.ref 238), some (.ref 246), some (.int (nI (7 * n))), z5, z6], [.int ((nI (7 * n)) + (nI 1)), .ref 0, .ref 2])) (by decide +kernel) rfl ?_
    dsimp only
    rw [show (nI (7 * n)) + (nI 1) = nI ((7 * n) + 1) from nI_add _ _]
    refine am_Rq.ial (k := (7 * n) + 1) (show decode (am_by 0) 672 = .ok (.iaload, 1) by decide +kernel) h0 (by omega) (by omega) ?_
    refine am_Rq.blk (is := [(.aload_n 3, 1)]) (q := (674, [some (.ref 0), some (.ref 2), some (.ref 238), some (.ref 246), some (.int (nI (7 * n))), z5, z6], [.ref 246, .int (xs ((7 * n) + 1)), .ref 2])) (by decide +kernel) rfl ?_
    dsimp only
    refine am_Rq.callS (show decode (am_by 0) 674 = .ok (.invokestatic 106, 3) by decide +kernel) rfl [.ref 2, .int (xs ((7 * n) + 1)), .ref 246] [] rfl rfl (Nat.le_of_ble_eq_true rfl) rfl rfl (w_pass hC hU hc) ?_
    rintro hp1 _ ⟨rfl, hC1, hU1, hf1⟩
    have h01 := (hf1.2.2 0 (fun q => by omega)).trans h0
    have hM1 := hM.kept (fun a a1 a2 => hf1.2.2 a (fun q => by omega))
    have hM0 := hM1
    obtain ⟨⟨⟨co1, hO1⟩, -⟩, -⟩ := hM0
    show am_Rq _ 0 677 [some (.ref 0), some (.ref 2), some (.ref 238), some (.ref 246), some (.int (nI (7 * n))), z5, z6] [.int (nI 0)] _ _
    refine am_Rq.blk (is := [(.istore 5, 2), (.aload_n 2, 1), (.aload_n 0, 1), (.iload 4, 2), (.iconst 1, 1), (.iadd, 1)]) (q := (685, [some (.ref 0), some (.ref 2), some (.ref 238), some (.ref 246), some (.int (nI (7 * n))), some (.int (nI 0)), z6], [.int ((nI (7 * n)) + (nI 1)), .ref 0, .ref 238])) (by decide +kernel) rfl ?_
    dsimp only
    rw [show (nI (7 * n)) + (nI 1) = nI ((7 * n) + 1) from nI_add _ _]
    refine am_Rq.ial (k := (7 * n) + 1) (show decode (am_by 0) 685 = .ok (.iaload, 1) by decide +kernel) h01 (by omega) (by omega) ?_
    refine am_Rq.callV (show decode (am_by 0) 686 = .ok (.invokevirtual 108, 3) by decide +kernel) rfl [.int (xs ((7 * n) + 1))] [] rfl rfl (Nat.le_of_ble_eq_true rfl) rfl hO1 rfl (hm hp1 th hM1) ?_
    rintro hp2 _ ⟨rfl, ⟨f2, hM2, hs2, hR2⟩, hf2⟩
    have h02 := (hf2.2.2 0 (fun q => by omega)).trans h01
    have hU2 := (hf2.2.2 246 (fun q => by omega)).trans hU1
    have hC2 := hC1.kept (fun a a1 a2 => hf2.2.2 a (fun q => by omega))
    show am_Rq _ 0 689 [some (.ref 0), some (.ref 2), some (.ref 238), some (.ref 246), some (.int (nI (7 * n))), some (.int (nI 0)), z6] [.int v] _ _
    refine am_Rq.blk (is := [(.istore 6, 2), (.aload_n 2, 1)]) (q := (692, [some (.ref 0), some (.ref 2), some (.ref 238), some (.ref 246), some (.int (nI (7 * n))), some (.int (nI 0)), some (.int v)], [.ref 238])) (by decide +kernel) rfl ?_
    dsimp only
    have hM3 := hM2
    obtain ⟨⟨⟨co2, hO2⟩, hS2, -⟩, -⟩ := hM3
    refine am_Rq.callV (show decode (am_by 0) 692 = .ok (.invokevirtual 85, 3) by decide +kernel) rfl [] [] rfl rfl (Nat.le_of_ble_eq_true rfl) rfl hO2 rfl (m_thrown (d := 8) hO2 hS2) ?_
    rintro hq _ ⟨e1, rfl⟩
    rw [e1]
    clear e1 hq
    show am_Rq _ 0 695 [some (.ref 0), some (.ref 2), some (.ref 238), some (.ref 246), some (.int (nI (7 * n))), some (.int (nI 0)), some (.int v)] [.int (nI 0)] _ _
    refine am_Rq.blk (is := [(.iload 5, 2)]) (q := (697, [some (.ref 0), some (.ref 2), some (.ref 238), some (.ref 246), some (.int (nI (7 * n))), some (.int (nI 0)), some (.int v)], [.int (nI 0), .int (nI 0)])) (by decide +kernel) rfl ?_
    dsimp only
    refine am_Rq.if2T (t := 702) (show decode (am_by 0) 697 = .ok (.if_icmp .eq 5, 3) by decide +kernel) (by decide) (rfl) ?_
    refine am_Rq.blk (is := [(.iload 5, 2)]) (q := (704, [some (.ref 0), some (.ref 2), some (.ref 238), some (.ref 246), some (.int (nI (7 * n))), some (.int (nI 0)), some (.int v)], [.int (nI 0)])) (by decide +kernel) rfl ?_
    dsimp only
    refine am_Rq.if1F (show decode (am_by 0) 704 = .ok (.ifCond .ne 15, 3) by decide +kernel) (by decide) (rfl) ?_
    refine am_Rq.blk (is := [(.aload_n 3, 1), (.iconst 0, 1)]) (q := (709, [some (.ref 0), some (.ref 2), some (.ref 238), some (.ref 246), some (.int (nI (7 * n))), some (.int (nI 0)), some (.int v)], [.int (nI 0), .ref 246])) (by decide +kernel) rfl ?_
    dsimp only
    refine am_Rq.lal (k := 0) (show decode (am_by 0) 709 = .ok (.laload, 1) by decide +kernel) hU2 (by omega) (by omega) ?_
    refine am_Rq.blk (is := [(.iload 6, 2)]) (q := (712, [some (.ref 0), some (.ref 2), some (.ref 238), some (.ref 246), some (.int (nI (7 * n))), some (.int (nI 0)), some (.int v)], [.int v, .long ((va_up ou 0 v.toInt64) 0)])) (by decide +kernel) rfl ?_
    dsimp only
    rw [va_up_self]
    refine am_Rq.blk (is := [(.i2l, 1), (.lcmp, 1)]) (q := (714, [some (.ref 0), some (.ref 2), some (.ref 238), some (.ref 246), some (.int (nI (7 * n))), some (.int (nI 0)), some (.int v)], [.int (lg_cmp v.toInt64 v.toInt64)])) (by decide +kernel) rfl ?_
    dsimp only
    refine am_Rq.if1T (t := 719) (show decode (am_by 0) 714 = .ok (.ifCond .eq 5, 3) by decide +kernel) (by decide) (by rw [nm_ceq]; exact decide_eq_true rfl) ?_
    refine am_Rq.blk (is := [(.goto 705, 3)]) (q := (1424, [some (.ref 0), some (.ref 2), some (.ref 238), some (.ref 246), some (.int (nI (7 * n))), some (.int (nI 0)), some (.int v)], [])) (by decide +kernel) rfl ?_
    dsimp only
    refine am_Rq.blk (is := [(.iinc 4 7, 3)]) (q := (1427, [some (.ref 0), some (.ref 2), some (.ref 238), some (.ref 246), some (.int ((nI (7 * n)) + (nI 7))), some (.int (nI 0)), some (.int v)], [])) (by decide +kernel) rfl ?_
    dsimp only
    rw [show (nI (7 * n)) + (nI 7) = nI ((7 * n) + 7) from nI_add _ _]
    refine am_Rq.blk (is := [(.goto (-1404), 3)]) (q := (23, [some (.ref 0), some (.ref 2), some (.ref 238), some (.ref 246), some (.int (nI ((7 * n) + 7))), some (.int (nI 0)), some (.int v)], [])) (by decide +kernel) rfl ?_
    dsimp only
    rw [show 7 * n + 7 = 7 * (n + 1) by omega]
    exact ih _ _ _ ⟨s1, f2, kn1, nx1, ks1, hs2, 0, h02, hC2, hM2, ⟨_, hU2⟩, hR2, by rw [hf2.1, hf1.1]; omega, by rw [hf2.1, hf1.1]; omega, by rw [hf2.2.1, hf1.2.1]; omega⟩
  ·
    simp only [List.mem_cons, Prod.mk.injEq, List.not_mem_nil, or_false] at hin
    rcases hin with ⟨rfl, rfl⟩
    refine am_Rq.blk (is := [(.aload_n 1, 1), (.aload_n 0, 1), (.iload 4, 2), (.iconst 1, 1), (.iadd, 1)]) (q := (672, [some (.ref 0), some (.ref 2), some (.ref 238), some (.ref 246), some (.int (nI (7 * n))), z5, z6], [.int ((nI (7 * n)) + (nI 1)), .ref 0, .ref 2])) (by decide +kernel) rfl ?_
    dsimp only
    rw [show (nI (7 * n)) + (nI 1) = nI ((7 * n) + 1) from nI_add _ _]
    refine am_Rq.ial (k := (7 * n) + 1) (show decode (am_by 0) 672 = .ok (.iaload, 1) by decide +kernel) h0 (by omega) (by omega) ?_
    refine am_Rq.blk (is := [(.aload_n 3, 1)]) (q := (674, [some (.ref 0), some (.ref 2), some (.ref 238), some (.ref 246), some (.int (nI (7 * n))), z5, z6], [.ref 246, .int (xs ((7 * n) + 1)), .ref 2])) (by decide +kernel) rfl ?_
    dsimp only
    refine am_Rq.callS (show decode (am_by 0) 674 = .ok (.invokestatic 106, 3) by decide +kernel) rfl [.ref 2, .int (xs ((7 * n) + 1)), .ref 246] [] rfl rfl (Nat.le_of_ble_eq_true rfl) rfl rfl (w_pass_no0 hC hU hc) ?_
    rintro hp1 _ ⟨rfl, he1⟩
    have hk : ∀ a, a < 247 → hp1[a]? = hp[a]? := fun a ha => by rw [he1]; exact List.getElem?_append_left (by omega)
    have hl1 : hp1.length = hp.length + 1 := by rw [he1]; exact ap_len rfl
    have ht1 : am_tot hp1 = am_tot hp + 6 := by rw [he1]; exact c_exT _ _
    have h01 := (hk 0 (by omega)).trans h0
    have hU1 := (hk 246 (by omega)).trans hU
    have hM1 := hM.kept (fun a a1 a2 => hk a (by omega))
    have hC1 := hC.kept (fun a a1 a2 => hk a (by omega))
    have hM0 := hM1
    obtain ⟨⟨⟨co1, hO1⟩, -⟩, -⟩ := hM0
    show am_Rq _ 0 677 [some (.ref 0), some (.ref 2), some (.ref 238), some (.ref 246), some (.int (nI (7 * n))), z5, z6] [.int (nI 1)] _ _
    refine am_Rq.blk (is := [(.istore 5, 2), (.aload_n 2, 1), (.aload_n 0, 1), (.iload 4, 2), (.iconst 1, 1), (.iadd, 1)]) (q := (685, [some (.ref 0), some (.ref 2), some (.ref 238), some (.ref 246), some (.int (nI (7 * n))), some (.int (nI 1)), z6], [.int ((nI (7 * n)) + (nI 1)), .ref 0, .ref 238])) (by decide +kernel) rfl ?_
    dsimp only
    rw [show (nI (7 * n)) + (nI 1) = nI ((7 * n) + 1) from nI_add _ _]
    refine am_Rq.ial (k := (7 * n) + 1) (show decode (am_by 0) 685 = .ok (.iaload, 1) by decide +kernel) h01 (by omega) (by omega) ?_
    refine am_Rq.callV (show decode (am_by 0) 686 = .ok (.invokevirtual 108, 3) by decide +kernel) rfl [.int (xs ((7 * n) + 1))] [] rfl rfl (Nat.le_of_ble_eq_true rfl) rfl hO1 rfl (hm hp1 th hM1) ?_
    rintro hp2 _ ⟨rfl, hM2, hf2⟩
    have h02 := (hf2.2.2 0 (fun q => by omega)).trans h01
    have hU2 := (hf2.2.2 246 (fun q => by omega)).trans hU1
    have hC2 := hC1.kept (fun a a1 a2 => hf2.2.2 a (fun q => by omega))
    show am_Rq _ 0 689 [some (.ref 0), some (.ref 2), some (.ref 238), some (.ref 246), some (.int (nI (7 * n))), some (.int (nI 1)), z6] [.int (nI 0)] _ _
    refine am_Rq.blk (is := [(.istore 6, 2), (.aload_n 2, 1)]) (q := (692, [some (.ref 0), some (.ref 2), some (.ref 238), some (.ref 246), some (.int (nI (7 * n))), some (.int (nI 1)), some (.int (nI 0))], [.ref 238])) (by decide +kernel) rfl ?_
    dsimp only
    have hM3 := hM2
    obtain ⟨⟨⟨co2, hO2⟩, hS2, -⟩, -⟩ := hM3
    refine am_Rq.callV (show decode (am_by 0) 692 = .ok (.invokevirtual 85, 3) by decide +kernel) rfl [] [] rfl rfl (Nat.le_of_ble_eq_true rfl) rfl hO2 rfl (m_thrown (d := 8) hO2 hS2) ?_
    rintro hq _ ⟨e1, rfl⟩
    rw [e1]
    clear e1 hq
    show am_Rq _ 0 695 [some (.ref 0), some (.ref 2), some (.ref 238), some (.ref 246), some (.int (nI (7 * n))), some (.int (nI 1)), some (.int (nI 0))] [.int (nI 1)] _ _
    refine am_Rq.blk (is := [(.iload 5, 2)]) (q := (697, [some (.ref 0), some (.ref 2), some (.ref 238), some (.ref 246), some (.int (nI (7 * n))), some (.int (nI 1)), some (.int (nI 0))], [.int (nI 1), .int (nI 1)])) (by decide +kernel) rfl ?_
    dsimp only
    refine am_Rq.if2T (t := 702) (show decode (am_by 0) 697 = .ok (.if_icmp .eq 5, 3) by decide +kernel) (by decide) (rfl) ?_
    refine am_Rq.blk (is := [(.iload 5, 2)]) (q := (704, [some (.ref 0), some (.ref 2), some (.ref 238), some (.ref 246), some (.int (nI (7 * n))), some (.int (nI 1)), some (.int (nI 0))], [.int (nI 1)])) (by decide +kernel) rfl ?_
    dsimp only
    refine am_Rq.if1T (t := 719) (show decode (am_by 0) 704 = .ok (.ifCond .ne 15, 3) by decide +kernel) (by decide) (rfl) ?_
    refine am_Rq.blk (is := [(.goto 705, 3)]) (q := (1424, [some (.ref 0), some (.ref 2), some (.ref 238), some (.ref 246), some (.int (nI (7 * n))), some (.int (nI 1)), some (.int (nI 0))], [])) (by decide +kernel) rfl ?_
    dsimp only
    refine am_Rq.blk (is := [(.iinc 4 7, 3)]) (q := (1427, [some (.ref 0), some (.ref 2), some (.ref 238), some (.ref 246), some (.int ((nI (7 * n)) + (nI 7))), some (.int (nI 1)), some (.int (nI 0))], [])) (by decide +kernel) rfl ?_
    dsimp only
    rw [show (nI (7 * n)) + (nI 7) = nI ((7 * n) + 7) from nI_add _ _]
    refine am_Rq.blk (is := [(.goto (-1404), 3)]) (q := (23, [some (.ref 0), some (.ref 2), some (.ref 238), some (.ref 246), some (.int (nI ((7 * n) + 7))), some (.int (nI 1)), some (.int (nI 0))], [])) (by decide +kernel) rfl ?_
    dsimp only
    rw [show 7 * n + 7 = 7 * (n + 1) by omega]
    exact ih _ _ _ ⟨s, f, kn, nx, ks, hs, 1, h02, hC2, hM2, ⟨_, hU2⟩, hR.more, by rw [hf2.1, hl1]; omega, by rw [hf2.1, hl1]; omega, by rw [hf2.2.1, ht1]; omega⟩
theorem l_leave {L n : Nat} {xs : Nat → Int32} (hL : L ≤ 3584) (hn : 7 * n + 7 ≤ L) {hp : am_H} (h : l_St L xs hp n) {Q : am_H → am_R → Prop} (ih : ∀ hp1 z5 z6, l_St L xs hp1 (n + 1) → am_Rq 9 0 23 [some (.ref 0), some (.ref 2), some (.ref 238), some (.ref 246), some (.int (nI (7 * (n + 1)))), z5, z6] [] hp1 Q) {z5 z6 : Option Value} : am_Rq 9 0 722 [some (.ref 0), some (.ref 2), some (.ref 238), some (.ref 246), some (.int (nI (7 * n))), z5, z6] [] hp Q := by
  obtain ⟨s, f, kn, nx, ks, hs, th, h0, hC, hM, ⟨ou, hU⟩, hR, l1, l2, l3⟩ := h
  have hp9 := p_leave hR (by omega) (xs (7 * n + 1))
  rcases hp9 with ⟨v, s1, kn1, nx1, ks1, hc, hm⟩ | ⟨k, c, hin, hc, hm⟩
  ·
    refine am_Rq.blk (is := [(.aload_n 1, 1), (.aload_n 0, 1), (.iload 4, 2), (.iconst 1, 1), (.iadd, 1)]) (q := (728, [some (.ref 0), some (.ref 2), some (.ref 238), some (.ref 246), some (.int (nI (7 * n))), z5, z6], [.int ((nI (7 * n)) + (nI 1)), .ref 0, .ref 2])) (by decide +kernel) rfl ?_
    dsimp only
    rw [show (nI (7 * n)) + (nI 1) = nI ((7 * n) + 1) from nI_add _ _]
    refine am_Rq.ial (k := (7 * n) + 1) (show decode (am_by 0) 728 = .ok (.iaload, 1) by decide +kernel) h0 (by omega) (by omega) ?_
    refine am_Rq.blk (is := [(.aload_n 3, 1)]) (q := (730, [some (.ref 0), some (.ref 2), some (.ref 238), some (.ref 246), some (.int (nI (7 * n))), z5, z6], [.ref 246, .int (xs ((7 * n) + 1)), .ref 2])) (by decide +kernel) rfl ?_
    dsimp only
    refine am_Rq.callS (show decode (am_by 0) 730 = .ok (.invokestatic 109, 3) by decide +kernel) rfl [.ref 2, .int (xs ((7 * n) + 1)), .ref 246] [] rfl rfl (Nat.le_of_ble_eq_true rfl) rfl rfl (w_leave hC hU hc) ?_
    rintro hp1 _ ⟨rfl, hC1, hU1, hf1⟩
    have h01 := (hf1.2.2 0 (fun q => by omega)).trans h0
    have hM1 := hM.kept (fun a a1 a2 => hf1.2.2 a (fun q => by omega))
    have hM0 := hM1
    obtain ⟨⟨⟨co1, hO1⟩, -⟩, -⟩ := hM0
    show am_Rq _ 0 733 [some (.ref 0), some (.ref 2), some (.ref 238), some (.ref 246), some (.int (nI (7 * n))), z5, z6] [.int (nI 0)] _ _
    refine am_Rq.blk (is := [(.istore 5, 2), (.aload_n 2, 1), (.aload_n 0, 1), (.iload 4, 2), (.iconst 1, 1), (.iadd, 1)]) (q := (741, [some (.ref 0), some (.ref 2), some (.ref 238), some (.ref 246), some (.int (nI (7 * n))), some (.int (nI 0)), z6], [.int ((nI (7 * n)) + (nI 1)), .ref 0, .ref 238])) (by decide +kernel) rfl ?_
    dsimp only
    rw [show (nI (7 * n)) + (nI 1) = nI ((7 * n) + 1) from nI_add _ _]
    refine am_Rq.ial (k := (7 * n) + 1) (show decode (am_by 0) 741 = .ok (.iaload, 1) by decide +kernel) h01 (by omega) (by omega) ?_
    refine am_Rq.callV (show decode (am_by 0) 742 = .ok (.invokevirtual 111, 3) by decide +kernel) rfl [.int (xs ((7 * n) + 1))] [] rfl rfl (Nat.le_of_ble_eq_true rfl) rfl hO1 rfl (hm hp1 th hM1) ?_
    rintro hp2 _ ⟨rfl, ⟨f2, hM2, hs2, hR2⟩, hf2⟩
    have h02 := (hf2.2.2 0 (fun q => by omega)).trans h01
    have hU2 := (hf2.2.2 246 (fun q => by omega)).trans hU1
    have hC2 := hC1.kept (fun a a1 a2 => hf2.2.2 a (fun q => by omega))
    show am_Rq _ 0 745 [some (.ref 0), some (.ref 2), some (.ref 238), some (.ref 246), some (.int (nI (7 * n))), some (.int (nI 0)), z6] [.int v] _ _
    refine am_Rq.blk (is := [(.istore 6, 2), (.aload_n 2, 1)]) (q := (748, [some (.ref 0), some (.ref 2), some (.ref 238), some (.ref 246), some (.int (nI (7 * n))), some (.int (nI 0)), some (.int v)], [.ref 238])) (by decide +kernel) rfl ?_
    dsimp only
    have hM3 := hM2
    obtain ⟨⟨⟨co2, hO2⟩, hS2, -⟩, -⟩ := hM3
    refine am_Rq.callV (show decode (am_by 0) 748 = .ok (.invokevirtual 85, 3) by decide +kernel) rfl [] [] rfl rfl (Nat.le_of_ble_eq_true rfl) rfl hO2 rfl (m_thrown (d := 8) hO2 hS2) ?_
    rintro hq _ ⟨e1, rfl⟩
    rw [e1]
    clear e1 hq
    show am_Rq _ 0 751 [some (.ref 0), some (.ref 2), some (.ref 238), some (.ref 246), some (.int (nI (7 * n))), some (.int (nI 0)), some (.int v)] [.int (nI 0)] _ _
    refine am_Rq.blk (is := [(.iload 5, 2)]) (q := (753, [some (.ref 0), some (.ref 2), some (.ref 238), some (.ref 246), some (.int (nI (7 * n))), some (.int (nI 0)), some (.int v)], [.int (nI 0), .int (nI 0)])) (by decide +kernel) rfl ?_
    dsimp only
    refine am_Rq.if2T (t := 758) (show decode (am_by 0) 753 = .ok (.if_icmp .eq 5, 3) by decide +kernel) (by decide) (rfl) ?_
    refine am_Rq.blk (is := [(.iload 5, 2)]) (q := (760, [some (.ref 0), some (.ref 2), some (.ref 238), some (.ref 246), some (.int (nI (7 * n))), some (.int (nI 0)), some (.int v)], [.int (nI 0)])) (by decide +kernel) rfl ?_
    dsimp only
    refine am_Rq.if1F (show decode (am_by 0) 760 = .ok (.ifCond .ne 15, 3) by decide +kernel) (by decide) (rfl) ?_
    refine am_Rq.blk (is := [(.aload_n 3, 1), (.iconst 0, 1)]) (q := (765, [some (.ref 0), some (.ref 2), some (.ref 238), some (.ref 246), some (.int (nI (7 * n))), some (.int (nI 0)), some (.int v)], [.int (nI 0), .ref 246])) (by decide +kernel) rfl ?_
    dsimp only
    refine am_Rq.lal (k := 0) (show decode (am_by 0) 765 = .ok (.laload, 1) by decide +kernel) hU2 (by omega) (by omega) ?_
    refine am_Rq.blk (is := [(.iload 6, 2)]) (q := (768, [some (.ref 0), some (.ref 2), some (.ref 238), some (.ref 246), some (.int (nI (7 * n))), some (.int (nI 0)), some (.int v)], [.int v, .long ((va_up ou 0 v.toInt64) 0)])) (by decide +kernel) rfl ?_
    dsimp only
    rw [va_up_self]
    refine am_Rq.blk (is := [(.i2l, 1), (.lcmp, 1)]) (q := (770, [some (.ref 0), some (.ref 2), some (.ref 238), some (.ref 246), some (.int (nI (7 * n))), some (.int (nI 0)), some (.int v)], [.int (lg_cmp v.toInt64 v.toInt64)])) (by decide +kernel) rfl ?_
    dsimp only
    refine am_Rq.if1T (t := 775) (show decode (am_by 0) 770 = .ok (.ifCond .eq 5, 3) by decide +kernel) (by decide) (by rw [nm_ceq]; exact decide_eq_true rfl) ?_
    refine am_Rq.blk (is := [(.goto 649, 3)]) (q := (1424, [some (.ref 0), some (.ref 2), some (.ref 238), some (.ref 246), some (.int (nI (7 * n))), some (.int (nI 0)), some (.int v)], [])) (by decide +kernel) rfl ?_
    dsimp only
    refine am_Rq.blk (is := [(.iinc 4 7, 3)]) (q := (1427, [some (.ref 0), some (.ref 2), some (.ref 238), some (.ref 246), some (.int ((nI (7 * n)) + (nI 7))), some (.int (nI 0)), some (.int v)], [])) (by decide +kernel) rfl ?_
    dsimp only
    rw [show (nI (7 * n)) + (nI 7) = nI ((7 * n) + 7) from nI_add _ _]
    refine am_Rq.blk (is := [(.goto (-1404), 3)]) (q := (23, [some (.ref 0), some (.ref 2), some (.ref 238), some (.ref 246), some (.int (nI ((7 * n) + 7))), some (.int (nI 0)), some (.int v)], [])) (by decide +kernel) rfl ?_
    dsimp only
    rw [show 7 * n + 7 = 7 * (n + 1) by omega]
    exact ih _ _ _ ⟨s1, f2, kn1, nx1, ks1, hs2, 0, h02, hC2, hM2, ⟨_, hU2⟩, hR2, by rw [hf2.1, hf1.1]; omega, by rw [hf2.1, hf1.1]; omega, by rw [hf2.2.1, hf1.2.1]; omega⟩
  ·
    simp only [List.mem_cons, Prod.mk.injEq, List.not_mem_nil, or_false] at hin
    rcases hin with ⟨rfl, rfl⟩
    refine am_Rq.blk (is := [(.aload_n 1, 1), (.aload_n 0, 1), (.iload 4, 2), (.iconst 1, 1), (.iadd, 1)]) (q := (728, [some (.ref 0), some (.ref 2), some (.ref 238), some (.ref 246), some (.int (nI (7 * n))), z5, z6], [.int ((nI (7 * n)) + (nI 1)), .ref 0, .ref 2])) (by decide +kernel) rfl ?_
    dsimp only
    rw [show (nI (7 * n)) + (nI 1) = nI ((7 * n) + 1) from nI_add _ _]
    refine am_Rq.ial (k := (7 * n) + 1) (show decode (am_by 0) 728 = .ok (.iaload, 1) by decide +kernel) h0 (by omega) (by omega) ?_
    refine am_Rq.blk (is := [(.aload_n 3, 1)]) (q := (730, [some (.ref 0), some (.ref 2), some (.ref 238), some (.ref 246), some (.int (nI (7 * n))), z5, z6], [.ref 246, .int (xs ((7 * n) + 1)), .ref 2])) (by decide +kernel) rfl ?_
    dsimp only
    refine am_Rq.callS (show decode (am_by 0) 730 = .ok (.invokestatic 109, 3) by decide +kernel) rfl [.ref 2, .int (xs ((7 * n) + 1)), .ref 246] [] rfl rfl (Nat.le_of_ble_eq_true rfl) rfl rfl (w_leave_no2 hC hU hc) ?_
    rintro hp1 _ ⟨rfl, he1⟩
    have hk : ∀ a, a < 247 → hp1[a]? = hp[a]? := fun a ha => by rw [he1]; exact List.getElem?_append_left (by omega)
    have hl1 : hp1.length = hp.length + 1 := by rw [he1]; exact ap_len rfl
    have ht1 : am_tot hp1 = am_tot hp + 6 := by rw [he1]; exact c_exT _ _
    have h01 := (hk 0 (by omega)).trans h0
    have hU1 := (hk 246 (by omega)).trans hU
    have hM1 := hM.kept (fun a a1 a2 => hk a (by omega))
    have hC1 := hC.kept (fun a a1 a2 => hk a (by omega))
    have hM0 := hM1
    obtain ⟨⟨⟨co1, hO1⟩, -⟩, -⟩ := hM0
    show am_Rq _ 0 733 [some (.ref 0), some (.ref 2), some (.ref 238), some (.ref 246), some (.int (nI (7 * n))), z5, z6] [.int (nI 1)] _ _
    refine am_Rq.blk (is := [(.istore 5, 2), (.aload_n 2, 1), (.aload_n 0, 1), (.iload 4, 2), (.iconst 1, 1), (.iadd, 1)]) (q := (741, [some (.ref 0), some (.ref 2), some (.ref 238), some (.ref 246), some (.int (nI (7 * n))), some (.int (nI 1)), z6], [.int ((nI (7 * n)) + (nI 1)), .ref 0, .ref 238])) (by decide +kernel) rfl ?_
    dsimp only
    rw [show (nI (7 * n)) + (nI 1) = nI ((7 * n) + 1) from nI_add _ _]
    refine am_Rq.ial (k := (7 * n) + 1) (show decode (am_by 0) 741 = .ok (.iaload, 1) by decide +kernel) h01 (by omega) (by omega) ?_
    refine am_Rq.callV (show decode (am_by 0) 742 = .ok (.invokevirtual 111, 3) by decide +kernel) rfl [.int (xs ((7 * n) + 1))] [] rfl rfl (Nat.le_of_ble_eq_true rfl) rfl hO1 rfl (hm hp1 th hM1) ?_
    rintro hp2 _ ⟨rfl, hM2, hf2⟩
    have h02 := (hf2.2.2 0 (fun q => by omega)).trans h01
    have hU2 := (hf2.2.2 246 (fun q => by omega)).trans hU1
    have hC2 := hC1.kept (fun a a1 a2 => hf2.2.2 a (fun q => by omega))
    show am_Rq _ 0 745 [some (.ref 0), some (.ref 2), some (.ref 238), some (.ref 246), some (.int (nI (7 * n))), some (.int (nI 1)), z6] [.int (nI 0)] _ _
    refine am_Rq.blk (is := [(.istore 6, 2), (.aload_n 2, 1)]) (q := (748, [some (.ref 0), some (.ref 2), some (.ref 238), some (.ref 246), some (.int (nI (7 * n))), some (.int (nI 1)), some (.int (nI 0))], [.ref 238])) (by decide +kernel) rfl ?_
    dsimp only
    have hM3 := hM2
    obtain ⟨⟨⟨co2, hO2⟩, hS2, -⟩, -⟩ := hM3
    refine am_Rq.callV (show decode (am_by 0) 748 = .ok (.invokevirtual 85, 3) by decide +kernel) rfl [] [] rfl rfl (Nat.le_of_ble_eq_true rfl) rfl hO2 rfl (m_thrown (d := 8) hO2 hS2) ?_
    rintro hq _ ⟨e1, rfl⟩
    rw [e1]
    clear e1 hq
    show am_Rq _ 0 751 [some (.ref 0), some (.ref 2), some (.ref 238), some (.ref 246), some (.int (nI (7 * n))), some (.int (nI 1)), some (.int (nI 0))] [.int (nI 1)] _ _
    refine am_Rq.blk (is := [(.iload 5, 2)]) (q := (753, [some (.ref 0), some (.ref 2), some (.ref 238), some (.ref 246), some (.int (nI (7 * n))), some (.int (nI 1)), some (.int (nI 0))], [.int (nI 1), .int (nI 1)])) (by decide +kernel) rfl ?_
    dsimp only
    refine am_Rq.if2T (t := 758) (show decode (am_by 0) 753 = .ok (.if_icmp .eq 5, 3) by decide +kernel) (by decide) (rfl) ?_
    refine am_Rq.blk (is := [(.iload 5, 2)]) (q := (760, [some (.ref 0), some (.ref 2), some (.ref 238), some (.ref 246), some (.int (nI (7 * n))), some (.int (nI 1)), some (.int (nI 0))], [.int (nI 1)])) (by decide +kernel) rfl ?_
    dsimp only
    refine am_Rq.if1T (t := 775) (show decode (am_by 0) 760 = .ok (.ifCond .ne 15, 3) by decide +kernel) (by decide) (rfl) ?_
    refine am_Rq.blk (is := [(.goto 649, 3)]) (q := (1424, [some (.ref 0), some (.ref 2), some (.ref 238), some (.ref 246), some (.int (nI (7 * n))), some (.int (nI 1)), some (.int (nI 0))], [])) (by decide +kernel) rfl ?_
    dsimp only
    refine am_Rq.blk (is := [(.iinc 4 7, 3)]) (q := (1427, [some (.ref 0), some (.ref 2), some (.ref 238), some (.ref 246), some (.int ((nI (7 * n)) + (nI 7))), some (.int (nI 1)), some (.int (nI 0))], [])) (by decide +kernel) rfl ?_
    dsimp only
    rw [show (nI (7 * n)) + (nI 7) = nI ((7 * n) + 7) from nI_add _ _]
    refine am_Rq.blk (is := [(.goto (-1404), 3)]) (q := (23, [some (.ref 0), some (.ref 2), some (.ref 238), some (.ref 246), some (.int (nI ((7 * n) + 7))), some (.int (nI 1)), some (.int (nI 0))], [])) (by decide +kernel) rfl ?_
    dsimp only
    rw [show 7 * n + 7 = 7 * (n + 1) by omega]
    exact ih _ _ _ ⟨s, f, kn, nx, ks, hs, 1, h02, hC2, hM2, ⟨_, hU2⟩, hR.more, by rw [hf2.1, hl1]; omega, by rw [hf2.1, hl1]; omega, by rw [hf2.2.1, ht1]; omega⟩
theorem l_exercise {L n : Nat} {xs : Nat → Int32} (hL : L ≤ 3584) (hn : 7 * n + 7 ≤ L) {hp : am_H} (h : l_St L xs hp n) {Q : am_H → am_R → Prop} (ih : ∀ hp1 z5 z6, l_St L xs hp1 (n + 1) → am_Rq 9 0 23 [some (.ref 0), some (.ref 2), some (.ref 238), some (.ref 246), some (.int (nI (7 * (n + 1)))), z5, z6] [] hp1 Q) {z5 z6 : Option Value} : am_Rq 9 0 778 [some (.ref 0), some (.ref 2), some (.ref 238), some (.ref 246), some (.int (nI (7 * n))), z5, z6] [] hp Q := by
  obtain ⟨s, f, kn, nx, ks, hs, th, h0, hC, hM, ⟨ou, hU⟩, hR, l1, l2, l3⟩ := h
  have hp9 := p_exercise hR (by omega) (xs (7 * n + 1)) (xs (7 * n + 2))
  rcases hp9 with ⟨v, s1, kn1, nx1, ks1, hc, hm⟩ | ⟨k, c, hin, hc, hm⟩
  ·
    refine am_Rq.blk (is := [(.aload_n 1, 1), (.aload_n 0, 1), (.iload 4, 2), (.iconst 1, 1), (.iadd, 1)]) (q := (784, [some (.ref 0), some (.ref 2), some (.ref 238), some (.ref 246), some (.int (nI (7 * n))), z5, z6], [.int ((nI (7 * n)) + (nI 1)), .ref 0, .ref 2])) (by decide +kernel) rfl ?_
    dsimp only
    rw [show (nI (7 * n)) + (nI 1) = nI ((7 * n) + 1) from nI_add _ _]
    refine am_Rq.ial (k := (7 * n) + 1) (show decode (am_by 0) 784 = .ok (.iaload, 1) by decide +kernel) h0 (by omega) (by omega) ?_
    refine am_Rq.blk (is := [(.aload_n 0, 1), (.iload 4, 2), (.iconst 2, 1), (.iadd, 1)]) (q := (790, [some (.ref 0), some (.ref 2), some (.ref 238), some (.ref 246), some (.int (nI (7 * n))), z5, z6], [.int ((nI (7 * n)) + (nI 2)), .ref 0, .int (xs ((7 * n) + 1)), .ref 2])) (by decide +kernel) rfl ?_
    dsimp only
    rw [show (nI (7 * n)) + (nI 2) = nI ((7 * n) + 2) from nI_add _ _]
    refine am_Rq.ial (k := (7 * n) + 2) (show decode (am_by 0) 790 = .ok (.iaload, 1) by decide +kernel) h0 (by omega) (by omega) ?_
    refine am_Rq.blk (is := [(.aload_n 3, 1)]) (q := (792, [some (.ref 0), some (.ref 2), some (.ref 238), some (.ref 246), some (.int (nI (7 * n))), z5, z6], [.ref 246, .int (xs ((7 * n) + 2)), .int (xs ((7 * n) + 1)), .ref 2])) (by decide +kernel) rfl ?_
    dsimp only
    refine am_Rq.callS (show decode (am_by 0) 792 = .ok (.invokestatic 112, 3) by decide +kernel) rfl [.ref 2, .int (xs ((7 * n) + 1)), .int (xs ((7 * n) + 2)), .ref 246] [] rfl rfl (Nat.le_of_ble_eq_true rfl) rfl rfl (w_exercise hC hU hc) ?_
    rintro hp1 _ ⟨rfl, hC1, hU1, hf1⟩
    have h01 := (hf1.2.2 0 (fun q => by omega)).trans h0
    have hM1 := hM.kept (fun a a1 a2 => hf1.2.2 a (fun q => by omega))
    have hM0 := hM1
    obtain ⟨⟨⟨co1, hO1⟩, -⟩, -⟩ := hM0
    show am_Rq _ 0 795 [some (.ref 0), some (.ref 2), some (.ref 238), some (.ref 246), some (.int (nI (7 * n))), z5, z6] [.int (nI 0)] _ _
    refine am_Rq.blk (is := [(.istore 5, 2), (.aload_n 2, 1), (.aload_n 0, 1), (.iload 4, 2), (.iconst 1, 1), (.iadd, 1)]) (q := (803, [some (.ref 0), some (.ref 2), some (.ref 238), some (.ref 246), some (.int (nI (7 * n))), some (.int (nI 0)), z6], [.int ((nI (7 * n)) + (nI 1)), .ref 0, .ref 238])) (by decide +kernel) rfl ?_
    dsimp only
    rw [show (nI (7 * n)) + (nI 1) = nI ((7 * n) + 1) from nI_add _ _]
    refine am_Rq.ial (k := (7 * n) + 1) (show decode (am_by 0) 803 = .ok (.iaload, 1) by decide +kernel) h01 (by omega) (by omega) ?_
    refine am_Rq.blk (is := [(.aload_n 0, 1), (.iload 4, 2), (.iconst 2, 1), (.iadd, 1)]) (q := (809, [some (.ref 0), some (.ref 2), some (.ref 238), some (.ref 246), some (.int (nI (7 * n))), some (.int (nI 0)), z6], [.int ((nI (7 * n)) + (nI 2)), .ref 0, .int (xs ((7 * n) + 1)), .ref 238])) (by decide +kernel) rfl ?_
    dsimp only
    rw [show (nI (7 * n)) + (nI 2) = nI ((7 * n) + 2) from nI_add _ _]
    refine am_Rq.ial (k := (7 * n) + 2) (show decode (am_by 0) 809 = .ok (.iaload, 1) by decide +kernel) h01 (by omega) (by omega) ?_
    refine am_Rq.callV (show decode (am_by 0) 810 = .ok (.invokevirtual 115, 3) by decide +kernel) rfl [.int (xs ((7 * n) + 1)), .int (xs ((7 * n) + 2))] [] rfl rfl (Nat.le_of_ble_eq_true rfl) rfl hO1 rfl (hm hp1 th hM1) ?_
    rintro hp2 _ ⟨rfl, ⟨f2, hM2, hs2, hR2⟩, hf2⟩
    have h02 := (hf2.2.2 0 (fun q => by omega)).trans h01
    have hU2 := (hf2.2.2 246 (fun q => by omega)).trans hU1
    have hC2 := hC1.kept (fun a a1 a2 => hf2.2.2 a (fun q => by omega))
    show am_Rq _ 0 813 [some (.ref 0), some (.ref 2), some (.ref 238), some (.ref 246), some (.int (nI (7 * n))), some (.int (nI 0)), z6] [.int v] _ _
    refine am_Rq.blk (is := [(.istore 6, 2), (.aload_n 2, 1)]) (q := (816, [some (.ref 0), some (.ref 2), some (.ref 238), some (.ref 246), some (.int (nI (7 * n))), some (.int (nI 0)), some (.int v)], [.ref 238])) (by decide +kernel) rfl ?_
    dsimp only
    have hM3 := hM2
    obtain ⟨⟨⟨co2, hO2⟩, hS2, -⟩, -⟩ := hM3
    refine am_Rq.callV (show decode (am_by 0) 816 = .ok (.invokevirtual 85, 3) by decide +kernel) rfl [] [] rfl rfl (Nat.le_of_ble_eq_true rfl) rfl hO2 rfl (m_thrown (d := 8) hO2 hS2) ?_
    rintro hq _ ⟨e1, rfl⟩
    rw [e1]
    clear e1 hq
    show am_Rq _ 0 819 [some (.ref 0), some (.ref 2), some (.ref 238), some (.ref 246), some (.int (nI (7 * n))), some (.int (nI 0)), some (.int v)] [.int (nI 0)] _ _
    refine am_Rq.blk (is := [(.iload 5, 2)]) (q := (821, [some (.ref 0), some (.ref 2), some (.ref 238), some (.ref 246), some (.int (nI (7 * n))), some (.int (nI 0)), some (.int v)], [.int (nI 0), .int (nI 0)])) (by decide +kernel) rfl ?_
    dsimp only
    refine am_Rq.if2T (t := 826) (show decode (am_by 0) 821 = .ok (.if_icmp .eq 5, 3) by decide +kernel) (by decide) (rfl) ?_
    refine am_Rq.blk (is := [(.iload 5, 2)]) (q := (828, [some (.ref 0), some (.ref 2), some (.ref 238), some (.ref 246), some (.int (nI (7 * n))), some (.int (nI 0)), some (.int v)], [.int (nI 0)])) (by decide +kernel) rfl ?_
    dsimp only
    refine am_Rq.if1F (show decode (am_by 0) 828 = .ok (.ifCond .ne 15, 3) by decide +kernel) (by decide) (rfl) ?_
    refine am_Rq.blk (is := [(.aload_n 3, 1), (.iconst 0, 1)]) (q := (833, [some (.ref 0), some (.ref 2), some (.ref 238), some (.ref 246), some (.int (nI (7 * n))), some (.int (nI 0)), some (.int v)], [.int (nI 0), .ref 246])) (by decide +kernel) rfl ?_
    dsimp only
    refine am_Rq.lal (k := 0) (show decode (am_by 0) 833 = .ok (.laload, 1) by decide +kernel) hU2 (by omega) (by omega) ?_
    refine am_Rq.blk (is := [(.iload 6, 2)]) (q := (836, [some (.ref 0), some (.ref 2), some (.ref 238), some (.ref 246), some (.int (nI (7 * n))), some (.int (nI 0)), some (.int v)], [.int v, .long ((va_up ou 0 v.toInt64) 0)])) (by decide +kernel) rfl ?_
    dsimp only
    rw [va_up_self]
    refine am_Rq.blk (is := [(.i2l, 1), (.lcmp, 1)]) (q := (838, [some (.ref 0), some (.ref 2), some (.ref 238), some (.ref 246), some (.int (nI (7 * n))), some (.int (nI 0)), some (.int v)], [.int (lg_cmp v.toInt64 v.toInt64)])) (by decide +kernel) rfl ?_
    dsimp only
    refine am_Rq.if1T (t := 843) (show decode (am_by 0) 838 = .ok (.ifCond .eq 5, 3) by decide +kernel) (by decide) (by rw [nm_ceq]; exact decide_eq_true rfl) ?_
    refine am_Rq.blk (is := [(.goto 581, 3)]) (q := (1424, [some (.ref 0), some (.ref 2), some (.ref 238), some (.ref 246), some (.int (nI (7 * n))), some (.int (nI 0)), some (.int v)], [])) (by decide +kernel) rfl ?_
    dsimp only
    refine am_Rq.blk (is := [(.iinc 4 7, 3)]) (q := (1427, [some (.ref 0), some (.ref 2), some (.ref 238), some (.ref 246), some (.int ((nI (7 * n)) + (nI 7))), some (.int (nI 0)), some (.int v)], [])) (by decide +kernel) rfl ?_
    dsimp only
    rw [show (nI (7 * n)) + (nI 7) = nI ((7 * n) + 7) from nI_add _ _]
    refine am_Rq.blk (is := [(.goto (-1404), 3)]) (q := (23, [some (.ref 0), some (.ref 2), some (.ref 238), some (.ref 246), some (.int (nI ((7 * n) + 7))), some (.int (nI 0)), some (.int v)], [])) (by decide +kernel) rfl ?_
    dsimp only
    rw [show 7 * n + 7 = 7 * (n + 1) by omega]
    exact ih _ _ _ ⟨s1, f2, kn1, nx1, ks1, hs2, 0, h02, hC2, hM2, ⟨_, hU2⟩, hR2, by rw [hf2.1, hf1.1]; omega, by rw [hf2.1, hf1.1]; omega, by rw [hf2.2.1, hf1.2.1]; omega⟩
  ·
    simp only [List.mem_cons, Prod.mk.injEq, List.not_mem_nil, or_false] at hin
    rcases hin with ⟨rfl, rfl⟩ | ⟨rfl, rfl⟩ | ⟨rfl, rfl⟩
    ·
      refine am_Rq.blk (is := [(.aload_n 1, 1), (.aload_n 0, 1), (.iload 4, 2), (.iconst 1, 1), (.iadd, 1)]) (q := (784, [some (.ref 0), some (.ref 2), some (.ref 238), some (.ref 246), some (.int (nI (7 * n))), z5, z6], [.int ((nI (7 * n)) + (nI 1)), .ref 0, .ref 2])) (by decide +kernel) rfl ?_
      dsimp only
      rw [show (nI (7 * n)) + (nI 1) = nI ((7 * n) + 1) from nI_add _ _]
      refine am_Rq.ial (k := (7 * n) + 1) (show decode (am_by 0) 784 = .ok (.iaload, 1) by decide +kernel) h0 (by omega) (by omega) ?_
      refine am_Rq.blk (is := [(.aload_n 0, 1), (.iload 4, 2), (.iconst 2, 1), (.iadd, 1)]) (q := (790, [some (.ref 0), some (.ref 2), some (.ref 238), some (.ref 246), some (.int (nI (7 * n))), z5, z6], [.int ((nI (7 * n)) + (nI 2)), .ref 0, .int (xs ((7 * n) + 1)), .ref 2])) (by decide +kernel) rfl ?_
      dsimp only
      rw [show (nI (7 * n)) + (nI 2) = nI ((7 * n) + 2) from nI_add _ _]
      refine am_Rq.ial (k := (7 * n) + 2) (show decode (am_by 0) 790 = .ok (.iaload, 1) by decide +kernel) h0 (by omega) (by omega) ?_
      refine am_Rq.blk (is := [(.aload_n 3, 1)]) (q := (792, [some (.ref 0), some (.ref 2), some (.ref 238), some (.ref 246), some (.int (nI (7 * n))), z5, z6], [.ref 246, .int (xs ((7 * n) + 2)), .int (xs ((7 * n) + 1)), .ref 2])) (by decide +kernel) rfl ?_
      dsimp only
      refine am_Rq.callS (show decode (am_by 0) 792 = .ok (.invokestatic 112, 3) by decide +kernel) rfl [.ref 2, .int (xs ((7 * n) + 1)), .int (xs ((7 * n) + 2)), .ref 246] [] rfl rfl (Nat.le_of_ble_eq_true rfl) rfl rfl (w_exercise_no2 hC hU hc) ?_
      rintro hp1 _ ⟨rfl, he1⟩
      have hk : ∀ a, a < 247 → hp1[a]? = hp[a]? := fun a ha => by rw [he1]; exact List.getElem?_append_left (by omega)
      have hl1 : hp1.length = hp.length + 1 := by rw [he1]; exact ap_len rfl
      have ht1 : am_tot hp1 = am_tot hp + 6 := by rw [he1]; exact c_exT _ _
      have h01 := (hk 0 (by omega)).trans h0
      have hU1 := (hk 246 (by omega)).trans hU
      have hM1 := hM.kept (fun a a1 a2 => hk a (by omega))
      have hC1 := hC.kept (fun a a1 a2 => hk a (by omega))
      have hM0 := hM1
      obtain ⟨⟨⟨co1, hO1⟩, -⟩, -⟩ := hM0
      show am_Rq _ 0 795 [some (.ref 0), some (.ref 2), some (.ref 238), some (.ref 246), some (.int (nI (7 * n))), z5, z6] [.int (nI 1)] _ _
      refine am_Rq.blk (is := [(.istore 5, 2), (.aload_n 2, 1), (.aload_n 0, 1), (.iload 4, 2), (.iconst 1, 1), (.iadd, 1)]) (q := (803, [some (.ref 0), some (.ref 2), some (.ref 238), some (.ref 246), some (.int (nI (7 * n))), some (.int (nI 1)), z6], [.int ((nI (7 * n)) + (nI 1)), .ref 0, .ref 238])) (by decide +kernel) rfl ?_
      dsimp only
      rw [show (nI (7 * n)) + (nI 1) = nI ((7 * n) + 1) from nI_add _ _]
      refine am_Rq.ial (k := (7 * n) + 1) (show decode (am_by 0) 803 = .ok (.iaload, 1) by decide +kernel) h01 (by omega) (by omega) ?_
      refine am_Rq.blk (is := [(.aload_n 0, 1), (.iload 4, 2), (.iconst 2, 1), (.iadd, 1)]) (q := (809, [some (.ref 0), some (.ref 2), some (.ref 238), some (.ref 246), some (.int (nI (7 * n))), some (.int (nI 1)), z6], [.int ((nI (7 * n)) + (nI 2)), .ref 0, .int (xs ((7 * n) + 1)), .ref 238])) (by decide +kernel) rfl ?_
      dsimp only
      rw [show (nI (7 * n)) + (nI 2) = nI ((7 * n) + 2) from nI_add _ _]
      refine am_Rq.ial (k := (7 * n) + 2) (show decode (am_by 0) 809 = .ok (.iaload, 1) by decide +kernel) h01 (by omega) (by omega) ?_
      refine am_Rq.callV (show decode (am_by 0) 810 = .ok (.invokevirtual 115, 3) by decide +kernel) rfl [.int (xs ((7 * n) + 1)), .int (xs ((7 * n) + 2))] [] rfl rfl (Nat.le_of_ble_eq_true rfl) rfl hO1 rfl (hm hp1 th hM1) ?_
      rintro hp2 _ ⟨rfl, hM2, hf2⟩
      have h02 := (hf2.2.2 0 (fun q => by omega)).trans h01
      have hU2 := (hf2.2.2 246 (fun q => by omega)).trans hU1
      have hC2 := hC1.kept (fun a a1 a2 => hf2.2.2 a (fun q => by omega))
      show am_Rq _ 0 813 [some (.ref 0), some (.ref 2), some (.ref 238), some (.ref 246), some (.int (nI (7 * n))), some (.int (nI 1)), z6] [.int (nI 0)] _ _
      refine am_Rq.blk (is := [(.istore 6, 2), (.aload_n 2, 1)]) (q := (816, [some (.ref 0), some (.ref 2), some (.ref 238), some (.ref 246), some (.int (nI (7 * n))), some (.int (nI 1)), some (.int (nI 0))], [.ref 238])) (by decide +kernel) rfl ?_
      dsimp only
      have hM3 := hM2
      obtain ⟨⟨⟨co2, hO2⟩, hS2, -⟩, -⟩ := hM3
      refine am_Rq.callV (show decode (am_by 0) 816 = .ok (.invokevirtual 85, 3) by decide +kernel) rfl [] [] rfl rfl (Nat.le_of_ble_eq_true rfl) rfl hO2 rfl (m_thrown (d := 8) hO2 hS2) ?_
      rintro hq _ ⟨e1, rfl⟩
      rw [e1]
      clear e1 hq
      show am_Rq _ 0 819 [some (.ref 0), some (.ref 2), some (.ref 238), some (.ref 246), some (.int (nI (7 * n))), some (.int (nI 1)), some (.int (nI 0))] [.int (nI 1)] _ _
      refine am_Rq.blk (is := [(.iload 5, 2)]) (q := (821, [some (.ref 0), some (.ref 2), some (.ref 238), some (.ref 246), some (.int (nI (7 * n))), some (.int (nI 1)), some (.int (nI 0))], [.int (nI 1), .int (nI 1)])) (by decide +kernel) rfl ?_
      dsimp only
      refine am_Rq.if2T (t := 826) (show decode (am_by 0) 821 = .ok (.if_icmp .eq 5, 3) by decide +kernel) (by decide) (rfl) ?_
      refine am_Rq.blk (is := [(.iload 5, 2)]) (q := (828, [some (.ref 0), some (.ref 2), some (.ref 238), some (.ref 246), some (.int (nI (7 * n))), some (.int (nI 1)), some (.int (nI 0))], [.int (nI 1)])) (by decide +kernel) rfl ?_
      dsimp only
      refine am_Rq.if1T (t := 843) (show decode (am_by 0) 828 = .ok (.ifCond .ne 15, 3) by decide +kernel) (by decide) (rfl) ?_
      refine am_Rq.blk (is := [(.goto 581, 3)]) (q := (1424, [some (.ref 0), some (.ref 2), some (.ref 238), some (.ref 246), some (.int (nI (7 * n))), some (.int (nI 1)), some (.int (nI 0))], [])) (by decide +kernel) rfl ?_
      dsimp only
      refine am_Rq.blk (is := [(.iinc 4 7, 3)]) (q := (1427, [some (.ref 0), some (.ref 2), some (.ref 238), some (.ref 246), some (.int ((nI (7 * n)) + (nI 7))), some (.int (nI 1)), some (.int (nI 0))], [])) (by decide +kernel) rfl ?_
      dsimp only
      rw [show (nI (7 * n)) + (nI 7) = nI ((7 * n) + 7) from nI_add _ _]
      refine am_Rq.blk (is := [(.goto (-1404), 3)]) (q := (23, [some (.ref 0), some (.ref 2), some (.ref 238), some (.ref 246), some (.int (nI ((7 * n) + 7))), some (.int (nI 1)), some (.int (nI 0))], [])) (by decide +kernel) rfl ?_
      dsimp only
      rw [show 7 * n + 7 = 7 * (n + 1) by omega]
      exact ih _ _ _ ⟨s, f, kn, nx, ks, hs, 1, h02, hC2, hM2, ⟨_, hU2⟩, hR.more, by rw [hf2.1, hl1]; omega, by rw [hf2.1, hl1]; omega, by rw [hf2.2.1, ht1]; omega⟩
    ·
      refine am_Rq.blk (is := [(.aload_n 1, 1), (.aload_n 0, 1), (.iload 4, 2), (.iconst 1, 1), (.iadd, 1)]) (q := (784, [some (.ref 0), some (.ref 2), some (.ref 238), some (.ref 246), some (.int (nI (7 * n))), z5, z6], [.int ((nI (7 * n)) + (nI 1)), .ref 0, .ref 2])) (by decide +kernel) rfl ?_
      dsimp only
      rw [show (nI (7 * n)) + (nI 1) = nI ((7 * n) + 1) from nI_add _ _]
      refine am_Rq.ial (k := (7 * n) + 1) (show decode (am_by 0) 784 = .ok (.iaload, 1) by decide +kernel) h0 (by omega) (by omega) ?_
      refine am_Rq.blk (is := [(.aload_n 0, 1), (.iload 4, 2), (.iconst 2, 1), (.iadd, 1)]) (q := (790, [some (.ref 0), some (.ref 2), some (.ref 238), some (.ref 246), some (.int (nI (7 * n))), z5, z6], [.int ((nI (7 * n)) + (nI 2)), .ref 0, .int (xs ((7 * n) + 1)), .ref 2])) (by decide +kernel) rfl ?_
      dsimp only
      rw [show (nI (7 * n)) + (nI 2) = nI ((7 * n) + 2) from nI_add _ _]
      refine am_Rq.ial (k := (7 * n) + 2) (show decode (am_by 0) 790 = .ok (.iaload, 1) by decide +kernel) h0 (by omega) (by omega) ?_
      refine am_Rq.blk (is := [(.aload_n 3, 1)]) (q := (792, [some (.ref 0), some (.ref 2), some (.ref 238), some (.ref 246), some (.int (nI (7 * n))), z5, z6], [.ref 246, .int (xs ((7 * n) + 2)), .int (xs ((7 * n) + 1)), .ref 2])) (by decide +kernel) rfl ?_
      dsimp only
      refine am_Rq.callS (show decode (am_by 0) 792 = .ok (.invokestatic 112, 3) by decide +kernel) rfl [.ref 2, .int (xs ((7 * n) + 1)), .int (xs ((7 * n) + 2)), .ref 246] [] rfl rfl (Nat.le_of_ble_eq_true rfl) rfl rfl (w_exercise_no0 hC hU hc) ?_
      rintro hp1 _ ⟨rfl, he1⟩
      have hk : ∀ a, a < 247 → hp1[a]? = hp[a]? := fun a ha => by rw [he1]; exact List.getElem?_append_left (by omega)
      have hl1 : hp1.length = hp.length + 1 := by rw [he1]; exact ap_len rfl
      have ht1 : am_tot hp1 = am_tot hp + 6 := by rw [he1]; exact c_exT _ _
      have h01 := (hk 0 (by omega)).trans h0
      have hU1 := (hk 246 (by omega)).trans hU
      have hM1 := hM.kept (fun a a1 a2 => hk a (by omega))
      have hC1 := hC.kept (fun a a1 a2 => hk a (by omega))
      have hM0 := hM1
      obtain ⟨⟨⟨co1, hO1⟩, -⟩, -⟩ := hM0
      show am_Rq _ 0 795 [some (.ref 0), some (.ref 2), some (.ref 238), some (.ref 246), some (.int (nI (7 * n))), z5, z6] [.int (nI 2)] _ _
      refine am_Rq.blk (is := [(.istore 5, 2), (.aload_n 2, 1), (.aload_n 0, 1), (.iload 4, 2), (.iconst 1, 1), (.iadd, 1)]) (q := (803, [some (.ref 0), some (.ref 2), some (.ref 238), some (.ref 246), some (.int (nI (7 * n))), some (.int (nI 2)), z6], [.int ((nI (7 * n)) + (nI 1)), .ref 0, .ref 238])) (by decide +kernel) rfl ?_
      dsimp only
      rw [show (nI (7 * n)) + (nI 1) = nI ((7 * n) + 1) from nI_add _ _]
      refine am_Rq.ial (k := (7 * n) + 1) (show decode (am_by 0) 803 = .ok (.iaload, 1) by decide +kernel) h01 (by omega) (by omega) ?_
      refine am_Rq.blk (is := [(.aload_n 0, 1), (.iload 4, 2), (.iconst 2, 1), (.iadd, 1)]) (q := (809, [some (.ref 0), some (.ref 2), some (.ref 238), some (.ref 246), some (.int (nI (7 * n))), some (.int (nI 2)), z6], [.int ((nI (7 * n)) + (nI 2)), .ref 0, .int (xs ((7 * n) + 1)), .ref 238])) (by decide +kernel) rfl ?_
      dsimp only
      rw [show (nI (7 * n)) + (nI 2) = nI ((7 * n) + 2) from nI_add _ _]
      refine am_Rq.ial (k := (7 * n) + 2) (show decode (am_by 0) 809 = .ok (.iaload, 1) by decide +kernel) h01 (by omega) (by omega) ?_
      refine am_Rq.callV (show decode (am_by 0) 810 = .ok (.invokevirtual 115, 3) by decide +kernel) rfl [.int (xs ((7 * n) + 1)), .int (xs ((7 * n) + 2))] [] rfl rfl (Nat.le_of_ble_eq_true rfl) rfl hO1 rfl (hm hp1 th hM1) ?_
      rintro hp2 _ ⟨rfl, hM2, hf2⟩
      have h02 := (hf2.2.2 0 (fun q => by omega)).trans h01
      have hU2 := (hf2.2.2 246 (fun q => by omega)).trans hU1
      have hC2 := hC1.kept (fun a a1 a2 => hf2.2.2 a (fun q => by omega))
      show am_Rq _ 0 813 [some (.ref 0), some (.ref 2), some (.ref 238), some (.ref 246), some (.int (nI (7 * n))), some (.int (nI 2)), z6] [.int (nI 0)] _ _
      refine am_Rq.blk (is := [(.istore 6, 2), (.aload_n 2, 1)]) (q := (816, [some (.ref 0), some (.ref 2), some (.ref 238), some (.ref 246), some (.int (nI (7 * n))), some (.int (nI 2)), some (.int (nI 0))], [.ref 238])) (by decide +kernel) rfl ?_
      dsimp only
      have hM3 := hM2
      obtain ⟨⟨⟨co2, hO2⟩, hS2, -⟩, -⟩ := hM3
      refine am_Rq.callV (show decode (am_by 0) 816 = .ok (.invokevirtual 85, 3) by decide +kernel) rfl [] [] rfl rfl (Nat.le_of_ble_eq_true rfl) rfl hO2 rfl (m_thrown (d := 8) hO2 hS2) ?_
      rintro hq _ ⟨e1, rfl⟩
      rw [e1]
      clear e1 hq
      show am_Rq _ 0 819 [some (.ref 0), some (.ref 2), some (.ref 238), some (.ref 246), some (.int (nI (7 * n))), some (.int (nI 2)), some (.int (nI 0))] [.int (nI 2)] _ _
      refine am_Rq.blk (is := [(.iload 5, 2)]) (q := (821, [some (.ref 0), some (.ref 2), some (.ref 238), some (.ref 246), some (.int (nI (7 * n))), some (.int (nI 2)), some (.int (nI 0))], [.int (nI 2), .int (nI 2)])) (by decide +kernel) rfl ?_
      dsimp only
      refine am_Rq.if2T (t := 826) (show decode (am_by 0) 821 = .ok (.if_icmp .eq 5, 3) by decide +kernel) (by decide) (rfl) ?_
      refine am_Rq.blk (is := [(.iload 5, 2)]) (q := (828, [some (.ref 0), some (.ref 2), some (.ref 238), some (.ref 246), some (.int (nI (7 * n))), some (.int (nI 2)), some (.int (nI 0))], [.int (nI 2)])) (by decide +kernel) rfl ?_
      dsimp only
      refine am_Rq.if1T (t := 843) (show decode (am_by 0) 828 = .ok (.ifCond .ne 15, 3) by decide +kernel) (by decide) (rfl) ?_
      refine am_Rq.blk (is := [(.goto 581, 3)]) (q := (1424, [some (.ref 0), some (.ref 2), some (.ref 238), some (.ref 246), some (.int (nI (7 * n))), some (.int (nI 2)), some (.int (nI 0))], [])) (by decide +kernel) rfl ?_
      dsimp only
      refine am_Rq.blk (is := [(.iinc 4 7, 3)]) (q := (1427, [some (.ref 0), some (.ref 2), some (.ref 238), some (.ref 246), some (.int ((nI (7 * n)) + (nI 7))), some (.int (nI 2)), some (.int (nI 0))], [])) (by decide +kernel) rfl ?_
      dsimp only
      rw [show (nI (7 * n)) + (nI 7) = nI ((7 * n) + 7) from nI_add _ _]
      refine am_Rq.blk (is := [(.goto (-1404), 3)]) (q := (23, [some (.ref 0), some (.ref 2), some (.ref 238), some (.ref 246), some (.int (nI ((7 * n) + 7))), some (.int (nI 2)), some (.int (nI 0))], [])) (by decide +kernel) rfl ?_
      dsimp only
      rw [show 7 * n + 7 = 7 * (n + 1) by omega]
      exact ih _ _ _ ⟨s, f, kn, nx, ks, hs, 2, h02, hC2, hM2, ⟨_, hU2⟩, hR.more, by rw [hf2.1, hl1]; omega, by rw [hf2.1, hl1]; omega, by rw [hf2.2.1, ht1]; omega⟩
    ·
      refine am_Rq.blk (is := [(.aload_n 1, 1), (.aload_n 0, 1), (.iload 4, 2), (.iconst 1, 1), (.iadd, 1)]) (q := (784, [some (.ref 0), some (.ref 2), some (.ref 238), some (.ref 246), some (.int (nI (7 * n))), z5, z6], [.int ((nI (7 * n)) + (nI 1)), .ref 0, .ref 2])) (by decide +kernel) rfl ?_
      dsimp only
      rw [show (nI (7 * n)) + (nI 1) = nI ((7 * n) + 1) from nI_add _ _]
      refine am_Rq.ial (k := (7 * n) + 1) (show decode (am_by 0) 784 = .ok (.iaload, 1) by decide +kernel) h0 (by omega) (by omega) ?_
      refine am_Rq.blk (is := [(.aload_n 0, 1), (.iload 4, 2), (.iconst 2, 1), (.iadd, 1)]) (q := (790, [some (.ref 0), some (.ref 2), some (.ref 238), some (.ref 246), some (.int (nI (7 * n))), z5, z6], [.int ((nI (7 * n)) + (nI 2)), .ref 0, .int (xs ((7 * n) + 1)), .ref 2])) (by decide +kernel) rfl ?_
      dsimp only
      rw [show (nI (7 * n)) + (nI 2) = nI ((7 * n) + 2) from nI_add _ _]
      refine am_Rq.ial (k := (7 * n) + 2) (show decode (am_by 0) 790 = .ok (.iaload, 1) by decide +kernel) h0 (by omega) (by omega) ?_
      refine am_Rq.blk (is := [(.aload_n 3, 1)]) (q := (792, [some (.ref 0), some (.ref 2), some (.ref 238), some (.ref 246), some (.int (nI (7 * n))), z5, z6], [.ref 246, .int (xs ((7 * n) + 2)), .int (xs ((7 * n) + 1)), .ref 2])) (by decide +kernel) rfl ?_
      dsimp only
      refine am_Rq.callS (show decode (am_by 0) 792 = .ok (.invokestatic 112, 3) by decide +kernel) rfl [.ref 2, .int (xs ((7 * n) + 1)), .int (xs ((7 * n) + 2)), .ref 246] [] rfl rfl (Nat.le_of_ble_eq_true rfl) rfl rfl (w_exercise_no1 hC hU hc) ?_
      rintro hp1 _ ⟨rfl, he1⟩
      have hk : ∀ a, a < 247 → hp1[a]? = hp[a]? := fun a ha => by rw [he1]; exact List.getElem?_append_left (by omega)
      have hl1 : hp1.length = hp.length + 1 := by rw [he1]; exact ap_len rfl
      have ht1 : am_tot hp1 = am_tot hp + 6 := by rw [he1]; exact c_exT _ _
      have h01 := (hk 0 (by omega)).trans h0
      have hU1 := (hk 246 (by omega)).trans hU
      have hM1 := hM.kept (fun a a1 a2 => hk a (by omega))
      have hC1 := hC.kept (fun a a1 a2 => hk a (by omega))
      have hM0 := hM1
      obtain ⟨⟨⟨co1, hO1⟩, -⟩, -⟩ := hM0
      show am_Rq _ 0 795 [some (.ref 0), some (.ref 2), some (.ref 238), some (.ref 246), some (.int (nI (7 * n))), z5, z6] [.int (nI 3)] _ _
      refine am_Rq.blk (is := [(.istore 5, 2), (.aload_n 2, 1), (.aload_n 0, 1), (.iload 4, 2), (.iconst 1, 1), (.iadd, 1)]) (q := (803, [some (.ref 0), some (.ref 2), some (.ref 238), some (.ref 246), some (.int (nI (7 * n))), some (.int (nI 3)), z6], [.int ((nI (7 * n)) + (nI 1)), .ref 0, .ref 238])) (by decide +kernel) rfl ?_
      dsimp only
      rw [show (nI (7 * n)) + (nI 1) = nI ((7 * n) + 1) from nI_add _ _]
      refine am_Rq.ial (k := (7 * n) + 1) (show decode (am_by 0) 803 = .ok (.iaload, 1) by decide +kernel) h01 (by omega) (by omega) ?_
      refine am_Rq.blk (is := [(.aload_n 0, 1), (.iload 4, 2), (.iconst 2, 1), (.iadd, 1)]) (q := (809, [some (.ref 0), some (.ref 2), some (.ref 238), some (.ref 246), some (.int (nI (7 * n))), some (.int (nI 3)), z6], [.int ((nI (7 * n)) + (nI 2)), .ref 0, .int (xs ((7 * n) + 1)), .ref 238])) (by decide +kernel) rfl ?_
      dsimp only
      rw [show (nI (7 * n)) + (nI 2) = nI ((7 * n) + 2) from nI_add _ _]
      refine am_Rq.ial (k := (7 * n) + 2) (show decode (am_by 0) 809 = .ok (.iaload, 1) by decide +kernel) h01 (by omega) (by omega) ?_
      refine am_Rq.callV (show decode (am_by 0) 810 = .ok (.invokevirtual 115, 3) by decide +kernel) rfl [.int (xs ((7 * n) + 1)), .int (xs ((7 * n) + 2))] [] rfl rfl (Nat.le_of_ble_eq_true rfl) rfl hO1 rfl (hm hp1 th hM1) ?_
      rintro hp2 _ ⟨rfl, hM2, hf2⟩
      have h02 := (hf2.2.2 0 (fun q => by omega)).trans h01
      have hU2 := (hf2.2.2 246 (fun q => by omega)).trans hU1
      have hC2 := hC1.kept (fun a a1 a2 => hf2.2.2 a (fun q => by omega))
      show am_Rq _ 0 813 [some (.ref 0), some (.ref 2), some (.ref 238), some (.ref 246), some (.int (nI (7 * n))), some (.int (nI 3)), z6] [.int (nI 0)] _ _
      refine am_Rq.blk (is := [(.istore 6, 2), (.aload_n 2, 1)]) (q := (816, [some (.ref 0), some (.ref 2), some (.ref 238), some (.ref 246), some (.int (nI (7 * n))), some (.int (nI 3)), some (.int (nI 0))], [.ref 238])) (by decide +kernel) rfl ?_
      dsimp only
      have hM3 := hM2
      obtain ⟨⟨⟨co2, hO2⟩, hS2, -⟩, -⟩ := hM3
      refine am_Rq.callV (show decode (am_by 0) 816 = .ok (.invokevirtual 85, 3) by decide +kernel) rfl [] [] rfl rfl (Nat.le_of_ble_eq_true rfl) rfl hO2 rfl (m_thrown (d := 8) hO2 hS2) ?_
      rintro hq _ ⟨e1, rfl⟩
      rw [e1]
      clear e1 hq
      show am_Rq _ 0 819 [some (.ref 0), some (.ref 2), some (.ref 238), some (.ref 246), some (.int (nI (7 * n))), some (.int (nI 3)), some (.int (nI 0))] [.int (nI 3)] _ _
      refine am_Rq.blk (is := [(.iload 5, 2)]) (q := (821, [some (.ref 0), some (.ref 2), some (.ref 238), some (.ref 246), some (.int (nI (7 * n))), some (.int (nI 3)), some (.int (nI 0))], [.int (nI 3), .int (nI 3)])) (by decide +kernel) rfl ?_
      dsimp only
      refine am_Rq.if2T (t := 826) (show decode (am_by 0) 821 = .ok (.if_icmp .eq 5, 3) by decide +kernel) (by decide) (rfl) ?_
      refine am_Rq.blk (is := [(.iload 5, 2)]) (q := (828, [some (.ref 0), some (.ref 2), some (.ref 238), some (.ref 246), some (.int (nI (7 * n))), some (.int (nI 3)), some (.int (nI 0))], [.int (nI 3)])) (by decide +kernel) rfl ?_
      dsimp only
      refine am_Rq.if1T (t := 843) (show decode (am_by 0) 828 = .ok (.ifCond .ne 15, 3) by decide +kernel) (by decide) (rfl) ?_
      refine am_Rq.blk (is := [(.goto 581, 3)]) (q := (1424, [some (.ref 0), some (.ref 2), some (.ref 238), some (.ref 246), some (.int (nI (7 * n))), some (.int (nI 3)), some (.int (nI 0))], [])) (by decide +kernel) rfl ?_
      dsimp only
      refine am_Rq.blk (is := [(.iinc 4 7, 3)]) (q := (1427, [some (.ref 0), some (.ref 2), some (.ref 238), some (.ref 246), some (.int ((nI (7 * n)) + (nI 7))), some (.int (nI 3)), some (.int (nI 0))], [])) (by decide +kernel) rfl ?_
      dsimp only
      rw [show (nI (7 * n)) + (nI 7) = nI ((7 * n) + 7) from nI_add _ _]
      refine am_Rq.blk (is := [(.goto (-1404), 3)]) (q := (23, [some (.ref 0), some (.ref 2), some (.ref 238), some (.ref 246), some (.int (nI ((7 * n) + 7))), some (.int (nI 3)), some (.int (nI 0))], [])) (by decide +kernel) rfl ?_
      dsimp only
      rw [show 7 * n + 7 = 7 * (n + 1) by omega]
      exact ih _ _ _ ⟨s, f, kn, nx, ks, hs, 3, h02, hC2, hM2, ⟨_, hU2⟩, hR.more, by rw [hf2.1, hl1]; omega, by rw [hf2.1, hl1]; omega, by rw [hf2.2.1, ht1]; omega⟩
theorem l_vested {L n : Nat} {xs : Nat → Int32} (hL : L ≤ 3584) (hn : 7 * n + 7 ≤ L) {hp : am_H} (h : l_St L xs hp n) {Q : am_H → am_R → Prop} (ih : ∀ hp1 z5 z6, l_St L xs hp1 (n + 1) → am_Rq 9 0 23 [some (.ref 0), some (.ref 2), some (.ref 238), some (.ref 246), some (.int (nI (7 * (n + 1)))), z5, z6] [] hp1 Q) {z5 z6 : Option Value} : am_Rq 9 0 846 [some (.ref 0), some (.ref 2), some (.ref 238), some (.ref 246), some (.int (nI (7 * n))), z5, z6] [] hp Q := by
  obtain ⟨s, f, kn, nx, ks, hs, th, h0, hC, hM, ⟨ou, hU⟩, hR, l1, l2, l3⟩ := h
  have hp9 := p_vested hR (by omega) (xs (7 * n + 1))
  rcases hp9 with ⟨v, s1, kn1, nx1, ks1, hc, hm⟩ | ⟨k, c, hin, hc, hm⟩
  ·
    refine am_Rq.blk (is := [(.aload_n 1, 1), (.aload_n 0, 1), (.iload 4, 2), (.iconst 1, 1), (.iadd, 1)]) (q := (852, [some (.ref 0), some (.ref 2), some (.ref 238), some (.ref 246), some (.int (nI (7 * n))), z5, z6], [.int ((nI (7 * n)) + (nI 1)), .ref 0, .ref 2])) (by decide +kernel) rfl ?_
    dsimp only
    rw [show (nI (7 * n)) + (nI 1) = nI ((7 * n) + 1) from nI_add _ _]
    refine am_Rq.ial (k := (7 * n) + 1) (show decode (am_by 0) 852 = .ok (.iaload, 1) by decide +kernel) h0 (by omega) (by omega) ?_
    refine am_Rq.blk (is := [(.aload_n 3, 1)]) (q := (854, [some (.ref 0), some (.ref 2), some (.ref 238), some (.ref 246), some (.int (nI (7 * n))), z5, z6], [.ref 246, .int (xs ((7 * n) + 1)), .ref 2])) (by decide +kernel) rfl ?_
    dsimp only
    refine am_Rq.callS (show decode (am_by 0) 854 = .ok (.invokestatic 116, 3) by decide +kernel) rfl [.ref 2, .int (xs ((7 * n) + 1)), .ref 246] [] rfl rfl (Nat.le_of_ble_eq_true rfl) rfl rfl (w_vested hC hU hc) ?_
    rintro hp1 _ ⟨rfl, hC1, hU1, hf1⟩
    have h01 := (hf1.2.2 0 (fun q => by omega)).trans h0
    have hM1 := hM.kept (fun a a1 a2 => hf1.2.2 a (fun q => by omega))
    have hM0 := hM1
    obtain ⟨⟨⟨co1, hO1⟩, -⟩, -⟩ := hM0
    show am_Rq _ 0 857 [some (.ref 0), some (.ref 2), some (.ref 238), some (.ref 246), some (.int (nI (7 * n))), z5, z6] [.int (nI 0)] _ _
    refine am_Rq.blk (is := [(.istore 5, 2), (.aload_n 2, 1), (.aload_n 0, 1), (.iload 4, 2), (.iconst 1, 1), (.iadd, 1)]) (q := (865, [some (.ref 0), some (.ref 2), some (.ref 238), some (.ref 246), some (.int (nI (7 * n))), some (.int (nI 0)), z6], [.int ((nI (7 * n)) + (nI 1)), .ref 0, .ref 238])) (by decide +kernel) rfl ?_
    dsimp only
    rw [show (nI (7 * n)) + (nI 1) = nI ((7 * n) + 1) from nI_add _ _]
    refine am_Rq.ial (k := (7 * n) + 1) (show decode (am_by 0) 865 = .ok (.iaload, 1) by decide +kernel) h01 (by omega) (by omega) ?_
    refine am_Rq.callV (show decode (am_by 0) 866 = .ok (.invokevirtual 118, 3) by decide +kernel) rfl [.int (xs ((7 * n) + 1))] [] rfl rfl (Nat.le_of_ble_eq_true rfl) rfl hO1 rfl (hm hp1 th hM1) ?_
    rintro hp2 _ ⟨rfl, ⟨f2, hM2, hs2, hR2⟩, hf2⟩
    have h02 := (hf2.2.2 0 (fun q => by omega)).trans h01
    have hU2 := (hf2.2.2 246 (fun q => by omega)).trans hU1
    have hC2 := hC1.kept (fun a a1 a2 => hf2.2.2 a (fun q => by omega))
    show am_Rq _ 0 869 [some (.ref 0), some (.ref 2), some (.ref 238), some (.ref 246), some (.int (nI (7 * n))), some (.int (nI 0)), z6] [.int v] _ _
    refine am_Rq.blk (is := [(.istore 6, 2), (.aload_n 2, 1)]) (q := (872, [some (.ref 0), some (.ref 2), some (.ref 238), some (.ref 246), some (.int (nI (7 * n))), some (.int (nI 0)), some (.int v)], [.ref 238])) (by decide +kernel) rfl ?_
    dsimp only
    have hM3 := hM2
    obtain ⟨⟨⟨co2, hO2⟩, hS2, -⟩, -⟩ := hM3
    refine am_Rq.callV (show decode (am_by 0) 872 = .ok (.invokevirtual 85, 3) by decide +kernel) rfl [] [] rfl rfl (Nat.le_of_ble_eq_true rfl) rfl hO2 rfl (m_thrown (d := 8) hO2 hS2) ?_
    rintro hq _ ⟨e1, rfl⟩
    rw [e1]
    clear e1 hq
    show am_Rq _ 0 875 [some (.ref 0), some (.ref 2), some (.ref 238), some (.ref 246), some (.int (nI (7 * n))), some (.int (nI 0)), some (.int v)] [.int (nI 0)] _ _
    refine am_Rq.blk (is := [(.iload 5, 2)]) (q := (877, [some (.ref 0), some (.ref 2), some (.ref 238), some (.ref 246), some (.int (nI (7 * n))), some (.int (nI 0)), some (.int v)], [.int (nI 0), .int (nI 0)])) (by decide +kernel) rfl ?_
    dsimp only
    refine am_Rq.if2T (t := 882) (show decode (am_by 0) 877 = .ok (.if_icmp .eq 5, 3) by decide +kernel) (by decide) (rfl) ?_
    refine am_Rq.blk (is := [(.iload 5, 2)]) (q := (884, [some (.ref 0), some (.ref 2), some (.ref 238), some (.ref 246), some (.int (nI (7 * n))), some (.int (nI 0)), some (.int v)], [.int (nI 0)])) (by decide +kernel) rfl ?_
    dsimp only
    refine am_Rq.if1F (show decode (am_by 0) 884 = .ok (.ifCond .ne 15, 3) by decide +kernel) (by decide) (rfl) ?_
    refine am_Rq.blk (is := [(.aload_n 3, 1), (.iconst 0, 1)]) (q := (889, [some (.ref 0), some (.ref 2), some (.ref 238), some (.ref 246), some (.int (nI (7 * n))), some (.int (nI 0)), some (.int v)], [.int (nI 0), .ref 246])) (by decide +kernel) rfl ?_
    dsimp only
    refine am_Rq.lal (k := 0) (show decode (am_by 0) 889 = .ok (.laload, 1) by decide +kernel) hU2 (by omega) (by omega) ?_
    refine am_Rq.blk (is := [(.iload 6, 2)]) (q := (892, [some (.ref 0), some (.ref 2), some (.ref 238), some (.ref 246), some (.int (nI (7 * n))), some (.int (nI 0)), some (.int v)], [.int v, .long ((va_up ou 0 v.toInt64) 0)])) (by decide +kernel) rfl ?_
    dsimp only
    rw [va_up_self]
    refine am_Rq.blk (is := [(.i2l, 1), (.lcmp, 1)]) (q := (894, [some (.ref 0), some (.ref 2), some (.ref 238), some (.ref 246), some (.int (nI (7 * n))), some (.int (nI 0)), some (.int v)], [.int (lg_cmp v.toInt64 v.toInt64)])) (by decide +kernel) rfl ?_
    dsimp only
    refine am_Rq.if1T (t := 899) (show decode (am_by 0) 894 = .ok (.ifCond .eq 5, 3) by decide +kernel) (by decide) (by rw [nm_ceq]; exact decide_eq_true rfl) ?_
    refine am_Rq.blk (is := [(.goto 525, 3)]) (q := (1424, [some (.ref 0), some (.ref 2), some (.ref 238), some (.ref 246), some (.int (nI (7 * n))), some (.int (nI 0)), some (.int v)], [])) (by decide +kernel) rfl ?_
    dsimp only
    refine am_Rq.blk (is := [(.iinc 4 7, 3)]) (q := (1427, [some (.ref 0), some (.ref 2), some (.ref 238), some (.ref 246), some (.int ((nI (7 * n)) + (nI 7))), some (.int (nI 0)), some (.int v)], [])) (by decide +kernel) rfl ?_
    dsimp only
    rw [show (nI (7 * n)) + (nI 7) = nI ((7 * n) + 7) from nI_add _ _]
    refine am_Rq.blk (is := [(.goto (-1404), 3)]) (q := (23, [some (.ref 0), some (.ref 2), some (.ref 238), some (.ref 246), some (.int (nI ((7 * n) + 7))), some (.int (nI 0)), some (.int v)], [])) (by decide +kernel) rfl ?_
    dsimp only
    rw [show 7 * n + 7 = 7 * (n + 1) by omega]
    exact ih _ _ _ ⟨s1, f2, kn1, nx1, ks1, hs2, 0, h02, hC2, hM2, ⟨_, hU2⟩, hR2, by rw [hf2.1, hf1.1]; omega, by rw [hf2.1, hf1.1]; omega, by rw [hf2.2.1, hf1.2.1]; omega⟩
  ·
    simp only [List.mem_cons, Prod.mk.injEq, List.not_mem_nil, or_false] at hin
    rcases hin with ⟨rfl, rfl⟩
    refine am_Rq.blk (is := [(.aload_n 1, 1), (.aload_n 0, 1), (.iload 4, 2), (.iconst 1, 1), (.iadd, 1)]) (q := (852, [some (.ref 0), some (.ref 2), some (.ref 238), some (.ref 246), some (.int (nI (7 * n))), z5, z6], [.int ((nI (7 * n)) + (nI 1)), .ref 0, .ref 2])) (by decide +kernel) rfl ?_
    dsimp only
    rw [show (nI (7 * n)) + (nI 1) = nI ((7 * n) + 1) from nI_add _ _]
    refine am_Rq.ial (k := (7 * n) + 1) (show decode (am_by 0) 852 = .ok (.iaload, 1) by decide +kernel) h0 (by omega) (by omega) ?_
    refine am_Rq.blk (is := [(.aload_n 3, 1)]) (q := (854, [some (.ref 0), some (.ref 2), some (.ref 238), some (.ref 246), some (.int (nI (7 * n))), z5, z6], [.ref 246, .int (xs ((7 * n) + 1)), .ref 2])) (by decide +kernel) rfl ?_
    dsimp only
    refine am_Rq.callS (show decode (am_by 0) 854 = .ok (.invokestatic 116, 3) by decide +kernel) rfl [.ref 2, .int (xs ((7 * n) + 1)), .ref 246] [] rfl rfl (Nat.le_of_ble_eq_true rfl) rfl rfl (w_vested_no2 hC hU hc) ?_
    rintro hp1 _ ⟨rfl, he1⟩
    have hk : ∀ a, a < 247 → hp1[a]? = hp[a]? := fun a ha => by rw [he1]; exact List.getElem?_append_left (by omega)
    have hl1 : hp1.length = hp.length + 1 := by rw [he1]; exact ap_len rfl
    have ht1 : am_tot hp1 = am_tot hp + 6 := by rw [he1]; exact c_exT _ _
    have h01 := (hk 0 (by omega)).trans h0
    have hU1 := (hk 246 (by omega)).trans hU
    have hM1 := hM.kept (fun a a1 a2 => hk a (by omega))
    have hC1 := hC.kept (fun a a1 a2 => hk a (by omega))
    have hM0 := hM1
    obtain ⟨⟨⟨co1, hO1⟩, -⟩, -⟩ := hM0
    show am_Rq _ 0 857 [some (.ref 0), some (.ref 2), some (.ref 238), some (.ref 246), some (.int (nI (7 * n))), z5, z6] [.int (nI 1)] _ _
    refine am_Rq.blk (is := [(.istore 5, 2), (.aload_n 2, 1), (.aload_n 0, 1), (.iload 4, 2), (.iconst 1, 1), (.iadd, 1)]) (q := (865, [some (.ref 0), some (.ref 2), some (.ref 238), some (.ref 246), some (.int (nI (7 * n))), some (.int (nI 1)), z6], [.int ((nI (7 * n)) + (nI 1)), .ref 0, .ref 238])) (by decide +kernel) rfl ?_
    dsimp only
    rw [show (nI (7 * n)) + (nI 1) = nI ((7 * n) + 1) from nI_add _ _]
    refine am_Rq.ial (k := (7 * n) + 1) (show decode (am_by 0) 865 = .ok (.iaload, 1) by decide +kernel) h01 (by omega) (by omega) ?_
    refine am_Rq.callV (show decode (am_by 0) 866 = .ok (.invokevirtual 118, 3) by decide +kernel) rfl [.int (xs ((7 * n) + 1))] [] rfl rfl (Nat.le_of_ble_eq_true rfl) rfl hO1 rfl (hm hp1 th hM1) ?_
    rintro hp2 _ ⟨rfl, hM2, hf2⟩
    have h02 := (hf2.2.2 0 (fun q => by omega)).trans h01
    have hU2 := (hf2.2.2 246 (fun q => by omega)).trans hU1
    have hC2 := hC1.kept (fun a a1 a2 => hf2.2.2 a (fun q => by omega))
    show am_Rq _ 0 869 [some (.ref 0), some (.ref 2), some (.ref 238), some (.ref 246), some (.int (nI (7 * n))), some (.int (nI 1)), z6] [.int (nI 0)] _ _
    refine am_Rq.blk (is := [(.istore 6, 2), (.aload_n 2, 1)]) (q := (872, [some (.ref 0), some (.ref 2), some (.ref 238), some (.ref 246), some (.int (nI (7 * n))), some (.int (nI 1)), some (.int (nI 0))], [.ref 238])) (by decide +kernel) rfl ?_
    dsimp only
    have hM3 := hM2
    obtain ⟨⟨⟨co2, hO2⟩, hS2, -⟩, -⟩ := hM3
    refine am_Rq.callV (show decode (am_by 0) 872 = .ok (.invokevirtual 85, 3) by decide +kernel) rfl [] [] rfl rfl (Nat.le_of_ble_eq_true rfl) rfl hO2 rfl (m_thrown (d := 8) hO2 hS2) ?_
    rintro hq _ ⟨e1, rfl⟩
    rw [e1]
    clear e1 hq
    show am_Rq _ 0 875 [some (.ref 0), some (.ref 2), some (.ref 238), some (.ref 246), some (.int (nI (7 * n))), some (.int (nI 1)), some (.int (nI 0))] [.int (nI 1)] _ _
    refine am_Rq.blk (is := [(.iload 5, 2)]) (q := (877, [some (.ref 0), some (.ref 2), some (.ref 238), some (.ref 246), some (.int (nI (7 * n))), some (.int (nI 1)), some (.int (nI 0))], [.int (nI 1), .int (nI 1)])) (by decide +kernel) rfl ?_
    dsimp only
    refine am_Rq.if2T (t := 882) (show decode (am_by 0) 877 = .ok (.if_icmp .eq 5, 3) by decide +kernel) (by decide) (rfl) ?_
    refine am_Rq.blk (is := [(.iload 5, 2)]) (q := (884, [some (.ref 0), some (.ref 2), some (.ref 238), some (.ref 246), some (.int (nI (7 * n))), some (.int (nI 1)), some (.int (nI 0))], [.int (nI 1)])) (by decide +kernel) rfl ?_
    dsimp only
    refine am_Rq.if1T (t := 899) (show decode (am_by 0) 884 = .ok (.ifCond .ne 15, 3) by decide +kernel) (by decide) (rfl) ?_
    refine am_Rq.blk (is := [(.goto 525, 3)]) (q := (1424, [some (.ref 0), some (.ref 2), some (.ref 238), some (.ref 246), some (.int (nI (7 * n))), some (.int (nI 1)), some (.int (nI 0))], [])) (by decide +kernel) rfl ?_
    dsimp only
    refine am_Rq.blk (is := [(.iinc 4 7, 3)]) (q := (1427, [some (.ref 0), some (.ref 2), some (.ref 238), some (.ref 246), some (.int ((nI (7 * n)) + (nI 7))), some (.int (nI 1)), some (.int (nI 0))], [])) (by decide +kernel) rfl ?_
    dsimp only
    rw [show (nI (7 * n)) + (nI 7) = nI ((7 * n) + 7) from nI_add _ _]
    refine am_Rq.blk (is := [(.goto (-1404), 3)]) (q := (23, [some (.ref 0), some (.ref 2), some (.ref 238), some (.ref 246), some (.int (nI ((7 * n) + 7))), some (.int (nI 1)), some (.int (nI 0))], [])) (by decide +kernel) rfl ?_
    dsimp only
    rw [show 7 * n + 7 = 7 * (n + 1) by omega]
    exact ih _ _ _ ⟨s, f, kn, nx, ks, hs, 1, h02, hC2, hM2, ⟨_, hU2⟩, hR.more, by rw [hf2.1, hl1]; omega, by rw [hf2.1, hl1]; omega, by rw [hf2.2.1, ht1]; omega⟩
theorem l_held {L n : Nat} {xs : Nat → Int32} (hL : L ≤ 3584) (hn : 7 * n + 7 ≤ L) {hp : am_H} (h : l_St L xs hp n) {Q : am_H → am_R → Prop} (ih : ∀ hp1 z5 z6, l_St L xs hp1 (n + 1) → am_Rq 9 0 23 [some (.ref 0), some (.ref 2), some (.ref 238), some (.ref 246), some (.int (nI (7 * (n + 1)))), z5, z6] [] hp1 Q) {z5 z6 : Option Value} : am_Rq 9 0 915 [some (.ref 0), some (.ref 2), some (.ref 238), some (.ref 246), some (.int (nI (7 * n))), z5, z6] [] hp Q := by
  obtain ⟨s, f, kn, nx, ks, hs, th, h0, hC, hM, ⟨ou, hU⟩, hR, l1, l2, l3⟩ := h
  have hp9 := p_held hR (by omega) (xs (7 * n + 1)) (xs (7 * n + 2))
  rcases hp9 with ⟨v, s1, kn1, nx1, ks1, hc, hm⟩ | ⟨k, c, hin, hc, hm⟩
  ·
    refine am_Rq.blk (is := [(.aload_n 1, 1), (.aload_n 0, 1), (.iload 4, 2), (.iconst 1, 1), (.iadd, 1)]) (q := (921, [some (.ref 0), some (.ref 2), some (.ref 238), some (.ref 246), some (.int (nI (7 * n))), z5, z6], [.int ((nI (7 * n)) + (nI 1)), .ref 0, .ref 2])) (by decide +kernel) rfl ?_
    dsimp only
    rw [show (nI (7 * n)) + (nI 1) = nI ((7 * n) + 1) from nI_add _ _]
    refine am_Rq.ial (k := (7 * n) + 1) (show decode (am_by 0) 921 = .ok (.iaload, 1) by decide +kernel) h0 (by omega) (by omega) ?_
    refine am_Rq.blk (is := [(.aload_n 0, 1), (.iload 4, 2), (.iconst 2, 1), (.iadd, 1)]) (q := (927, [some (.ref 0), some (.ref 2), some (.ref 238), some (.ref 246), some (.int (nI (7 * n))), z5, z6], [.int ((nI (7 * n)) + (nI 2)), .ref 0, .int (xs ((7 * n) + 1)), .ref 2])) (by decide +kernel) rfl ?_
    dsimp only
    rw [show (nI (7 * n)) + (nI 2) = nI ((7 * n) + 2) from nI_add _ _]
    refine am_Rq.ial (k := (7 * n) + 2) (show decode (am_by 0) 927 = .ok (.iaload, 1) by decide +kernel) h0 (by omega) (by omega) ?_
    refine am_Rq.blk (is := [(.aload_n 3, 1)]) (q := (929, [some (.ref 0), some (.ref 2), some (.ref 238), some (.ref 246), some (.int (nI (7 * n))), z5, z6], [.ref 246, .int (xs ((7 * n) + 2)), .int (xs ((7 * n) + 1)), .ref 2])) (by decide +kernel) rfl ?_
    dsimp only
    refine am_Rq.callS (show decode (am_by 0) 929 = .ok (.invokestatic 123, 3) by decide +kernel) rfl [.ref 2, .int (xs ((7 * n) + 1)), .int (xs ((7 * n) + 2)), .ref 246] [] rfl rfl (Nat.le_of_ble_eq_true rfl) rfl rfl (w_held hC hU hc) ?_
    rintro hp1 _ ⟨rfl, hC1, hU1, hf1⟩
    have h01 := (hf1.2.2 0 (fun q => by omega)).trans h0
    have hM1 := hM.kept (fun a a1 a2 => hf1.2.2 a (fun q => by omega))
    have hM0 := hM1
    obtain ⟨⟨⟨co1, hO1⟩, -⟩, -⟩ := hM0
    show am_Rq _ 0 932 [some (.ref 0), some (.ref 2), some (.ref 238), some (.ref 246), some (.int (nI (7 * n))), z5, z6] [.int (nI 0)] _ _
    refine am_Rq.blk (is := [(.istore 5, 2), (.aload_n 2, 1), (.aload_n 0, 1), (.iload 4, 2), (.iconst 1, 1), (.iadd, 1)]) (q := (940, [some (.ref 0), some (.ref 2), some (.ref 238), some (.ref 246), some (.int (nI (7 * n))), some (.int (nI 0)), z6], [.int ((nI (7 * n)) + (nI 1)), .ref 0, .ref 238])) (by decide +kernel) rfl ?_
    dsimp only
    rw [show (nI (7 * n)) + (nI 1) = nI ((7 * n) + 1) from nI_add _ _]
    refine am_Rq.ial (k := (7 * n) + 1) (show decode (am_by 0) 940 = .ok (.iaload, 1) by decide +kernel) h01 (by omega) (by omega) ?_
    refine am_Rq.blk (is := [(.aload_n 0, 1), (.iload 4, 2), (.iconst 2, 1), (.iadd, 1)]) (q := (946, [some (.ref 0), some (.ref 2), some (.ref 238), some (.ref 246), some (.int (nI (7 * n))), some (.int (nI 0)), z6], [.int ((nI (7 * n)) + (nI 2)), .ref 0, .int (xs ((7 * n) + 1)), .ref 238])) (by decide +kernel) rfl ?_
    dsimp only
    rw [show (nI (7 * n)) + (nI 2) = nI ((7 * n) + 2) from nI_add _ _]
    refine am_Rq.ial (k := (7 * n) + 2) (show decode (am_by 0) 946 = .ok (.iaload, 1) by decide +kernel) h01 (by omega) (by omega) ?_
    refine am_Rq.callV (show decode (am_by 0) 947 = .ok (.invokevirtual 125, 3) by decide +kernel) rfl [.int (xs ((7 * n) + 1)), .int (xs ((7 * n) + 2))] [] rfl rfl (Nat.le_of_ble_eq_true rfl) rfl hO1 rfl (hm hp1 th hM1) ?_
    rintro hp2 _ ⟨rfl, ⟨f2, hM2, hs2, hR2⟩, hf2⟩
    have h02 := (hf2.2.2 0 (fun q => by omega)).trans h01
    have hU2 := (hf2.2.2 246 (fun q => by omega)).trans hU1
    have hC2 := hC1.kept (fun a a1 a2 => hf2.2.2 a (fun q => by omega))
    show am_Rq _ 0 950 [some (.ref 0), some (.ref 2), some (.ref 238), some (.ref 246), some (.int (nI (7 * n))), some (.int (nI 0)), z6] [.int v] _ _
    refine am_Rq.blk (is := [(.istore 6, 2), (.aload_n 2, 1)]) (q := (953, [some (.ref 0), some (.ref 2), some (.ref 238), some (.ref 246), some (.int (nI (7 * n))), some (.int (nI 0)), some (.int v)], [.ref 238])) (by decide +kernel) rfl ?_
    dsimp only
    have hM3 := hM2
    obtain ⟨⟨⟨co2, hO2⟩, hS2, -⟩, -⟩ := hM3
    refine am_Rq.callV (show decode (am_by 0) 953 = .ok (.invokevirtual 85, 3) by decide +kernel) rfl [] [] rfl rfl (Nat.le_of_ble_eq_true rfl) rfl hO2 rfl (m_thrown (d := 8) hO2 hS2) ?_
    rintro hq _ ⟨e1, rfl⟩
    rw [e1]
    clear e1 hq
    show am_Rq _ 0 956 [some (.ref 0), some (.ref 2), some (.ref 238), some (.ref 246), some (.int (nI (7 * n))), some (.int (nI 0)), some (.int v)] [.int (nI 0)] _ _
    refine am_Rq.blk (is := [(.iload 5, 2)]) (q := (958, [some (.ref 0), some (.ref 2), some (.ref 238), some (.ref 246), some (.int (nI (7 * n))), some (.int (nI 0)), some (.int v)], [.int (nI 0), .int (nI 0)])) (by decide +kernel) rfl ?_
    dsimp only
    refine am_Rq.if2T (t := 963) (show decode (am_by 0) 958 = .ok (.if_icmp .eq 5, 3) by decide +kernel) (by decide) (rfl) ?_
    refine am_Rq.blk (is := [(.iload 5, 2)]) (q := (965, [some (.ref 0), some (.ref 2), some (.ref 238), some (.ref 246), some (.int (nI (7 * n))), some (.int (nI 0)), some (.int v)], [.int (nI 0)])) (by decide +kernel) rfl ?_
    dsimp only
    refine am_Rq.if1F (show decode (am_by 0) 965 = .ok (.ifCond .ne 15, 3) by decide +kernel) (by decide) (rfl) ?_
    refine am_Rq.blk (is := [(.aload_n 3, 1), (.iconst 0, 1)]) (q := (970, [some (.ref 0), some (.ref 2), some (.ref 238), some (.ref 246), some (.int (nI (7 * n))), some (.int (nI 0)), some (.int v)], [.int (nI 0), .ref 246])) (by decide +kernel) rfl ?_
    dsimp only
    refine am_Rq.lal (k := 0) (show decode (am_by 0) 970 = .ok (.laload, 1) by decide +kernel) hU2 (by omega) (by omega) ?_
    refine am_Rq.blk (is := [(.iload 6, 2)]) (q := (973, [some (.ref 0), some (.ref 2), some (.ref 238), some (.ref 246), some (.int (nI (7 * n))), some (.int (nI 0)), some (.int v)], [.int v, .long ((va_up ou 0 v.toInt64) 0)])) (by decide +kernel) rfl ?_
    dsimp only
    rw [va_up_self]
    refine am_Rq.blk (is := [(.i2l, 1), (.lcmp, 1)]) (q := (975, [some (.ref 0), some (.ref 2), some (.ref 238), some (.ref 246), some (.int (nI (7 * n))), some (.int (nI 0)), some (.int v)], [.int (lg_cmp v.toInt64 v.toInt64)])) (by decide +kernel) rfl ?_
    dsimp only
    refine am_Rq.if1T (t := 980) (show decode (am_by 0) 975 = .ok (.ifCond .eq 5, 3) by decide +kernel) (by decide) (by rw [nm_ceq]; exact decide_eq_true rfl) ?_
    refine am_Rq.blk (is := [(.goto 444, 3)]) (q := (1424, [some (.ref 0), some (.ref 2), some (.ref 238), some (.ref 246), some (.int (nI (7 * n))), some (.int (nI 0)), some (.int v)], [])) (by decide +kernel) rfl ?_
    dsimp only
    refine am_Rq.blk (is := [(.iinc 4 7, 3)]) (q := (1427, [some (.ref 0), some (.ref 2), some (.ref 238), some (.ref 246), some (.int ((nI (7 * n)) + (nI 7))), some (.int (nI 0)), some (.int v)], [])) (by decide +kernel) rfl ?_
    dsimp only
    rw [show (nI (7 * n)) + (nI 7) = nI ((7 * n) + 7) from nI_add _ _]
    refine am_Rq.blk (is := [(.goto (-1404), 3)]) (q := (23, [some (.ref 0), some (.ref 2), some (.ref 238), some (.ref 246), some (.int (nI ((7 * n) + 7))), some (.int (nI 0)), some (.int v)], [])) (by decide +kernel) rfl ?_
    dsimp only
    rw [show 7 * n + 7 = 7 * (n + 1) by omega]
    exact ih _ _ _ ⟨s1, f2, kn1, nx1, ks1, hs2, 0, h02, hC2, hM2, ⟨_, hU2⟩, hR2, by rw [hf2.1, hf1.1]; omega, by rw [hf2.1, hf1.1]; omega, by rw [hf2.2.1, hf1.2.1]; omega⟩
  ·
    simp only [List.mem_cons, Prod.mk.injEq, List.not_mem_nil, or_false] at hin
    rcases hin with ⟨rfl, rfl⟩
    refine am_Rq.blk (is := [(.aload_n 1, 1), (.aload_n 0, 1), (.iload 4, 2), (.iconst 1, 1), (.iadd, 1)]) (q := (921, [some (.ref 0), some (.ref 2), some (.ref 238), some (.ref 246), some (.int (nI (7 * n))), z5, z6], [.int ((nI (7 * n)) + (nI 1)), .ref 0, .ref 2])) (by decide +kernel) rfl ?_
    dsimp only
    rw [show (nI (7 * n)) + (nI 1) = nI ((7 * n) + 1) from nI_add _ _]
    refine am_Rq.ial (k := (7 * n) + 1) (show decode (am_by 0) 921 = .ok (.iaload, 1) by decide +kernel) h0 (by omega) (by omega) ?_
    refine am_Rq.blk (is := [(.aload_n 0, 1), (.iload 4, 2), (.iconst 2, 1), (.iadd, 1)]) (q := (927, [some (.ref 0), some (.ref 2), some (.ref 238), some (.ref 246), some (.int (nI (7 * n))), z5, z6], [.int ((nI (7 * n)) + (nI 2)), .ref 0, .int (xs ((7 * n) + 1)), .ref 2])) (by decide +kernel) rfl ?_
    dsimp only
    rw [show (nI (7 * n)) + (nI 2) = nI ((7 * n) + 2) from nI_add _ _]
    refine am_Rq.ial (k := (7 * n) + 2) (show decode (am_by 0) 927 = .ok (.iaload, 1) by decide +kernel) h0 (by omega) (by omega) ?_
    refine am_Rq.blk (is := [(.aload_n 3, 1)]) (q := (929, [some (.ref 0), some (.ref 2), some (.ref 238), some (.ref 246), some (.int (nI (7 * n))), z5, z6], [.ref 246, .int (xs ((7 * n) + 2)), .int (xs ((7 * n) + 1)), .ref 2])) (by decide +kernel) rfl ?_
    dsimp only
    refine am_Rq.callS (show decode (am_by 0) 929 = .ok (.invokestatic 123, 3) by decide +kernel) rfl [.ref 2, .int (xs ((7 * n) + 1)), .int (xs ((7 * n) + 2)), .ref 246] [] rfl rfl (Nat.le_of_ble_eq_true rfl) rfl rfl (w_held_no2 hC hU hc) ?_
    rintro hp1 _ ⟨rfl, he1⟩
    have hk : ∀ a, a < 247 → hp1[a]? = hp[a]? := fun a ha => by rw [he1]; exact List.getElem?_append_left (by omega)
    have hl1 : hp1.length = hp.length + 1 := by rw [he1]; exact ap_len rfl
    have ht1 : am_tot hp1 = am_tot hp + 6 := by rw [he1]; exact c_exT _ _
    have h01 := (hk 0 (by omega)).trans h0
    have hU1 := (hk 246 (by omega)).trans hU
    have hM1 := hM.kept (fun a a1 a2 => hk a (by omega))
    have hC1 := hC.kept (fun a a1 a2 => hk a (by omega))
    have hM0 := hM1
    obtain ⟨⟨⟨co1, hO1⟩, -⟩, -⟩ := hM0
    show am_Rq _ 0 932 [some (.ref 0), some (.ref 2), some (.ref 238), some (.ref 246), some (.int (nI (7 * n))), z5, z6] [.int (nI 1)] _ _
    refine am_Rq.blk (is := [(.istore 5, 2), (.aload_n 2, 1), (.aload_n 0, 1), (.iload 4, 2), (.iconst 1, 1), (.iadd, 1)]) (q := (940, [some (.ref 0), some (.ref 2), some (.ref 238), some (.ref 246), some (.int (nI (7 * n))), some (.int (nI 1)), z6], [.int ((nI (7 * n)) + (nI 1)), .ref 0, .ref 238])) (by decide +kernel) rfl ?_
    dsimp only
    rw [show (nI (7 * n)) + (nI 1) = nI ((7 * n) + 1) from nI_add _ _]
    refine am_Rq.ial (k := (7 * n) + 1) (show decode (am_by 0) 940 = .ok (.iaload, 1) by decide +kernel) h01 (by omega) (by omega) ?_
    refine am_Rq.blk (is := [(.aload_n 0, 1), (.iload 4, 2), (.iconst 2, 1), (.iadd, 1)]) (q := (946, [some (.ref 0), some (.ref 2), some (.ref 238), some (.ref 246), some (.int (nI (7 * n))), some (.int (nI 1)), z6], [.int ((nI (7 * n)) + (nI 2)), .ref 0, .int (xs ((7 * n) + 1)), .ref 238])) (by decide +kernel) rfl ?_
    dsimp only
    rw [show (nI (7 * n)) + (nI 2) = nI ((7 * n) + 2) from nI_add _ _]
    refine am_Rq.ial (k := (7 * n) + 2) (show decode (am_by 0) 946 = .ok (.iaload, 1) by decide +kernel) h01 (by omega) (by omega) ?_
    refine am_Rq.callV (show decode (am_by 0) 947 = .ok (.invokevirtual 125, 3) by decide +kernel) rfl [.int (xs ((7 * n) + 1)), .int (xs ((7 * n) + 2))] [] rfl rfl (Nat.le_of_ble_eq_true rfl) rfl hO1 rfl (hm hp1 th hM1) ?_
    rintro hp2 _ ⟨rfl, hM2, hf2⟩
    have h02 := (hf2.2.2 0 (fun q => by omega)).trans h01
    have hU2 := (hf2.2.2 246 (fun q => by omega)).trans hU1
    have hC2 := hC1.kept (fun a a1 a2 => hf2.2.2 a (fun q => by omega))
    show am_Rq _ 0 950 [some (.ref 0), some (.ref 2), some (.ref 238), some (.ref 246), some (.int (nI (7 * n))), some (.int (nI 1)), z6] [.int (nI 0)] _ _
    refine am_Rq.blk (is := [(.istore 6, 2), (.aload_n 2, 1)]) (q := (953, [some (.ref 0), some (.ref 2), some (.ref 238), some (.ref 246), some (.int (nI (7 * n))), some (.int (nI 1)), some (.int (nI 0))], [.ref 238])) (by decide +kernel) rfl ?_
    dsimp only
    have hM3 := hM2
    obtain ⟨⟨⟨co2, hO2⟩, hS2, -⟩, -⟩ := hM3
    refine am_Rq.callV (show decode (am_by 0) 953 = .ok (.invokevirtual 85, 3) by decide +kernel) rfl [] [] rfl rfl (Nat.le_of_ble_eq_true rfl) rfl hO2 rfl (m_thrown (d := 8) hO2 hS2) ?_
    rintro hq _ ⟨e1, rfl⟩
    rw [e1]
    clear e1 hq
    show am_Rq _ 0 956 [some (.ref 0), some (.ref 2), some (.ref 238), some (.ref 246), some (.int (nI (7 * n))), some (.int (nI 1)), some (.int (nI 0))] [.int (nI 1)] _ _
    refine am_Rq.blk (is := [(.iload 5, 2)]) (q := (958, [some (.ref 0), some (.ref 2), some (.ref 238), some (.ref 246), some (.int (nI (7 * n))), some (.int (nI 1)), some (.int (nI 0))], [.int (nI 1), .int (nI 1)])) (by decide +kernel) rfl ?_
    dsimp only
    refine am_Rq.if2T (t := 963) (show decode (am_by 0) 958 = .ok (.if_icmp .eq 5, 3) by decide +kernel) (by decide) (rfl) ?_
    refine am_Rq.blk (is := [(.iload 5, 2)]) (q := (965, [some (.ref 0), some (.ref 2), some (.ref 238), some (.ref 246), some (.int (nI (7 * n))), some (.int (nI 1)), some (.int (nI 0))], [.int (nI 1)])) (by decide +kernel) rfl ?_
    dsimp only
    refine am_Rq.if1T (t := 980) (show decode (am_by 0) 965 = .ok (.ifCond .ne 15, 3) by decide +kernel) (by decide) (rfl) ?_
    refine am_Rq.blk (is := [(.goto 444, 3)]) (q := (1424, [some (.ref 0), some (.ref 2), some (.ref 238), some (.ref 246), some (.int (nI (7 * n))), some (.int (nI 1)), some (.int (nI 0))], [])) (by decide +kernel) rfl ?_
    dsimp only
    refine am_Rq.blk (is := [(.iinc 4 7, 3)]) (q := (1427, [some (.ref 0), some (.ref 2), some (.ref 238), some (.ref 246), some (.int ((nI (7 * n)) + (nI 7))), some (.int (nI 1)), some (.int (nI 0))], [])) (by decide +kernel) rfl ?_
    dsimp only
    rw [show (nI (7 * n)) + (nI 7) = nI ((7 * n) + 7) from nI_add _ _]
    refine am_Rq.blk (is := [(.goto (-1404), 3)]) (q := (23, [some (.ref 0), some (.ref 2), some (.ref 238), some (.ref 246), some (.int (nI ((7 * n) + 7))), some (.int (nI 1)), some (.int (nI 0))], [])) (by decide +kernel) rfl ?_
    dsimp only
    rw [show 7 * n + 7 = 7 * (n + 1) by omega]
    exact ih _ _ _ ⟨s, f, kn, nx, ks, hs, 1, h02, hC2, hM2, ⟨_, hU2⟩, hR.more, by rw [hf2.1, hl1]; omega, by rw [hf2.1, hl1]; omega, by rw [hf2.2.1, ht1]; omega⟩
theorem l_inIssue {L n : Nat} {xs : Nat → Int32} (hL : L ≤ 3584) (hn : 7 * n + 7 ≤ L) {hp : am_H} (h : l_St L xs hp n) {Q : am_H → am_R → Prop} (ih : ∀ hp1 z5 z6, l_St L xs hp1 (n + 1) → am_Rq 9 0 23 [some (.ref 0), some (.ref 2), some (.ref 238), some (.ref 246), some (.int (nI (7 * (n + 1)))), z5, z6] [] hp1 Q) {z5 z6 : Option Value} : am_Rq 9 0 983 [some (.ref 0), some (.ref 2), some (.ref 238), some (.ref 246), some (.int (nI (7 * n))), z5, z6] [] hp Q := by
  obtain ⟨s, f, kn, nx, ks, hs, th, h0, hC, hM, ⟨ou, hU⟩, hR, l1, l2, l3⟩ := h
  have hp9 := p_inIssue hR (by omega) (xs (7 * n + 1))
  rcases hp9 with ⟨v, s1, kn1, nx1, ks1, hc, hm⟩ | ⟨k, c, hin, hc, hm⟩
  ·
    refine am_Rq.blk (is := [(.aload_n 1, 1), (.aload_n 0, 1), (.iload 4, 2), (.iconst 1, 1), (.iadd, 1)]) (q := (989, [some (.ref 0), some (.ref 2), some (.ref 238), some (.ref 246), some (.int (nI (7 * n))), z5, z6], [.int ((nI (7 * n)) + (nI 1)), .ref 0, .ref 2])) (by decide +kernel) rfl ?_
    dsimp only
    rw [show (nI (7 * n)) + (nI 1) = nI ((7 * n) + 1) from nI_add _ _]
    refine am_Rq.ial (k := (7 * n) + 1) (show decode (am_by 0) 989 = .ok (.iaload, 1) by decide +kernel) h0 (by omega) (by omega) ?_
    refine am_Rq.blk (is := [(.aload_n 3, 1)]) (q := (991, [some (.ref 0), some (.ref 2), some (.ref 238), some (.ref 246), some (.int (nI (7 * n))), z5, z6], [.ref 246, .int (xs ((7 * n) + 1)), .ref 2])) (by decide +kernel) rfl ?_
    dsimp only
    refine am_Rq.callS (show decode (am_by 0) 991 = .ok (.invokestatic 126, 3) by decide +kernel) rfl [.ref 2, .int (xs ((7 * n) + 1)), .ref 246] [] rfl rfl (Nat.le_of_ble_eq_true rfl) rfl rfl (w_inIssue hC hU hc) ?_
    rintro hp1 _ ⟨rfl, hC1, hU1, hf1⟩
    have h01 := (hf1.2.2 0 (fun q => by omega)).trans h0
    have hM1 := hM.kept (fun a a1 a2 => hf1.2.2 a (fun q => by omega))
    have hM0 := hM1
    obtain ⟨⟨⟨co1, hO1⟩, -⟩, -⟩ := hM0
    show am_Rq _ 0 994 [some (.ref 0), some (.ref 2), some (.ref 238), some (.ref 246), some (.int (nI (7 * n))), z5, z6] [.int (nI 0)] _ _
    refine am_Rq.blk (is := [(.istore 5, 2), (.aload_n 2, 1), (.aload_n 0, 1), (.iload 4, 2), (.iconst 1, 1), (.iadd, 1)]) (q := (1002, [some (.ref 0), some (.ref 2), some (.ref 238), some (.ref 246), some (.int (nI (7 * n))), some (.int (nI 0)), z6], [.int ((nI (7 * n)) + (nI 1)), .ref 0, .ref 238])) (by decide +kernel) rfl ?_
    dsimp only
    rw [show (nI (7 * n)) + (nI 1) = nI ((7 * n) + 1) from nI_add _ _]
    refine am_Rq.ial (k := (7 * n) + 1) (show decode (am_by 0) 1002 = .ok (.iaload, 1) by decide +kernel) h01 (by omega) (by omega) ?_
    refine am_Rq.callV (show decode (am_by 0) 1003 = .ok (.invokevirtual 128, 3) by decide +kernel) rfl [.int (xs ((7 * n) + 1))] [] rfl rfl (Nat.le_of_ble_eq_true rfl) rfl hO1 rfl (hm hp1 th hM1) ?_
    rintro hp2 _ ⟨rfl, ⟨f2, hM2, hs2, hR2⟩, hf2⟩
    have h02 := (hf2.2.2 0 (fun q => by omega)).trans h01
    have hU2 := (hf2.2.2 246 (fun q => by omega)).trans hU1
    have hC2 := hC1.kept (fun a a1 a2 => hf2.2.2 a (fun q => by omega))
    show am_Rq _ 0 1006 [some (.ref 0), some (.ref 2), some (.ref 238), some (.ref 246), some (.int (nI (7 * n))), some (.int (nI 0)), z6] [.int v] _ _
    refine am_Rq.blk (is := [(.istore 6, 2), (.aload_n 2, 1)]) (q := (1009, [some (.ref 0), some (.ref 2), some (.ref 238), some (.ref 246), some (.int (nI (7 * n))), some (.int (nI 0)), some (.int v)], [.ref 238])) (by decide +kernel) rfl ?_
    dsimp only
    have hM3 := hM2
    obtain ⟨⟨⟨co2, hO2⟩, hS2, -⟩, -⟩ := hM3
    refine am_Rq.callV (show decode (am_by 0) 1009 = .ok (.invokevirtual 85, 3) by decide +kernel) rfl [] [] rfl rfl (Nat.le_of_ble_eq_true rfl) rfl hO2 rfl (m_thrown (d := 8) hO2 hS2) ?_
    rintro hq _ ⟨e1, rfl⟩
    rw [e1]
    clear e1 hq
    show am_Rq _ 0 1012 [some (.ref 0), some (.ref 2), some (.ref 238), some (.ref 246), some (.int (nI (7 * n))), some (.int (nI 0)), some (.int v)] [.int (nI 0)] _ _
    refine am_Rq.blk (is := [(.iload 5, 2)]) (q := (1014, [some (.ref 0), some (.ref 2), some (.ref 238), some (.ref 246), some (.int (nI (7 * n))), some (.int (nI 0)), some (.int v)], [.int (nI 0), .int (nI 0)])) (by decide +kernel) rfl ?_
    dsimp only
    refine am_Rq.if2T (t := 1019) (show decode (am_by 0) 1014 = .ok (.if_icmp .eq 5, 3) by decide +kernel) (by decide) (rfl) ?_
    refine am_Rq.blk (is := [(.iload 5, 2)]) (q := (1021, [some (.ref 0), some (.ref 2), some (.ref 238), some (.ref 246), some (.int (nI (7 * n))), some (.int (nI 0)), some (.int v)], [.int (nI 0)])) (by decide +kernel) rfl ?_
    dsimp only
    refine am_Rq.if1F (show decode (am_by 0) 1021 = .ok (.ifCond .ne 15, 3) by decide +kernel) (by decide) (rfl) ?_
    refine am_Rq.blk (is := [(.aload_n 3, 1), (.iconst 0, 1)]) (q := (1026, [some (.ref 0), some (.ref 2), some (.ref 238), some (.ref 246), some (.int (nI (7 * n))), some (.int (nI 0)), some (.int v)], [.int (nI 0), .ref 246])) (by decide +kernel) rfl ?_
    dsimp only
    refine am_Rq.lal (k := 0) (show decode (am_by 0) 1026 = .ok (.laload, 1) by decide +kernel) hU2 (by omega) (by omega) ?_
    refine am_Rq.blk (is := [(.iload 6, 2)]) (q := (1029, [some (.ref 0), some (.ref 2), some (.ref 238), some (.ref 246), some (.int (nI (7 * n))), some (.int (nI 0)), some (.int v)], [.int v, .long ((va_up ou 0 v.toInt64) 0)])) (by decide +kernel) rfl ?_
    dsimp only
    rw [va_up_self]
    refine am_Rq.blk (is := [(.i2l, 1), (.lcmp, 1)]) (q := (1031, [some (.ref 0), some (.ref 2), some (.ref 238), some (.ref 246), some (.int (nI (7 * n))), some (.int (nI 0)), some (.int v)], [.int (lg_cmp v.toInt64 v.toInt64)])) (by decide +kernel) rfl ?_
    dsimp only
    refine am_Rq.if1T (t := 1036) (show decode (am_by 0) 1031 = .ok (.ifCond .eq 5, 3) by decide +kernel) (by decide) (by rw [nm_ceq]; exact decide_eq_true rfl) ?_
    refine am_Rq.blk (is := [(.goto 388, 3)]) (q := (1424, [some (.ref 0), some (.ref 2), some (.ref 238), some (.ref 246), some (.int (nI (7 * n))), some (.int (nI 0)), some (.int v)], [])) (by decide +kernel) rfl ?_
    dsimp only
    refine am_Rq.blk (is := [(.iinc 4 7, 3)]) (q := (1427, [some (.ref 0), some (.ref 2), some (.ref 238), some (.ref 246), some (.int ((nI (7 * n)) + (nI 7))), some (.int (nI 0)), some (.int v)], [])) (by decide +kernel) rfl ?_
    dsimp only
    rw [show (nI (7 * n)) + (nI 7) = nI ((7 * n) + 7) from nI_add _ _]
    refine am_Rq.blk (is := [(.goto (-1404), 3)]) (q := (23, [some (.ref 0), some (.ref 2), some (.ref 238), some (.ref 246), some (.int (nI ((7 * n) + 7))), some (.int (nI 0)), some (.int v)], [])) (by decide +kernel) rfl ?_
    dsimp only
    rw [show 7 * n + 7 = 7 * (n + 1) by omega]
    exact ih _ _ _ ⟨s1, f2, kn1, nx1, ks1, hs2, 0, h02, hC2, hM2, ⟨_, hU2⟩, hR2, by rw [hf2.1, hf1.1]; omega, by rw [hf2.1, hf1.1]; omega, by rw [hf2.2.1, hf1.2.1]; omega⟩
  ·
    simp only [List.mem_cons, Prod.mk.injEq, List.not_mem_nil, or_false] at hin
    rcases hin with ⟨rfl, rfl⟩
    refine am_Rq.blk (is := [(.aload_n 1, 1), (.aload_n 0, 1), (.iload 4, 2), (.iconst 1, 1), (.iadd, 1)]) (q := (989, [some (.ref 0), some (.ref 2), some (.ref 238), some (.ref 246), some (.int (nI (7 * n))), z5, z6], [.int ((nI (7 * n)) + (nI 1)), .ref 0, .ref 2])) (by decide +kernel) rfl ?_
    dsimp only
    rw [show (nI (7 * n)) + (nI 1) = nI ((7 * n) + 1) from nI_add _ _]
    refine am_Rq.ial (k := (7 * n) + 1) (show decode (am_by 0) 989 = .ok (.iaload, 1) by decide +kernel) h0 (by omega) (by omega) ?_
    refine am_Rq.blk (is := [(.aload_n 3, 1)]) (q := (991, [some (.ref 0), some (.ref 2), some (.ref 238), some (.ref 246), some (.int (nI (7 * n))), z5, z6], [.ref 246, .int (xs ((7 * n) + 1)), .ref 2])) (by decide +kernel) rfl ?_
    dsimp only
    refine am_Rq.callS (show decode (am_by 0) 991 = .ok (.invokestatic 126, 3) by decide +kernel) rfl [.ref 2, .int (xs ((7 * n) + 1)), .ref 246] [] rfl rfl (Nat.le_of_ble_eq_true rfl) rfl rfl (w_inIssue_no2 hC hU hc) ?_
    rintro hp1 _ ⟨rfl, he1⟩
    have hk : ∀ a, a < 247 → hp1[a]? = hp[a]? := fun a ha => by rw [he1]; exact List.getElem?_append_left (by omega)
    have hl1 : hp1.length = hp.length + 1 := by rw [he1]; exact ap_len rfl
    have ht1 : am_tot hp1 = am_tot hp + 6 := by rw [he1]; exact c_exT _ _
    have h01 := (hk 0 (by omega)).trans h0
    have hU1 := (hk 246 (by omega)).trans hU
    have hM1 := hM.kept (fun a a1 a2 => hk a (by omega))
    have hC1 := hC.kept (fun a a1 a2 => hk a (by omega))
    have hM0 := hM1
    obtain ⟨⟨⟨co1, hO1⟩, -⟩, -⟩ := hM0
    show am_Rq _ 0 994 [some (.ref 0), some (.ref 2), some (.ref 238), some (.ref 246), some (.int (nI (7 * n))), z5, z6] [.int (nI 1)] _ _
    refine am_Rq.blk (is := [(.istore 5, 2), (.aload_n 2, 1), (.aload_n 0, 1), (.iload 4, 2), (.iconst 1, 1), (.iadd, 1)]) (q := (1002, [some (.ref 0), some (.ref 2), some (.ref 238), some (.ref 246), some (.int (nI (7 * n))), some (.int (nI 1)), z6], [.int ((nI (7 * n)) + (nI 1)), .ref 0, .ref 238])) (by decide +kernel) rfl ?_
    dsimp only
    rw [show (nI (7 * n)) + (nI 1) = nI ((7 * n) + 1) from nI_add _ _]
    refine am_Rq.ial (k := (7 * n) + 1) (show decode (am_by 0) 1002 = .ok (.iaload, 1) by decide +kernel) h01 (by omega) (by omega) ?_
    refine am_Rq.callV (show decode (am_by 0) 1003 = .ok (.invokevirtual 128, 3) by decide +kernel) rfl [.int (xs ((7 * n) + 1))] [] rfl rfl (Nat.le_of_ble_eq_true rfl) rfl hO1 rfl (hm hp1 th hM1) ?_
    rintro hp2 _ ⟨rfl, hM2, hf2⟩
    have h02 := (hf2.2.2 0 (fun q => by omega)).trans h01
    have hU2 := (hf2.2.2 246 (fun q => by omega)).trans hU1
    have hC2 := hC1.kept (fun a a1 a2 => hf2.2.2 a (fun q => by omega))
    show am_Rq _ 0 1006 [some (.ref 0), some (.ref 2), some (.ref 238), some (.ref 246), some (.int (nI (7 * n))), some (.int (nI 1)), z6] [.int (nI 0)] _ _
    refine am_Rq.blk (is := [(.istore 6, 2), (.aload_n 2, 1)]) (q := (1009, [some (.ref 0), some (.ref 2), some (.ref 238), some (.ref 246), some (.int (nI (7 * n))), some (.int (nI 1)), some (.int (nI 0))], [.ref 238])) (by decide +kernel) rfl ?_
    dsimp only
    have hM3 := hM2
    obtain ⟨⟨⟨co2, hO2⟩, hS2, -⟩, -⟩ := hM3
    refine am_Rq.callV (show decode (am_by 0) 1009 = .ok (.invokevirtual 85, 3) by decide +kernel) rfl [] [] rfl rfl (Nat.le_of_ble_eq_true rfl) rfl hO2 rfl (m_thrown (d := 8) hO2 hS2) ?_
    rintro hq _ ⟨e1, rfl⟩
    rw [e1]
    clear e1 hq
    show am_Rq _ 0 1012 [some (.ref 0), some (.ref 2), some (.ref 238), some (.ref 246), some (.int (nI (7 * n))), some (.int (nI 1)), some (.int (nI 0))] [.int (nI 1)] _ _
    refine am_Rq.blk (is := [(.iload 5, 2)]) (q := (1014, [some (.ref 0), some (.ref 2), some (.ref 238), some (.ref 246), some (.int (nI (7 * n))), some (.int (nI 1)), some (.int (nI 0))], [.int (nI 1), .int (nI 1)])) (by decide +kernel) rfl ?_
    dsimp only
    refine am_Rq.if2T (t := 1019) (show decode (am_by 0) 1014 = .ok (.if_icmp .eq 5, 3) by decide +kernel) (by decide) (rfl) ?_
    refine am_Rq.blk (is := [(.iload 5, 2)]) (q := (1021, [some (.ref 0), some (.ref 2), some (.ref 238), some (.ref 246), some (.int (nI (7 * n))), some (.int (nI 1)), some (.int (nI 0))], [.int (nI 1)])) (by decide +kernel) rfl ?_
    dsimp only
    refine am_Rq.if1T (t := 1036) (show decode (am_by 0) 1021 = .ok (.ifCond .ne 15, 3) by decide +kernel) (by decide) (rfl) ?_
    refine am_Rq.blk (is := [(.goto 388, 3)]) (q := (1424, [some (.ref 0), some (.ref 2), some (.ref 238), some (.ref 246), some (.int (nI (7 * n))), some (.int (nI 1)), some (.int (nI 0))], [])) (by decide +kernel) rfl ?_
    dsimp only
    refine am_Rq.blk (is := [(.iinc 4 7, 3)]) (q := (1427, [some (.ref 0), some (.ref 2), some (.ref 238), some (.ref 246), some (.int ((nI (7 * n)) + (nI 7))), some (.int (nI 1)), some (.int (nI 0))], [])) (by decide +kernel) rfl ?_
    dsimp only
    rw [show (nI (7 * n)) + (nI 7) = nI ((7 * n) + 7) from nI_add _ _]
    refine am_Rq.blk (is := [(.goto (-1404), 3)]) (q := (23, [some (.ref 0), some (.ref 2), some (.ref 238), some (.ref 246), some (.int (nI ((7 * n) + 7))), some (.int (nI 1)), some (.int (nI 0))], [])) (by decide +kernel) rfl ?_
    dsimp only
    rw [show 7 * n + 7 = 7 * (n + 1) by omega]
    exact ih _ _ _ ⟨s, f, kn, nx, ks, hs, 1, h02, hC2, hM2, ⟨_, hU2⟩, hR.more, by rw [hf2.1, hl1]; omega, by rw [hf2.1, hl1]; omega, by rw [hf2.2.1, ht1]; omega⟩
theorem l_conversion {L n : Nat} {xs : Nat → Int32} (hL : L ≤ 3584) (hn : 7 * n + 7 ≤ L) {hp : am_H} (h : l_St L xs hp n) {Q : am_H → am_R → Prop} (ih : ∀ hp1 z5 z6, l_St L xs hp1 (n + 1) → am_Rq 9 0 23 [some (.ref 0), some (.ref 2), some (.ref 238), some (.ref 246), some (.int (nI (7 * (n + 1)))), z5, z6] [] hp1 Q) {z5 z6 : Option Value} : am_Rq 9 0 1052 [some (.ref 0), some (.ref 2), some (.ref 238), some (.ref 246), some (.int (nI (7 * n))), z5, z6] [] hp Q := by
  obtain ⟨s, f, kn, nx, ks, hs, th, h0, hC, hM, ⟨ou, hU⟩, hR, l1, l2, l3⟩ := h
  have hp9 := p_conversion hR (by omega) (xs (7 * n + 1))
  rcases hp9 with ⟨v, s1, kn1, nx1, ks1, hc, hm⟩ | ⟨k, c, hin, hc, hm⟩
  ·
    refine am_Rq.blk (is := [(.aload_n 1, 1), (.aload_n 0, 1), (.iload 4, 2), (.iconst 1, 1), (.iadd, 1)]) (q := (1058, [some (.ref 0), some (.ref 2), some (.ref 238), some (.ref 246), some (.int (nI (7 * n))), z5, z6], [.int ((nI (7 * n)) + (nI 1)), .ref 0, .ref 2])) (by decide +kernel) rfl ?_
    dsimp only
    rw [show (nI (7 * n)) + (nI 1) = nI ((7 * n) + 1) from nI_add _ _]
    refine am_Rq.ial (k := (7 * n) + 1) (show decode (am_by 0) 1058 = .ok (.iaload, 1) by decide +kernel) h0 (by omega) (by omega) ?_
    refine am_Rq.blk (is := [(.aload_n 3, 1)]) (q := (1060, [some (.ref 0), some (.ref 2), some (.ref 238), some (.ref 246), some (.int (nI (7 * n))), z5, z6], [.ref 246, .int (xs ((7 * n) + 1)), .ref 2])) (by decide +kernel) rfl ?_
    dsimp only
    refine am_Rq.callS (show decode (am_by 0) 1060 = .ok (.invokestatic 133, 3) by decide +kernel) rfl [.ref 2, .int (xs ((7 * n) + 1)), .ref 246] [] rfl rfl (Nat.le_of_ble_eq_true rfl) rfl rfl (w_conversion hC hU hc) ?_
    rintro hp1 _ ⟨rfl, hC1, hU1, hf1⟩
    have h01 := (hf1.2.2 0 (fun q => by omega)).trans h0
    have hM1 := hM.kept (fun a a1 a2 => hf1.2.2 a (fun q => by omega))
    have hM0 := hM1
    obtain ⟨⟨⟨co1, hO1⟩, -⟩, -⟩ := hM0
    show am_Rq _ 0 1063 [some (.ref 0), some (.ref 2), some (.ref 238), some (.ref 246), some (.int (nI (7 * n))), z5, z6] [.int (nI 0)] _ _
    refine am_Rq.blk (is := [(.istore 5, 2), (.aload_n 2, 1), (.aload_n 0, 1), (.iload 4, 2), (.iconst 1, 1), (.iadd, 1)]) (q := (1071, [some (.ref 0), some (.ref 2), some (.ref 238), some (.ref 246), some (.int (nI (7 * n))), some (.int (nI 0)), z6], [.int ((nI (7 * n)) + (nI 1)), .ref 0, .ref 238])) (by decide +kernel) rfl ?_
    dsimp only
    rw [show (nI (7 * n)) + (nI 1) = nI ((7 * n) + 1) from nI_add _ _]
    refine am_Rq.ial (k := (7 * n) + 1) (show decode (am_by 0) 1071 = .ok (.iaload, 1) by decide +kernel) h01 (by omega) (by omega) ?_
    refine am_Rq.callV (show decode (am_by 0) 1072 = .ok (.invokevirtual 135, 3) by decide +kernel) rfl [.int (xs ((7 * n) + 1))] [] rfl rfl (Nat.le_of_ble_eq_true rfl) rfl hO1 rfl (hm hp1 th hM1) ?_
    rintro hp2 _ ⟨rfl, ⟨f2, hM2, hs2, hR2⟩, hf2⟩
    have h02 := (hf2.2.2 0 (fun q => by omega)).trans h01
    have hU2 := (hf2.2.2 246 (fun q => by omega)).trans hU1
    have hC2 := hC1.kept (fun a a1 a2 => hf2.2.2 a (fun q => by omega))
    show am_Rq _ 0 1075 [some (.ref 0), some (.ref 2), some (.ref 238), some (.ref 246), some (.int (nI (7 * n))), some (.int (nI 0)), z6] [.int v] _ _
    refine am_Rq.blk (is := [(.istore 6, 2), (.aload_n 2, 1)]) (q := (1078, [some (.ref 0), some (.ref 2), some (.ref 238), some (.ref 246), some (.int (nI (7 * n))), some (.int (nI 0)), some (.int v)], [.ref 238])) (by decide +kernel) rfl ?_
    dsimp only
    have hM3 := hM2
    obtain ⟨⟨⟨co2, hO2⟩, hS2, -⟩, -⟩ := hM3
    refine am_Rq.callV (show decode (am_by 0) 1078 = .ok (.invokevirtual 85, 3) by decide +kernel) rfl [] [] rfl rfl (Nat.le_of_ble_eq_true rfl) rfl hO2 rfl (m_thrown (d := 8) hO2 hS2) ?_
    rintro hq _ ⟨e1, rfl⟩
    rw [e1]
    clear e1 hq
    show am_Rq _ 0 1081 [some (.ref 0), some (.ref 2), some (.ref 238), some (.ref 246), some (.int (nI (7 * n))), some (.int (nI 0)), some (.int v)] [.int (nI 0)] _ _
    refine am_Rq.blk (is := [(.iload 5, 2)]) (q := (1083, [some (.ref 0), some (.ref 2), some (.ref 238), some (.ref 246), some (.int (nI (7 * n))), some (.int (nI 0)), some (.int v)], [.int (nI 0), .int (nI 0)])) (by decide +kernel) rfl ?_
    dsimp only
    refine am_Rq.if2T (t := 1088) (show decode (am_by 0) 1083 = .ok (.if_icmp .eq 5, 3) by decide +kernel) (by decide) (rfl) ?_
    refine am_Rq.blk (is := [(.iload 5, 2)]) (q := (1090, [some (.ref 0), some (.ref 2), some (.ref 238), some (.ref 246), some (.int (nI (7 * n))), some (.int (nI 0)), some (.int v)], [.int (nI 0)])) (by decide +kernel) rfl ?_
    dsimp only
    refine am_Rq.if1F (show decode (am_by 0) 1090 = .ok (.ifCond .ne 15, 3) by decide +kernel) (by decide) (rfl) ?_
    refine am_Rq.blk (is := [(.aload_n 3, 1), (.iconst 0, 1)]) (q := (1095, [some (.ref 0), some (.ref 2), some (.ref 238), some (.ref 246), some (.int (nI (7 * n))), some (.int (nI 0)), some (.int v)], [.int (nI 0), .ref 246])) (by decide +kernel) rfl ?_
    dsimp only
    refine am_Rq.lal (k := 0) (show decode (am_by 0) 1095 = .ok (.laload, 1) by decide +kernel) hU2 (by omega) (by omega) ?_
    refine am_Rq.blk (is := [(.iload 6, 2)]) (q := (1098, [some (.ref 0), some (.ref 2), some (.ref 238), some (.ref 246), some (.int (nI (7 * n))), some (.int (nI 0)), some (.int v)], [.int v, .long ((va_up ou 0 v.toInt64) 0)])) (by decide +kernel) rfl ?_
    dsimp only
    rw [va_up_self]
    refine am_Rq.blk (is := [(.i2l, 1), (.lcmp, 1)]) (q := (1100, [some (.ref 0), some (.ref 2), some (.ref 238), some (.ref 246), some (.int (nI (7 * n))), some (.int (nI 0)), some (.int v)], [.int (lg_cmp v.toInt64 v.toInt64)])) (by decide +kernel) rfl ?_
    dsimp only
    refine am_Rq.if1T (t := 1105) (show decode (am_by 0) 1100 = .ok (.ifCond .eq 5, 3) by decide +kernel) (by decide) (by rw [nm_ceq]; exact decide_eq_true rfl) ?_
    refine am_Rq.blk (is := [(.goto 319, 3)]) (q := (1424, [some (.ref 0), some (.ref 2), some (.ref 238), some (.ref 246), some (.int (nI (7 * n))), some (.int (nI 0)), some (.int v)], [])) (by decide +kernel) rfl ?_
    dsimp only
    refine am_Rq.blk (is := [(.iinc 4 7, 3)]) (q := (1427, [some (.ref 0), some (.ref 2), some (.ref 238), some (.ref 246), some (.int ((nI (7 * n)) + (nI 7))), some (.int (nI 0)), some (.int v)], [])) (by decide +kernel) rfl ?_
    dsimp only
    rw [show (nI (7 * n)) + (nI 7) = nI ((7 * n) + 7) from nI_add _ _]
    refine am_Rq.blk (is := [(.goto (-1404), 3)]) (q := (23, [some (.ref 0), some (.ref 2), some (.ref 238), some (.ref 246), some (.int (nI ((7 * n) + 7))), some (.int (nI 0)), some (.int v)], [])) (by decide +kernel) rfl ?_
    dsimp only
    rw [show 7 * n + 7 = 7 * (n + 1) by omega]
    exact ih _ _ _ ⟨s1, f2, kn1, nx1, ks1, hs2, 0, h02, hC2, hM2, ⟨_, hU2⟩, hR2, by rw [hf2.1, hf1.1]; omega, by rw [hf2.1, hf1.1]; omega, by rw [hf2.2.1, hf1.2.1]; omega⟩
  ·
    simp only [List.mem_cons, Prod.mk.injEq, List.not_mem_nil, or_false] at hin
    rcases hin with ⟨rfl, rfl⟩
    refine am_Rq.blk (is := [(.aload_n 1, 1), (.aload_n 0, 1), (.iload 4, 2), (.iconst 1, 1), (.iadd, 1)]) (q := (1058, [some (.ref 0), some (.ref 2), some (.ref 238), some (.ref 246), some (.int (nI (7 * n))), z5, z6], [.int ((nI (7 * n)) + (nI 1)), .ref 0, .ref 2])) (by decide +kernel) rfl ?_
    dsimp only
    rw [show (nI (7 * n)) + (nI 1) = nI ((7 * n) + 1) from nI_add _ _]
    refine am_Rq.ial (k := (7 * n) + 1) (show decode (am_by 0) 1058 = .ok (.iaload, 1) by decide +kernel) h0 (by omega) (by omega) ?_
    refine am_Rq.blk (is := [(.aload_n 3, 1)]) (q := (1060, [some (.ref 0), some (.ref 2), some (.ref 238), some (.ref 246), some (.int (nI (7 * n))), z5, z6], [.ref 246, .int (xs ((7 * n) + 1)), .ref 2])) (by decide +kernel) rfl ?_
    dsimp only
    refine am_Rq.callS (show decode (am_by 0) 1060 = .ok (.invokestatic 133, 3) by decide +kernel) rfl [.ref 2, .int (xs ((7 * n) + 1)), .ref 246] [] rfl rfl (Nat.le_of_ble_eq_true rfl) rfl rfl (w_conversion_no2 hC hU hc) ?_
    rintro hp1 _ ⟨rfl, he1⟩
    have hk : ∀ a, a < 247 → hp1[a]? = hp[a]? := fun a ha => by rw [he1]; exact List.getElem?_append_left (by omega)
    have hl1 : hp1.length = hp.length + 1 := by rw [he1]; exact ap_len rfl
    have ht1 : am_tot hp1 = am_tot hp + 6 := by rw [he1]; exact c_exT _ _
    have h01 := (hk 0 (by omega)).trans h0
    have hU1 := (hk 246 (by omega)).trans hU
    have hM1 := hM.kept (fun a a1 a2 => hk a (by omega))
    have hC1 := hC.kept (fun a a1 a2 => hk a (by omega))
    have hM0 := hM1
    obtain ⟨⟨⟨co1, hO1⟩, -⟩, -⟩ := hM0
    show am_Rq _ 0 1063 [some (.ref 0), some (.ref 2), some (.ref 238), some (.ref 246), some (.int (nI (7 * n))), z5, z6] [.int (nI 1)] _ _
    refine am_Rq.blk (is := [(.istore 5, 2), (.aload_n 2, 1), (.aload_n 0, 1), (.iload 4, 2), (.iconst 1, 1), (.iadd, 1)]) (q := (1071, [some (.ref 0), some (.ref 2), some (.ref 238), some (.ref 246), some (.int (nI (7 * n))), some (.int (nI 1)), z6], [.int ((nI (7 * n)) + (nI 1)), .ref 0, .ref 238])) (by decide +kernel) rfl ?_
    dsimp only
    rw [show (nI (7 * n)) + (nI 1) = nI ((7 * n) + 1) from nI_add _ _]
    refine am_Rq.ial (k := (7 * n) + 1) (show decode (am_by 0) 1071 = .ok (.iaload, 1) by decide +kernel) h01 (by omega) (by omega) ?_
    refine am_Rq.callV (show decode (am_by 0) 1072 = .ok (.invokevirtual 135, 3) by decide +kernel) rfl [.int (xs ((7 * n) + 1))] [] rfl rfl (Nat.le_of_ble_eq_true rfl) rfl hO1 rfl (hm hp1 th hM1) ?_
    rintro hp2 _ ⟨rfl, hM2, hf2⟩
    have h02 := (hf2.2.2 0 (fun q => by omega)).trans h01
    have hU2 := (hf2.2.2 246 (fun q => by omega)).trans hU1
    have hC2 := hC1.kept (fun a a1 a2 => hf2.2.2 a (fun q => by omega))
    show am_Rq _ 0 1075 [some (.ref 0), some (.ref 2), some (.ref 238), some (.ref 246), some (.int (nI (7 * n))), some (.int (nI 1)), z6] [.int (nI 0)] _ _
    refine am_Rq.blk (is := [(.istore 6, 2), (.aload_n 2, 1)]) (q := (1078, [some (.ref 0), some (.ref 2), some (.ref 238), some (.ref 246), some (.int (nI (7 * n))), some (.int (nI 1)), some (.int (nI 0))], [.ref 238])) (by decide +kernel) rfl ?_
    dsimp only
    have hM3 := hM2
    obtain ⟨⟨⟨co2, hO2⟩, hS2, -⟩, -⟩ := hM3
    refine am_Rq.callV (show decode (am_by 0) 1078 = .ok (.invokevirtual 85, 3) by decide +kernel) rfl [] [] rfl rfl (Nat.le_of_ble_eq_true rfl) rfl hO2 rfl (m_thrown (d := 8) hO2 hS2) ?_
    rintro hq _ ⟨e1, rfl⟩
    rw [e1]
    clear e1 hq
    show am_Rq _ 0 1081 [some (.ref 0), some (.ref 2), some (.ref 238), some (.ref 246), some (.int (nI (7 * n))), some (.int (nI 1)), some (.int (nI 0))] [.int (nI 1)] _ _
    refine am_Rq.blk (is := [(.iload 5, 2)]) (q := (1083, [some (.ref 0), some (.ref 2), some (.ref 238), some (.ref 246), some (.int (nI (7 * n))), some (.int (nI 1)), some (.int (nI 0))], [.int (nI 1), .int (nI 1)])) (by decide +kernel) rfl ?_
    dsimp only
    refine am_Rq.if2T (t := 1088) (show decode (am_by 0) 1083 = .ok (.if_icmp .eq 5, 3) by decide +kernel) (by decide) (rfl) ?_
    refine am_Rq.blk (is := [(.iload 5, 2)]) (q := (1090, [some (.ref 0), some (.ref 2), some (.ref 238), some (.ref 246), some (.int (nI (7 * n))), some (.int (nI 1)), some (.int (nI 0))], [.int (nI 1)])) (by decide +kernel) rfl ?_
    dsimp only
    refine am_Rq.if1T (t := 1105) (show decode (am_by 0) 1090 = .ok (.ifCond .ne 15, 3) by decide +kernel) (by decide) (rfl) ?_
    refine am_Rq.blk (is := [(.goto 319, 3)]) (q := (1424, [some (.ref 0), some (.ref 2), some (.ref 238), some (.ref 246), some (.int (nI (7 * n))), some (.int (nI 1)), some (.int (nI 0))], [])) (by decide +kernel) rfl ?_
    dsimp only
    refine am_Rq.blk (is := [(.iinc 4 7, 3)]) (q := (1427, [some (.ref 0), some (.ref 2), some (.ref 238), some (.ref 246), some (.int ((nI (7 * n)) + (nI 7))), some (.int (nI 1)), some (.int (nI 0))], [])) (by decide +kernel) rfl ?_
    dsimp only
    rw [show (nI (7 * n)) + (nI 7) = nI ((7 * n) + 7) from nI_add _ _]
    refine am_Rq.blk (is := [(.goto (-1404), 3)]) (q := (23, [some (.ref 0), some (.ref 2), some (.ref 238), some (.ref 246), some (.int (nI ((7 * n) + 7))), some (.int (nI 1)), some (.int (nI 0))], [])) (by decide +kernel) rfl ?_
    dsimp only
    rw [show 7 * n + 7 = 7 * (n + 1) by omega]
    exact ih _ _ _ ⟨s, f, kn, nx, ks, hs, 1, h02, hC2, hM2, ⟨_, hU2⟩, hR.more, by rw [hf2.1, hl1]; omega, by rw [hf2.1, hl1]; omega, by rw [hf2.2.1, ht1]; omega⟩
theorem l_set {L n : Nat} {xs : Nat → Int32} (hL : L ≤ 3584) (hn : 7 * n + 7 ≤ L) {hp : am_H} (h : l_St L xs hp n) {Q : am_H → am_R → Prop} (ih : ∀ hp1 z5 z6, l_St L xs hp1 (n + 1) → am_Rq 9 0 23 [some (.ref 0), some (.ref 2), some (.ref 238), some (.ref 246), some (.int (nI (7 * (n + 1)))), z5, z6] [] hp1 Q) {z5 z6 : Option Value} : am_Rq 9 0 1108 [some (.ref 0), some (.ref 2), some (.ref 238), some (.ref 246), some (.int (nI (7 * n))), z5, z6] [] hp Q := by
  obtain ⟨s, f, kn, nx, ks, hs, th, h0, hC, hM, ⟨ou, hU⟩, hR, l1, l2, l3⟩ := h
  have hp9 := p_set hR (by omega) (xs (7 * n + 1))
  rcases hp9 with ⟨v, s1, kn1, nx1, ks1, hc, hm⟩ | ⟨k, c, hin, hc, hm⟩
  ·
    refine am_Rq.blk (is := [(.aload_n 1, 1), (.aload_n 0, 1), (.iload 4, 2), (.iconst 1, 1), (.iadd, 1)]) (q := (1114, [some (.ref 0), some (.ref 2), some (.ref 238), some (.ref 246), some (.int (nI (7 * n))), z5, z6], [.int ((nI (7 * n)) + (nI 1)), .ref 0, .ref 2])) (by decide +kernel) rfl ?_
    dsimp only
    rw [show (nI (7 * n)) + (nI 1) = nI ((7 * n) + 1) from nI_add _ _]
    refine am_Rq.ial (k := (7 * n) + 1) (show decode (am_by 0) 1114 = .ok (.iaload, 1) by decide +kernel) h0 (by omega) (by omega) ?_
    refine am_Rq.blk (is := [(.aload_n 3, 1)]) (q := (1116, [some (.ref 0), some (.ref 2), some (.ref 238), some (.ref 246), some (.int (nI (7 * n))), z5, z6], [.ref 246, .int (xs ((7 * n) + 1)), .ref 2])) (by decide +kernel) rfl ?_
    dsimp only
    refine am_Rq.callS (show decode (am_by 0) 1116 = .ok (.invokestatic 136, 3) by decide +kernel) rfl [.ref 2, .int (xs ((7 * n) + 1)), .ref 246] [] rfl rfl (Nat.le_of_ble_eq_true rfl) rfl rfl (w_set hC hU hc) ?_
    rintro hp1 _ ⟨rfl, hC1, hU1, hf1⟩
    have h01 := (hf1.2.2 0 (fun q => by omega)).trans h0
    have hM1 := hM.kept (fun a a1 a2 => hf1.2.2 a (fun q => by omega))
    have hM0 := hM1
    obtain ⟨⟨⟨co1, hO1⟩, -⟩, -⟩ := hM0
    show am_Rq _ 0 1119 [some (.ref 0), some (.ref 2), some (.ref 238), some (.ref 246), some (.int (nI (7 * n))), z5, z6] [.int (nI 0)] _ _
    refine am_Rq.blk (is := [(.istore 5, 2), (.aload_n 2, 1), (.aload_n 0, 1), (.iload 4, 2), (.iconst 1, 1), (.iadd, 1)]) (q := (1127, [some (.ref 0), some (.ref 2), some (.ref 238), some (.ref 246), some (.int (nI (7 * n))), some (.int (nI 0)), z6], [.int ((nI (7 * n)) + (nI 1)), .ref 0, .ref 238])) (by decide +kernel) rfl ?_
    dsimp only
    rw [show (nI (7 * n)) + (nI 1) = nI ((7 * n) + 1) from nI_add _ _]
    refine am_Rq.ial (k := (7 * n) + 1) (show decode (am_by 0) 1127 = .ok (.iaload, 1) by decide +kernel) h01 (by omega) (by omega) ?_
    refine am_Rq.callV (show decode (am_by 0) 1128 = .ok (.invokevirtual 138, 3) by decide +kernel) rfl [.int (xs ((7 * n) + 1))] [] rfl rfl (Nat.le_of_ble_eq_true rfl) rfl hO1 rfl (hm hp1 th hM1) ?_
    rintro hp2 _ ⟨rfl, ⟨f2, hM2, hs2, hR2⟩, hf2⟩
    have h02 := (hf2.2.2 0 (fun q => by omega)).trans h01
    have hU2 := (hf2.2.2 246 (fun q => by omega)).trans hU1
    have hC2 := hC1.kept (fun a a1 a2 => hf2.2.2 a (fun q => by omega))
    show am_Rq _ 0 1131 [some (.ref 0), some (.ref 2), some (.ref 238), some (.ref 246), some (.int (nI (7 * n))), some (.int (nI 0)), z6] [.int v] _ _
    refine am_Rq.blk (is := [(.istore 6, 2), (.aload_n 2, 1)]) (q := (1134, [some (.ref 0), some (.ref 2), some (.ref 238), some (.ref 246), some (.int (nI (7 * n))), some (.int (nI 0)), some (.int v)], [.ref 238])) (by decide +kernel) rfl ?_
    dsimp only
    have hM3 := hM2
    obtain ⟨⟨⟨co2, hO2⟩, hS2, -⟩, -⟩ := hM3
    refine am_Rq.callV (show decode (am_by 0) 1134 = .ok (.invokevirtual 85, 3) by decide +kernel) rfl [] [] rfl rfl (Nat.le_of_ble_eq_true rfl) rfl hO2 rfl (m_thrown (d := 8) hO2 hS2) ?_
    rintro hq _ ⟨e1, rfl⟩
    rw [e1]
    clear e1 hq
    show am_Rq _ 0 1137 [some (.ref 0), some (.ref 2), some (.ref 238), some (.ref 246), some (.int (nI (7 * n))), some (.int (nI 0)), some (.int v)] [.int (nI 0)] _ _
    refine am_Rq.blk (is := [(.iload 5, 2)]) (q := (1139, [some (.ref 0), some (.ref 2), some (.ref 238), some (.ref 246), some (.int (nI (7 * n))), some (.int (nI 0)), some (.int v)], [.int (nI 0), .int (nI 0)])) (by decide +kernel) rfl ?_
    dsimp only
    refine am_Rq.if2T (t := 1144) (show decode (am_by 0) 1139 = .ok (.if_icmp .eq 5, 3) by decide +kernel) (by decide) (rfl) ?_
    refine am_Rq.blk (is := [(.iload 5, 2)]) (q := (1146, [some (.ref 0), some (.ref 2), some (.ref 238), some (.ref 246), some (.int (nI (7 * n))), some (.int (nI 0)), some (.int v)], [.int (nI 0)])) (by decide +kernel) rfl ?_
    dsimp only
    refine am_Rq.if1F (show decode (am_by 0) 1146 = .ok (.ifCond .ne 15, 3) by decide +kernel) (by decide) (rfl) ?_
    refine am_Rq.blk (is := [(.aload_n 3, 1), (.iconst 0, 1)]) (q := (1151, [some (.ref 0), some (.ref 2), some (.ref 238), some (.ref 246), some (.int (nI (7 * n))), some (.int (nI 0)), some (.int v)], [.int (nI 0), .ref 246])) (by decide +kernel) rfl ?_
    dsimp only
    refine am_Rq.lal (k := 0) (show decode (am_by 0) 1151 = .ok (.laload, 1) by decide +kernel) hU2 (by omega) (by omega) ?_
    refine am_Rq.blk (is := [(.iload 6, 2)]) (q := (1154, [some (.ref 0), some (.ref 2), some (.ref 238), some (.ref 246), some (.int (nI (7 * n))), some (.int (nI 0)), some (.int v)], [.int v, .long ((va_up ou 0 v.toInt64) 0)])) (by decide +kernel) rfl ?_
    dsimp only
    rw [va_up_self]
    refine am_Rq.blk (is := [(.i2l, 1), (.lcmp, 1)]) (q := (1156, [some (.ref 0), some (.ref 2), some (.ref 238), some (.ref 246), some (.int (nI (7 * n))), some (.int (nI 0)), some (.int v)], [.int (lg_cmp v.toInt64 v.toInt64)])) (by decide +kernel) rfl ?_
    dsimp only
    refine am_Rq.if1T (t := 1161) (show decode (am_by 0) 1156 = .ok (.ifCond .eq 5, 3) by decide +kernel) (by decide) (by rw [nm_ceq]; exact decide_eq_true rfl) ?_
    refine am_Rq.blk (is := [(.goto 263, 3)]) (q := (1424, [some (.ref 0), some (.ref 2), some (.ref 238), some (.ref 246), some (.int (nI (7 * n))), some (.int (nI 0)), some (.int v)], [])) (by decide +kernel) rfl ?_
    dsimp only
    refine am_Rq.blk (is := [(.iinc 4 7, 3)]) (q := (1427, [some (.ref 0), some (.ref 2), some (.ref 238), some (.ref 246), some (.int ((nI (7 * n)) + (nI 7))), some (.int (nI 0)), some (.int v)], [])) (by decide +kernel) rfl ?_
    dsimp only
    rw [show (nI (7 * n)) + (nI 7) = nI ((7 * n) + 7) from nI_add _ _]
    refine am_Rq.blk (is := [(.goto (-1404), 3)]) (q := (23, [some (.ref 0), some (.ref 2), some (.ref 238), some (.ref 246), some (.int (nI ((7 * n) + 7))), some (.int (nI 0)), some (.int v)], [])) (by decide +kernel) rfl ?_
    dsimp only
    rw [show 7 * n + 7 = 7 * (n + 1) by omega]
    exact ih _ _ _ ⟨s1, f2, kn1, nx1, ks1, hs2, 0, h02, hC2, hM2, ⟨_, hU2⟩, hR2, by rw [hf2.1, hf1.1]; omega, by rw [hf2.1, hf1.1]; omega, by rw [hf2.2.1, hf1.2.1]; omega⟩
  ·
    simp only [List.mem_cons, Prod.mk.injEq, List.not_mem_nil, or_false] at hin
    rcases hin with ⟨rfl, rfl⟩
    refine am_Rq.blk (is := [(.aload_n 1, 1), (.aload_n 0, 1), (.iload 4, 2), (.iconst 1, 1), (.iadd, 1)]) (q := (1114, [some (.ref 0), some (.ref 2), some (.ref 238), some (.ref 246), some (.int (nI (7 * n))), z5, z6], [.int ((nI (7 * n)) + (nI 1)), .ref 0, .ref 2])) (by decide +kernel) rfl ?_
    dsimp only
    rw [show (nI (7 * n)) + (nI 1) = nI ((7 * n) + 1) from nI_add _ _]
    refine am_Rq.ial (k := (7 * n) + 1) (show decode (am_by 0) 1114 = .ok (.iaload, 1) by decide +kernel) h0 (by omega) (by omega) ?_
    refine am_Rq.blk (is := [(.aload_n 3, 1)]) (q := (1116, [some (.ref 0), some (.ref 2), some (.ref 238), some (.ref 246), some (.int (nI (7 * n))), z5, z6], [.ref 246, .int (xs ((7 * n) + 1)), .ref 2])) (by decide +kernel) rfl ?_
    dsimp only
    refine am_Rq.callS (show decode (am_by 0) 1116 = .ok (.invokestatic 136, 3) by decide +kernel) rfl [.ref 2, .int (xs ((7 * n) + 1)), .ref 246] [] rfl rfl (Nat.le_of_ble_eq_true rfl) rfl rfl (w_set_no0 hC hU hc) ?_
    rintro hp1 _ ⟨rfl, he1⟩
    have hk : ∀ a, a < 247 → hp1[a]? = hp[a]? := fun a ha => by rw [he1]; exact List.getElem?_append_left (by omega)
    have hl1 : hp1.length = hp.length + 1 := by rw [he1]; exact ap_len rfl
    have ht1 : am_tot hp1 = am_tot hp + 6 := by rw [he1]; exact c_exT _ _
    have h01 := (hk 0 (by omega)).trans h0
    have hU1 := (hk 246 (by omega)).trans hU
    have hM1 := hM.kept (fun a a1 a2 => hk a (by omega))
    have hC1 := hC.kept (fun a a1 a2 => hk a (by omega))
    have hM0 := hM1
    obtain ⟨⟨⟨co1, hO1⟩, -⟩, -⟩ := hM0
    show am_Rq _ 0 1119 [some (.ref 0), some (.ref 2), some (.ref 238), some (.ref 246), some (.int (nI (7 * n))), z5, z6] [.int (nI 1)] _ _
    refine am_Rq.blk (is := [(.istore 5, 2), (.aload_n 2, 1), (.aload_n 0, 1), (.iload 4, 2), (.iconst 1, 1), (.iadd, 1)]) (q := (1127, [some (.ref 0), some (.ref 2), some (.ref 238), some (.ref 246), some (.int (nI (7 * n))), some (.int (nI 1)), z6], [.int ((nI (7 * n)) + (nI 1)), .ref 0, .ref 238])) (by decide +kernel) rfl ?_
    dsimp only
    rw [show (nI (7 * n)) + (nI 1) = nI ((7 * n) + 1) from nI_add _ _]
    refine am_Rq.ial (k := (7 * n) + 1) (show decode (am_by 0) 1127 = .ok (.iaload, 1) by decide +kernel) h01 (by omega) (by omega) ?_
    refine am_Rq.callV (show decode (am_by 0) 1128 = .ok (.invokevirtual 138, 3) by decide +kernel) rfl [.int (xs ((7 * n) + 1))] [] rfl rfl (Nat.le_of_ble_eq_true rfl) rfl hO1 rfl (hm hp1 th hM1) ?_
    rintro hp2 _ ⟨rfl, hM2, hf2⟩
    have h02 := (hf2.2.2 0 (fun q => by omega)).trans h01
    have hU2 := (hf2.2.2 246 (fun q => by omega)).trans hU1
    have hC2 := hC1.kept (fun a a1 a2 => hf2.2.2 a (fun q => by omega))
    show am_Rq _ 0 1131 [some (.ref 0), some (.ref 2), some (.ref 238), some (.ref 246), some (.int (nI (7 * n))), some (.int (nI 1)), z6] [.int (nI 0)] _ _
    refine am_Rq.blk (is := [(.istore 6, 2), (.aload_n 2, 1)]) (q := (1134, [some (.ref 0), some (.ref 2), some (.ref 238), some (.ref 246), some (.int (nI (7 * n))), some (.int (nI 1)), some (.int (nI 0))], [.ref 238])) (by decide +kernel) rfl ?_
    dsimp only
    have hM3 := hM2
    obtain ⟨⟨⟨co2, hO2⟩, hS2, -⟩, -⟩ := hM3
    refine am_Rq.callV (show decode (am_by 0) 1134 = .ok (.invokevirtual 85, 3) by decide +kernel) rfl [] [] rfl rfl (Nat.le_of_ble_eq_true rfl) rfl hO2 rfl (m_thrown (d := 8) hO2 hS2) ?_
    rintro hq _ ⟨e1, rfl⟩
    rw [e1]
    clear e1 hq
    show am_Rq _ 0 1137 [some (.ref 0), some (.ref 2), some (.ref 238), some (.ref 246), some (.int (nI (7 * n))), some (.int (nI 1)), some (.int (nI 0))] [.int (nI 1)] _ _
    refine am_Rq.blk (is := [(.iload 5, 2)]) (q := (1139, [some (.ref 0), some (.ref 2), some (.ref 238), some (.ref 246), some (.int (nI (7 * n))), some (.int (nI 1)), some (.int (nI 0))], [.int (nI 1), .int (nI 1)])) (by decide +kernel) rfl ?_
    dsimp only
    refine am_Rq.if2T (t := 1144) (show decode (am_by 0) 1139 = .ok (.if_icmp .eq 5, 3) by decide +kernel) (by decide) (rfl) ?_
    refine am_Rq.blk (is := [(.iload 5, 2)]) (q := (1146, [some (.ref 0), some (.ref 2), some (.ref 238), some (.ref 246), some (.int (nI (7 * n))), some (.int (nI 1)), some (.int (nI 0))], [.int (nI 1)])) (by decide +kernel) rfl ?_
    dsimp only
    refine am_Rq.if1T (t := 1161) (show decode (am_by 0) 1146 = .ok (.ifCond .ne 15, 3) by decide +kernel) (by decide) (rfl) ?_
    refine am_Rq.blk (is := [(.goto 263, 3)]) (q := (1424, [some (.ref 0), some (.ref 2), some (.ref 238), some (.ref 246), some (.int (nI (7 * n))), some (.int (nI 1)), some (.int (nI 0))], [])) (by decide +kernel) rfl ?_
    dsimp only
    refine am_Rq.blk (is := [(.iinc 4 7, 3)]) (q := (1427, [some (.ref 0), some (.ref 2), some (.ref 238), some (.ref 246), some (.int ((nI (7 * n)) + (nI 7))), some (.int (nI 1)), some (.int (nI 0))], [])) (by decide +kernel) rfl ?_
    dsimp only
    rw [show (nI (7 * n)) + (nI 7) = nI ((7 * n) + 7) from nI_add _ _]
    refine am_Rq.blk (is := [(.goto (-1404), 3)]) (q := (23, [some (.ref 0), some (.ref 2), some (.ref 238), some (.ref 246), some (.int (nI ((7 * n) + 7))), some (.int (nI 1)), some (.int (nI 0))], [])) (by decide +kernel) rfl ?_
    dsimp only
    rw [show 7 * n + 7 = 7 * (n + 1) by omega]
    exact ih _ _ _ ⟨s, f, kn, nx, ks, hs, 1, h02, hC2, hM2, ⟨_, hU2⟩, hR.more, by rw [hf2.1, hl1]; omega, by rw [hf2.1, hl1]; omega, by rw [hf2.2.1, ht1]; omega⟩
theorem l_gets {L n : Nat} {xs : Nat → Int32} (hL : L ≤ 3584) (hn : 7 * n + 7 ≤ L) {hp : am_H} (h : l_St L xs hp n) {Q : am_H → am_R → Prop} (ih : ∀ hp1 z5 z6, l_St L xs hp1 (n + 1) → am_Rq 9 0 23 [some (.ref 0), some (.ref 2), some (.ref 238), some (.ref 246), some (.int (nI (7 * (n + 1)))), z5, z6] [] hp1 Q) {z5 z6 : Option Value} : am_Rq 9 0 1164 [some (.ref 0), some (.ref 2), some (.ref 238), some (.ref 246), some (.int (nI (7 * n))), z5, z6] [] hp Q := by
  obtain ⟨s, f, kn, nx, ks, hs, th, h0, hC, hM, ⟨ou, hU⟩, hR, l1, l2, l3⟩ := h
  have hp9 := p_gets hR (by omega) (xs (7 * n + 1)) (xs (7 * n + 2)) (xs (7 * n + 3))
  rcases hp9 with ⟨v, s1, kn1, nx1, ks1, hc, hm⟩ | ⟨k, c, hin, hc, hm⟩
  ·
    refine am_Rq.blk (is := [(.aload_n 1, 1), (.aload_n 0, 1), (.iload 4, 2), (.iconst 1, 1), (.iadd, 1)]) (q := (1170, [some (.ref 0), some (.ref 2), some (.ref 238), some (.ref 246), some (.int (nI (7 * n))), z5, z6], [.int ((nI (7 * n)) + (nI 1)), .ref 0, .ref 2])) (by decide +kernel) rfl ?_
    dsimp only
    rw [show (nI (7 * n)) + (nI 1) = nI ((7 * n) + 1) from nI_add _ _]
    refine am_Rq.ial (k := (7 * n) + 1) (show decode (am_by 0) 1170 = .ok (.iaload, 1) by decide +kernel) h0 (by omega) (by omega) ?_
    refine am_Rq.blk (is := [(.aload_n 0, 1), (.iload 4, 2), (.iconst 2, 1), (.iadd, 1)]) (q := (1176, [some (.ref 0), some (.ref 2), some (.ref 238), some (.ref 246), some (.int (nI (7 * n))), z5, z6], [.int ((nI (7 * n)) + (nI 2)), .ref 0, .int (xs ((7 * n) + 1)), .ref 2])) (by decide +kernel) rfl ?_
    dsimp only
    rw [show (nI (7 * n)) + (nI 2) = nI ((7 * n) + 2) from nI_add _ _]
    refine am_Rq.ial (k := (7 * n) + 2) (show decode (am_by 0) 1176 = .ok (.iaload, 1) by decide +kernel) h0 (by omega) (by omega) ?_
    refine am_Rq.blk (is := [(.aload_n 0, 1), (.iload 4, 2), (.iconst 3, 1), (.iadd, 1)]) (q := (1182, [some (.ref 0), some (.ref 2), some (.ref 238), some (.ref 246), some (.int (nI (7 * n))), z5, z6], [.int ((nI (7 * n)) + (nI 3)), .ref 0, .int (xs ((7 * n) + 2)), .int (xs ((7 * n) + 1)), .ref 2])) (by decide +kernel) rfl ?_
    dsimp only
    rw [show (nI (7 * n)) + (nI 3) = nI ((7 * n) + 3) from nI_add _ _]
    refine am_Rq.ial (k := (7 * n) + 3) (show decode (am_by 0) 1182 = .ok (.iaload, 1) by decide +kernel) h0 (by omega) (by omega) ?_
    refine am_Rq.blk (is := [(.aload_n 3, 1)]) (q := (1184, [some (.ref 0), some (.ref 2), some (.ref 238), some (.ref 246), some (.int (nI (7 * n))), z5, z6], [.ref 246, .int (xs ((7 * n) + 3)), .int (xs ((7 * n) + 2)), .int (xs ((7 * n) + 1)), .ref 2])) (by decide +kernel) rfl ?_
    dsimp only
    refine am_Rq.callS (show decode (am_by 0) 1184 = .ok (.invokestatic 139, 3) by decide +kernel) rfl [.ref 2, .int (xs ((7 * n) + 1)), .int (xs ((7 * n) + 2)), .int (xs ((7 * n) + 3)), .ref 246] [] rfl rfl (Nat.le_of_ble_eq_true rfl) rfl rfl (w_gets hC hU hc) ?_
    rintro hp1 _ ⟨rfl, hC1, hU1, hf1⟩
    have h01 := (hf1.2.2 0 (fun q => by omega)).trans h0
    have hM1 := hM.kept (fun a a1 a2 => hf1.2.2 a (fun q => by omega))
    have hM0 := hM1
    obtain ⟨⟨⟨co1, hO1⟩, -⟩, -⟩ := hM0
    show am_Rq _ 0 1187 [some (.ref 0), some (.ref 2), some (.ref 238), some (.ref 246), some (.int (nI (7 * n))), z5, z6] [.int (nI 0)] _ _
    refine am_Rq.blk (is := [(.istore 5, 2), (.aload_n 2, 1), (.aload_n 0, 1), (.iload 4, 2), (.iconst 1, 1), (.iadd, 1)]) (q := (1195, [some (.ref 0), some (.ref 2), some (.ref 238), some (.ref 246), some (.int (nI (7 * n))), some (.int (nI 0)), z6], [.int ((nI (7 * n)) + (nI 1)), .ref 0, .ref 238])) (by decide +kernel) rfl ?_
    dsimp only
    rw [show (nI (7 * n)) + (nI 1) = nI ((7 * n) + 1) from nI_add _ _]
    refine am_Rq.ial (k := (7 * n) + 1) (show decode (am_by 0) 1195 = .ok (.iaload, 1) by decide +kernel) h01 (by omega) (by omega) ?_
    refine am_Rq.blk (is := [(.aload_n 0, 1), (.iload 4, 2), (.iconst 2, 1), (.iadd, 1)]) (q := (1201, [some (.ref 0), some (.ref 2), some (.ref 238), some (.ref 246), some (.int (nI (7 * n))), some (.int (nI 0)), z6], [.int ((nI (7 * n)) + (nI 2)), .ref 0, .int (xs ((7 * n) + 1)), .ref 238])) (by decide +kernel) rfl ?_
    dsimp only
    rw [show (nI (7 * n)) + (nI 2) = nI ((7 * n) + 2) from nI_add _ _]
    refine am_Rq.ial (k := (7 * n) + 2) (show decode (am_by 0) 1201 = .ok (.iaload, 1) by decide +kernel) h01 (by omega) (by omega) ?_
    refine am_Rq.blk (is := [(.aload_n 0, 1), (.iload 4, 2), (.iconst 3, 1), (.iadd, 1)]) (q := (1207, [some (.ref 0), some (.ref 2), some (.ref 238), some (.ref 246), some (.int (nI (7 * n))), some (.int (nI 0)), z6], [.int ((nI (7 * n)) + (nI 3)), .ref 0, .int (xs ((7 * n) + 2)), .int (xs ((7 * n) + 1)), .ref 238])) (by decide +kernel) rfl ?_
    dsimp only
    rw [show (nI (7 * n)) + (nI 3) = nI ((7 * n) + 3) from nI_add _ _]
    refine am_Rq.ial (k := (7 * n) + 3) (show decode (am_by 0) 1207 = .ok (.iaload, 1) by decide +kernel) h01 (by omega) (by omega) ?_
    refine am_Rq.callV (show decode (am_by 0) 1208 = .ok (.invokevirtual 141, 3) by decide +kernel) rfl [.int (xs ((7 * n) + 1)), .int (xs ((7 * n) + 2)), .int (xs ((7 * n) + 3))] [] rfl rfl (Nat.le_of_ble_eq_true rfl) rfl hO1 rfl (hm hp1 th hM1) ?_
    rintro hp2 _ ⟨rfl, ⟨f2, hM2, hs2, hR2⟩, hf2⟩
    have h02 := (hf2.2.2 0 (fun q => by omega)).trans h01
    have hU2 := (hf2.2.2 246 (fun q => by omega)).trans hU1
    have hC2 := hC1.kept (fun a a1 a2 => hf2.2.2 a (fun q => by omega))
    show am_Rq _ 0 1211 [some (.ref 0), some (.ref 2), some (.ref 238), some (.ref 246), some (.int (nI (7 * n))), some (.int (nI 0)), z6] [.int v] _ _
    refine am_Rq.blk (is := [(.istore 6, 2), (.aload_n 2, 1)]) (q := (1214, [some (.ref 0), some (.ref 2), some (.ref 238), some (.ref 246), some (.int (nI (7 * n))), some (.int (nI 0)), some (.int v)], [.ref 238])) (by decide +kernel) rfl ?_
    dsimp only
    have hM3 := hM2
    obtain ⟨⟨⟨co2, hO2⟩, hS2, -⟩, -⟩ := hM3
    refine am_Rq.callV (show decode (am_by 0) 1214 = .ok (.invokevirtual 85, 3) by decide +kernel) rfl [] [] rfl rfl (Nat.le_of_ble_eq_true rfl) rfl hO2 rfl (m_thrown (d := 8) hO2 hS2) ?_
    rintro hq _ ⟨e1, rfl⟩
    rw [e1]
    clear e1 hq
    show am_Rq _ 0 1217 [some (.ref 0), some (.ref 2), some (.ref 238), some (.ref 246), some (.int (nI (7 * n))), some (.int (nI 0)), some (.int v)] [.int (nI 0)] _ _
    refine am_Rq.blk (is := [(.iload 5, 2)]) (q := (1219, [some (.ref 0), some (.ref 2), some (.ref 238), some (.ref 246), some (.int (nI (7 * n))), some (.int (nI 0)), some (.int v)], [.int (nI 0), .int (nI 0)])) (by decide +kernel) rfl ?_
    dsimp only
    refine am_Rq.if2T (t := 1224) (show decode (am_by 0) 1219 = .ok (.if_icmp .eq 5, 3) by decide +kernel) (by decide) (rfl) ?_
    refine am_Rq.blk (is := [(.iload 5, 2)]) (q := (1226, [some (.ref 0), some (.ref 2), some (.ref 238), some (.ref 246), some (.int (nI (7 * n))), some (.int (nI 0)), some (.int v)], [.int (nI 0)])) (by decide +kernel) rfl ?_
    dsimp only
    refine am_Rq.if1F (show decode (am_by 0) 1226 = .ok (.ifCond .ne 15, 3) by decide +kernel) (by decide) (rfl) ?_
    refine am_Rq.blk (is := [(.aload_n 3, 1), (.iconst 0, 1)]) (q := (1231, [some (.ref 0), some (.ref 2), some (.ref 238), some (.ref 246), some (.int (nI (7 * n))), some (.int (nI 0)), some (.int v)], [.int (nI 0), .ref 246])) (by decide +kernel) rfl ?_
    dsimp only
    refine am_Rq.lal (k := 0) (show decode (am_by 0) 1231 = .ok (.laload, 1) by decide +kernel) hU2 (by omega) (by omega) ?_
    refine am_Rq.blk (is := [(.iload 6, 2)]) (q := (1234, [some (.ref 0), some (.ref 2), some (.ref 238), some (.ref 246), some (.int (nI (7 * n))), some (.int (nI 0)), some (.int v)], [.int v, .long ((va_up ou 0 v.toInt64) 0)])) (by decide +kernel) rfl ?_
    dsimp only
    rw [va_up_self]
    refine am_Rq.blk (is := [(.i2l, 1), (.lcmp, 1)]) (q := (1236, [some (.ref 0), some (.ref 2), some (.ref 238), some (.ref 246), some (.int (nI (7 * n))), some (.int (nI 0)), some (.int v)], [.int (lg_cmp v.toInt64 v.toInt64)])) (by decide +kernel) rfl ?_
    dsimp only
    refine am_Rq.if1T (t := 1241) (show decode (am_by 0) 1236 = .ok (.ifCond .eq 5, 3) by decide +kernel) (by decide) (by rw [nm_ceq]; exact decide_eq_true rfl) ?_
    refine am_Rq.blk (is := [(.goto 183, 3)]) (q := (1424, [some (.ref 0), some (.ref 2), some (.ref 238), some (.ref 246), some (.int (nI (7 * n))), some (.int (nI 0)), some (.int v)], [])) (by decide +kernel) rfl ?_
    dsimp only
    refine am_Rq.blk (is := [(.iinc 4 7, 3)]) (q := (1427, [some (.ref 0), some (.ref 2), some (.ref 238), some (.ref 246), some (.int ((nI (7 * n)) + (nI 7))), some (.int (nI 0)), some (.int v)], [])) (by decide +kernel) rfl ?_
    dsimp only
    rw [show (nI (7 * n)) + (nI 7) = nI ((7 * n) + 7) from nI_add _ _]
    refine am_Rq.blk (is := [(.goto (-1404), 3)]) (q := (23, [some (.ref 0), some (.ref 2), some (.ref 238), some (.ref 246), some (.int (nI ((7 * n) + 7))), some (.int (nI 0)), some (.int v)], [])) (by decide +kernel) rfl ?_
    dsimp only
    rw [show 7 * n + 7 = 7 * (n + 1) by omega]
    exact ih _ _ _ ⟨s1, f2, kn1, nx1, ks1, hs2, 0, h02, hC2, hM2, ⟨_, hU2⟩, hR2, by rw [hf2.1, hf1.1]; omega, by rw [hf2.1, hf1.1]; omega, by rw [hf2.2.1, hf1.2.1]; omega⟩
  ·
    simp only [List.mem_cons, Prod.mk.injEq, List.not_mem_nil, or_false] at hin
    rcases hin with ⟨rfl, rfl⟩ | ⟨rfl, rfl⟩
    ·
      refine am_Rq.blk (is := [(.aload_n 1, 1), (.aload_n 0, 1), (.iload 4, 2), (.iconst 1, 1), (.iadd, 1)]) (q := (1170, [some (.ref 0), some (.ref 2), some (.ref 238), some (.ref 246), some (.int (nI (7 * n))), z5, z6], [.int ((nI (7 * n)) + (nI 1)), .ref 0, .ref 2])) (by decide +kernel) rfl ?_
      dsimp only
      rw [show (nI (7 * n)) + (nI 1) = nI ((7 * n) + 1) from nI_add _ _]
      refine am_Rq.ial (k := (7 * n) + 1) (show decode (am_by 0) 1170 = .ok (.iaload, 1) by decide +kernel) h0 (by omega) (by omega) ?_
      refine am_Rq.blk (is := [(.aload_n 0, 1), (.iload 4, 2), (.iconst 2, 1), (.iadd, 1)]) (q := (1176, [some (.ref 0), some (.ref 2), some (.ref 238), some (.ref 246), some (.int (nI (7 * n))), z5, z6], [.int ((nI (7 * n)) + (nI 2)), .ref 0, .int (xs ((7 * n) + 1)), .ref 2])) (by decide +kernel) rfl ?_
      dsimp only
      rw [show (nI (7 * n)) + (nI 2) = nI ((7 * n) + 2) from nI_add _ _]
      refine am_Rq.ial (k := (7 * n) + 2) (show decode (am_by 0) 1176 = .ok (.iaload, 1) by decide +kernel) h0 (by omega) (by omega) ?_
      refine am_Rq.blk (is := [(.aload_n 0, 1), (.iload 4, 2), (.iconst 3, 1), (.iadd, 1)]) (q := (1182, [some (.ref 0), some (.ref 2), some (.ref 238), some (.ref 246), some (.int (nI (7 * n))), z5, z6], [.int ((nI (7 * n)) + (nI 3)), .ref 0, .int (xs ((7 * n) + 2)), .int (xs ((7 * n) + 1)), .ref 2])) (by decide +kernel) rfl ?_
      dsimp only
      rw [show (nI (7 * n)) + (nI 3) = nI ((7 * n) + 3) from nI_add _ _]
      refine am_Rq.ial (k := (7 * n) + 3) (show decode (am_by 0) 1182 = .ok (.iaload, 1) by decide +kernel) h0 (by omega) (by omega) ?_
      refine am_Rq.blk (is := [(.aload_n 3, 1)]) (q := (1184, [some (.ref 0), some (.ref 2), some (.ref 238), some (.ref 246), some (.int (nI (7 * n))), z5, z6], [.ref 246, .int (xs ((7 * n) + 3)), .int (xs ((7 * n) + 2)), .int (xs ((7 * n) + 1)), .ref 2])) (by decide +kernel) rfl ?_
      dsimp only
      refine am_Rq.callS (show decode (am_by 0) 1184 = .ok (.invokestatic 139, 3) by decide +kernel) rfl [.ref 2, .int (xs ((7 * n) + 1)), .int (xs ((7 * n) + 2)), .int (xs ((7 * n) + 3)), .ref 246] [] rfl rfl (Nat.le_of_ble_eq_true rfl) rfl rfl (w_gets_no0 hC hU hc) ?_
      rintro hp1 _ ⟨rfl, he1⟩
      have hk : ∀ a, a < 247 → hp1[a]? = hp[a]? := fun a ha => by rw [he1]; exact List.getElem?_append_left (by omega)
      have hl1 : hp1.length = hp.length + 1 := by rw [he1]; exact ap_len rfl
      have ht1 : am_tot hp1 = am_tot hp + 6 := by rw [he1]; exact c_exT _ _
      have h01 := (hk 0 (by omega)).trans h0
      have hU1 := (hk 246 (by omega)).trans hU
      have hM1 := hM.kept (fun a a1 a2 => hk a (by omega))
      have hC1 := hC.kept (fun a a1 a2 => hk a (by omega))
      have hM0 := hM1
      obtain ⟨⟨⟨co1, hO1⟩, -⟩, -⟩ := hM0
      show am_Rq _ 0 1187 [some (.ref 0), some (.ref 2), some (.ref 238), some (.ref 246), some (.int (nI (7 * n))), z5, z6] [.int (nI 1)] _ _
      refine am_Rq.blk (is := [(.istore 5, 2), (.aload_n 2, 1), (.aload_n 0, 1), (.iload 4, 2), (.iconst 1, 1), (.iadd, 1)]) (q := (1195, [some (.ref 0), some (.ref 2), some (.ref 238), some (.ref 246), some (.int (nI (7 * n))), some (.int (nI 1)), z6], [.int ((nI (7 * n)) + (nI 1)), .ref 0, .ref 238])) (by decide +kernel) rfl ?_
      dsimp only
      rw [show (nI (7 * n)) + (nI 1) = nI ((7 * n) + 1) from nI_add _ _]
      refine am_Rq.ial (k := (7 * n) + 1) (show decode (am_by 0) 1195 = .ok (.iaload, 1) by decide +kernel) h01 (by omega) (by omega) ?_
      refine am_Rq.blk (is := [(.aload_n 0, 1), (.iload 4, 2), (.iconst 2, 1), (.iadd, 1)]) (q := (1201, [some (.ref 0), some (.ref 2), some (.ref 238), some (.ref 246), some (.int (nI (7 * n))), some (.int (nI 1)), z6], [.int ((nI (7 * n)) + (nI 2)), .ref 0, .int (xs ((7 * n) + 1)), .ref 238])) (by decide +kernel) rfl ?_
      dsimp only
      rw [show (nI (7 * n)) + (nI 2) = nI ((7 * n) + 2) from nI_add _ _]
      refine am_Rq.ial (k := (7 * n) + 2) (show decode (am_by 0) 1201 = .ok (.iaload, 1) by decide +kernel) h01 (by omega) (by omega) ?_
      refine am_Rq.blk (is := [(.aload_n 0, 1), (.iload 4, 2), (.iconst 3, 1), (.iadd, 1)]) (q := (1207, [some (.ref 0), some (.ref 2), some (.ref 238), some (.ref 246), some (.int (nI (7 * n))), some (.int (nI 1)), z6], [.int ((nI (7 * n)) + (nI 3)), .ref 0, .int (xs ((7 * n) + 2)), .int (xs ((7 * n) + 1)), .ref 238])) (by decide +kernel) rfl ?_
      dsimp only
      rw [show (nI (7 * n)) + (nI 3) = nI ((7 * n) + 3) from nI_add _ _]
      refine am_Rq.ial (k := (7 * n) + 3) (show decode (am_by 0) 1207 = .ok (.iaload, 1) by decide +kernel) h01 (by omega) (by omega) ?_
      refine am_Rq.callV (show decode (am_by 0) 1208 = .ok (.invokevirtual 141, 3) by decide +kernel) rfl [.int (xs ((7 * n) + 1)), .int (xs ((7 * n) + 2)), .int (xs ((7 * n) + 3))] [] rfl rfl (Nat.le_of_ble_eq_true rfl) rfl hO1 rfl (hm hp1 th hM1) ?_
      rintro hp2 _ ⟨rfl, hM2, hf2⟩
      have h02 := (hf2.2.2 0 (fun q => by omega)).trans h01
      have hU2 := (hf2.2.2 246 (fun q => by omega)).trans hU1
      have hC2 := hC1.kept (fun a a1 a2 => hf2.2.2 a (fun q => by omega))
      show am_Rq _ 0 1211 [some (.ref 0), some (.ref 2), some (.ref 238), some (.ref 246), some (.int (nI (7 * n))), some (.int (nI 1)), z6] [.int (nI 0)] _ _
      refine am_Rq.blk (is := [(.istore 6, 2), (.aload_n 2, 1)]) (q := (1214, [some (.ref 0), some (.ref 2), some (.ref 238), some (.ref 246), some (.int (nI (7 * n))), some (.int (nI 1)), some (.int (nI 0))], [.ref 238])) (by decide +kernel) rfl ?_
      dsimp only
      have hM3 := hM2
      obtain ⟨⟨⟨co2, hO2⟩, hS2, -⟩, -⟩ := hM3
      refine am_Rq.callV (show decode (am_by 0) 1214 = .ok (.invokevirtual 85, 3) by decide +kernel) rfl [] [] rfl rfl (Nat.le_of_ble_eq_true rfl) rfl hO2 rfl (m_thrown (d := 8) hO2 hS2) ?_
      rintro hq _ ⟨e1, rfl⟩
      rw [e1]
      clear e1 hq
      show am_Rq _ 0 1217 [some (.ref 0), some (.ref 2), some (.ref 238), some (.ref 246), some (.int (nI (7 * n))), some (.int (nI 1)), some (.int (nI 0))] [.int (nI 1)] _ _
      refine am_Rq.blk (is := [(.iload 5, 2)]) (q := (1219, [some (.ref 0), some (.ref 2), some (.ref 238), some (.ref 246), some (.int (nI (7 * n))), some (.int (nI 1)), some (.int (nI 0))], [.int (nI 1), .int (nI 1)])) (by decide +kernel) rfl ?_
      dsimp only
      refine am_Rq.if2T (t := 1224) (show decode (am_by 0) 1219 = .ok (.if_icmp .eq 5, 3) by decide +kernel) (by decide) (rfl) ?_
      refine am_Rq.blk (is := [(.iload 5, 2)]) (q := (1226, [some (.ref 0), some (.ref 2), some (.ref 238), some (.ref 246), some (.int (nI (7 * n))), some (.int (nI 1)), some (.int (nI 0))], [.int (nI 1)])) (by decide +kernel) rfl ?_
      dsimp only
      refine am_Rq.if1T (t := 1241) (show decode (am_by 0) 1226 = .ok (.ifCond .ne 15, 3) by decide +kernel) (by decide) (rfl) ?_
      refine am_Rq.blk (is := [(.goto 183, 3)]) (q := (1424, [some (.ref 0), some (.ref 2), some (.ref 238), some (.ref 246), some (.int (nI (7 * n))), some (.int (nI 1)), some (.int (nI 0))], [])) (by decide +kernel) rfl ?_
      dsimp only
      refine am_Rq.blk (is := [(.iinc 4 7, 3)]) (q := (1427, [some (.ref 0), some (.ref 2), some (.ref 238), some (.ref 246), some (.int ((nI (7 * n)) + (nI 7))), some (.int (nI 1)), some (.int (nI 0))], [])) (by decide +kernel) rfl ?_
      dsimp only
      rw [show (nI (7 * n)) + (nI 7) = nI ((7 * n) + 7) from nI_add _ _]
      refine am_Rq.blk (is := [(.goto (-1404), 3)]) (q := (23, [some (.ref 0), some (.ref 2), some (.ref 238), some (.ref 246), some (.int (nI ((7 * n) + 7))), some (.int (nI 1)), some (.int (nI 0))], [])) (by decide +kernel) rfl ?_
      dsimp only
      rw [show 7 * n + 7 = 7 * (n + 1) by omega]
      exact ih _ _ _ ⟨s, f, kn, nx, ks, hs, 1, h02, hC2, hM2, ⟨_, hU2⟩, hR.more, by rw [hf2.1, hl1]; omega, by rw [hf2.1, hl1]; omega, by rw [hf2.2.1, ht1]; omega⟩
    ·
      refine am_Rq.blk (is := [(.aload_n 1, 1), (.aload_n 0, 1), (.iload 4, 2), (.iconst 1, 1), (.iadd, 1)]) (q := (1170, [some (.ref 0), some (.ref 2), some (.ref 238), some (.ref 246), some (.int (nI (7 * n))), z5, z6], [.int ((nI (7 * n)) + (nI 1)), .ref 0, .ref 2])) (by decide +kernel) rfl ?_
      dsimp only
      rw [show (nI (7 * n)) + (nI 1) = nI ((7 * n) + 1) from nI_add _ _]
      refine am_Rq.ial (k := (7 * n) + 1) (show decode (am_by 0) 1170 = .ok (.iaload, 1) by decide +kernel) h0 (by omega) (by omega) ?_
      refine am_Rq.blk (is := [(.aload_n 0, 1), (.iload 4, 2), (.iconst 2, 1), (.iadd, 1)]) (q := (1176, [some (.ref 0), some (.ref 2), some (.ref 238), some (.ref 246), some (.int (nI (7 * n))), z5, z6], [.int ((nI (7 * n)) + (nI 2)), .ref 0, .int (xs ((7 * n) + 1)), .ref 2])) (by decide +kernel) rfl ?_
      dsimp only
      rw [show (nI (7 * n)) + (nI 2) = nI ((7 * n) + 2) from nI_add _ _]
      refine am_Rq.ial (k := (7 * n) + 2) (show decode (am_by 0) 1176 = .ok (.iaload, 1) by decide +kernel) h0 (by omega) (by omega) ?_
      refine am_Rq.blk (is := [(.aload_n 0, 1), (.iload 4, 2), (.iconst 3, 1), (.iadd, 1)]) (q := (1182, [some (.ref 0), some (.ref 2), some (.ref 238), some (.ref 246), some (.int (nI (7 * n))), z5, z6], [.int ((nI (7 * n)) + (nI 3)), .ref 0, .int (xs ((7 * n) + 2)), .int (xs ((7 * n) + 1)), .ref 2])) (by decide +kernel) rfl ?_
      dsimp only
      rw [show (nI (7 * n)) + (nI 3) = nI ((7 * n) + 3) from nI_add _ _]
      refine am_Rq.ial (k := (7 * n) + 3) (show decode (am_by 0) 1182 = .ok (.iaload, 1) by decide +kernel) h0 (by omega) (by omega) ?_
      refine am_Rq.blk (is := [(.aload_n 3, 1)]) (q := (1184, [some (.ref 0), some (.ref 2), some (.ref 238), some (.ref 246), some (.int (nI (7 * n))), z5, z6], [.ref 246, .int (xs ((7 * n) + 3)), .int (xs ((7 * n) + 2)), .int (xs ((7 * n) + 1)), .ref 2])) (by decide +kernel) rfl ?_
      dsimp only
      refine am_Rq.callS (show decode (am_by 0) 1184 = .ok (.invokestatic 139, 3) by decide +kernel) rfl [.ref 2, .int (xs ((7 * n) + 1)), .int (xs ((7 * n) + 2)), .int (xs ((7 * n) + 3)), .ref 246] [] rfl rfl (Nat.le_of_ble_eq_true rfl) rfl rfl (w_gets_no2 hC hU hc) ?_
      rintro hp1 _ ⟨rfl, he1⟩
      have hk : ∀ a, a < 247 → hp1[a]? = hp[a]? := fun a ha => by rw [he1]; exact List.getElem?_append_left (by omega)
      have hl1 : hp1.length = hp.length + 1 := by rw [he1]; exact ap_len rfl
      have ht1 : am_tot hp1 = am_tot hp + 6 := by rw [he1]; exact c_exT _ _
      have h01 := (hk 0 (by omega)).trans h0
      have hU1 := (hk 246 (by omega)).trans hU
      have hM1 := hM.kept (fun a a1 a2 => hk a (by omega))
      have hC1 := hC.kept (fun a a1 a2 => hk a (by omega))
      have hM0 := hM1
      obtain ⟨⟨⟨co1, hO1⟩, -⟩, -⟩ := hM0
      show am_Rq _ 0 1187 [some (.ref 0), some (.ref 2), some (.ref 238), some (.ref 246), some (.int (nI (7 * n))), z5, z6] [.int (nI 2)] _ _
      refine am_Rq.blk (is := [(.istore 5, 2), (.aload_n 2, 1), (.aload_n 0, 1), (.iload 4, 2), (.iconst 1, 1), (.iadd, 1)]) (q := (1195, [some (.ref 0), some (.ref 2), some (.ref 238), some (.ref 246), some (.int (nI (7 * n))), some (.int (nI 2)), z6], [.int ((nI (7 * n)) + (nI 1)), .ref 0, .ref 238])) (by decide +kernel) rfl ?_
      dsimp only
      rw [show (nI (7 * n)) + (nI 1) = nI ((7 * n) + 1) from nI_add _ _]
      refine am_Rq.ial (k := (7 * n) + 1) (show decode (am_by 0) 1195 = .ok (.iaload, 1) by decide +kernel) h01 (by omega) (by omega) ?_
      refine am_Rq.blk (is := [(.aload_n 0, 1), (.iload 4, 2), (.iconst 2, 1), (.iadd, 1)]) (q := (1201, [some (.ref 0), some (.ref 2), some (.ref 238), some (.ref 246), some (.int (nI (7 * n))), some (.int (nI 2)), z6], [.int ((nI (7 * n)) + (nI 2)), .ref 0, .int (xs ((7 * n) + 1)), .ref 238])) (by decide +kernel) rfl ?_
      dsimp only
      rw [show (nI (7 * n)) + (nI 2) = nI ((7 * n) + 2) from nI_add _ _]
      refine am_Rq.ial (k := (7 * n) + 2) (show decode (am_by 0) 1201 = .ok (.iaload, 1) by decide +kernel) h01 (by omega) (by omega) ?_
      refine am_Rq.blk (is := [(.aload_n 0, 1), (.iload 4, 2), (.iconst 3, 1), (.iadd, 1)]) (q := (1207, [some (.ref 0), some (.ref 2), some (.ref 238), some (.ref 246), some (.int (nI (7 * n))), some (.int (nI 2)), z6], [.int ((nI (7 * n)) + (nI 3)), .ref 0, .int (xs ((7 * n) + 2)), .int (xs ((7 * n) + 1)), .ref 238])) (by decide +kernel) rfl ?_
      dsimp only
      rw [show (nI (7 * n)) + (nI 3) = nI ((7 * n) + 3) from nI_add _ _]
      refine am_Rq.ial (k := (7 * n) + 3) (show decode (am_by 0) 1207 = .ok (.iaload, 1) by decide +kernel) h01 (by omega) (by omega) ?_
      refine am_Rq.callV (show decode (am_by 0) 1208 = .ok (.invokevirtual 141, 3) by decide +kernel) rfl [.int (xs ((7 * n) + 1)), .int (xs ((7 * n) + 2)), .int (xs ((7 * n) + 3))] [] rfl rfl (Nat.le_of_ble_eq_true rfl) rfl hO1 rfl (hm hp1 th hM1) ?_
      rintro hp2 _ ⟨rfl, hM2, hf2⟩
      have h02 := (hf2.2.2 0 (fun q => by omega)).trans h01
      have hU2 := (hf2.2.2 246 (fun q => by omega)).trans hU1
      have hC2 := hC1.kept (fun a a1 a2 => hf2.2.2 a (fun q => by omega))
      show am_Rq _ 0 1211 [some (.ref 0), some (.ref 2), some (.ref 238), some (.ref 246), some (.int (nI (7 * n))), some (.int (nI 2)), z6] [.int (nI 0)] _ _
      refine am_Rq.blk (is := [(.istore 6, 2), (.aload_n 2, 1)]) (q := (1214, [some (.ref 0), some (.ref 2), some (.ref 238), some (.ref 246), some (.int (nI (7 * n))), some (.int (nI 2)), some (.int (nI 0))], [.ref 238])) (by decide +kernel) rfl ?_
      dsimp only
      have hM3 := hM2
      obtain ⟨⟨⟨co2, hO2⟩, hS2, -⟩, -⟩ := hM3
      refine am_Rq.callV (show decode (am_by 0) 1214 = .ok (.invokevirtual 85, 3) by decide +kernel) rfl [] [] rfl rfl (Nat.le_of_ble_eq_true rfl) rfl hO2 rfl (m_thrown (d := 8) hO2 hS2) ?_
      rintro hq _ ⟨e1, rfl⟩
      rw [e1]
      clear e1 hq
      show am_Rq _ 0 1217 [some (.ref 0), some (.ref 2), some (.ref 238), some (.ref 246), some (.int (nI (7 * n))), some (.int (nI 2)), some (.int (nI 0))] [.int (nI 2)] _ _
      refine am_Rq.blk (is := [(.iload 5, 2)]) (q := (1219, [some (.ref 0), some (.ref 2), some (.ref 238), some (.ref 246), some (.int (nI (7 * n))), some (.int (nI 2)), some (.int (nI 0))], [.int (nI 2), .int (nI 2)])) (by decide +kernel) rfl ?_
      dsimp only
      refine am_Rq.if2T (t := 1224) (show decode (am_by 0) 1219 = .ok (.if_icmp .eq 5, 3) by decide +kernel) (by decide) (rfl) ?_
      refine am_Rq.blk (is := [(.iload 5, 2)]) (q := (1226, [some (.ref 0), some (.ref 2), some (.ref 238), some (.ref 246), some (.int (nI (7 * n))), some (.int (nI 2)), some (.int (nI 0))], [.int (nI 2)])) (by decide +kernel) rfl ?_
      dsimp only
      refine am_Rq.if1T (t := 1241) (show decode (am_by 0) 1226 = .ok (.ifCond .ne 15, 3) by decide +kernel) (by decide) (rfl) ?_
      refine am_Rq.blk (is := [(.goto 183, 3)]) (q := (1424, [some (.ref 0), some (.ref 2), some (.ref 238), some (.ref 246), some (.int (nI (7 * n))), some (.int (nI 2)), some (.int (nI 0))], [])) (by decide +kernel) rfl ?_
      dsimp only
      refine am_Rq.blk (is := [(.iinc 4 7, 3)]) (q := (1427, [some (.ref 0), some (.ref 2), some (.ref 238), some (.ref 246), some (.int ((nI (7 * n)) + (nI 7))), some (.int (nI 2)), some (.int (nI 0))], [])) (by decide +kernel) rfl ?_
      dsimp only
      rw [show (nI (7 * n)) + (nI 7) = nI ((7 * n) + 7) from nI_add _ _]
      refine am_Rq.blk (is := [(.goto (-1404), 3)]) (q := (23, [some (.ref 0), some (.ref 2), some (.ref 238), some (.ref 246), some (.int (nI ((7 * n) + 7))), some (.int (nI 2)), some (.int (nI 0))], [])) (by decide +kernel) rfl ?_
      dsimp only
      rw [show 7 * n + 7 = 7 * (n + 1) by omega]
      exact ih _ _ _ ⟨s, f, kn, nx, ks, hs, 2, h02, hC2, hM2, ⟨_, hU2⟩, hR.more, by rw [hf2.1, hl1]; omega, by rw [hf2.1, hl1]; omega, by rw [hf2.2.1, ht1]; omega⟩
theorem l_brings {L n : Nat} {xs : Nat → Int32} (hL : L ≤ 3584) (hn : 7 * n + 7 ≤ L) {hp : am_H} (h : l_St L xs hp n) {Q : am_H → am_R → Prop} (ih : ∀ hp1 z5 z6, l_St L xs hp1 (n + 1) → am_Rq 9 0 23 [some (.ref 0), some (.ref 2), some (.ref 238), some (.ref 246), some (.int (nI (7 * (n + 1)))), z5, z6] [] hp1 Q) {z5 z6 : Option Value} : am_Rq 9 0 1244 [some (.ref 0), some (.ref 2), some (.ref 238), some (.ref 246), some (.int (nI (7 * n))), z5, z6] [] hp Q := by
  obtain ⟨s, f, kn, nx, ks, hs, th, h0, hC, hM, ⟨ou, hU⟩, hR, l1, l2, l3⟩ := h
  have hp9 := p_brings hR (by omega) (xs (7 * n + 1)) (xs (7 * n + 2))
  rcases hp9 with ⟨v, s1, kn1, nx1, ks1, hc, hm⟩ | ⟨k, c, hin, hc, hm⟩
  ·
    refine am_Rq.blk (is := [(.aload_n 1, 1), (.aload_n 0, 1), (.iload 4, 2), (.iconst 1, 1), (.iadd, 1)]) (q := (1250, [some (.ref 0), some (.ref 2), some (.ref 238), some (.ref 246), some (.int (nI (7 * n))), z5, z6], [.int ((nI (7 * n)) + (nI 1)), .ref 0, .ref 2])) (by decide +kernel) rfl ?_
    dsimp only
    rw [show (nI (7 * n)) + (nI 1) = nI ((7 * n) + 1) from nI_add _ _]
    refine am_Rq.ial (k := (7 * n) + 1) (show decode (am_by 0) 1250 = .ok (.iaload, 1) by decide +kernel) h0 (by omega) (by omega) ?_
    refine am_Rq.blk (is := [(.aload_n 0, 1), (.iload 4, 2), (.iconst 2, 1), (.iadd, 1)]) (q := (1256, [some (.ref 0), some (.ref 2), some (.ref 238), some (.ref 246), some (.int (nI (7 * n))), z5, z6], [.int ((nI (7 * n)) + (nI 2)), .ref 0, .int (xs ((7 * n) + 1)), .ref 2])) (by decide +kernel) rfl ?_
    dsimp only
    rw [show (nI (7 * n)) + (nI 2) = nI ((7 * n) + 2) from nI_add _ _]
    refine am_Rq.ial (k := (7 * n) + 2) (show decode (am_by 0) 1256 = .ok (.iaload, 1) by decide +kernel) h0 (by omega) (by omega) ?_
    refine am_Rq.blk (is := [(.aload_n 3, 1)]) (q := (1258, [some (.ref 0), some (.ref 2), some (.ref 238), some (.ref 246), some (.int (nI (7 * n))), z5, z6], [.ref 246, .int (xs ((7 * n) + 2)), .int (xs ((7 * n) + 1)), .ref 2])) (by decide +kernel) rfl ?_
    dsimp only
    refine am_Rq.callS (show decode (am_by 0) 1258 = .ok (.invokestatic 142, 3) by decide +kernel) rfl [.ref 2, .int (xs ((7 * n) + 1)), .int (xs ((7 * n) + 2)), .ref 246] [] rfl rfl (Nat.le_of_ble_eq_true rfl) rfl rfl (w_brings hC hU hc) ?_
    rintro hp1 _ ⟨rfl, hC1, hU1, hf1⟩
    have h01 := (hf1.2.2 0 (fun q => by omega)).trans h0
    have hM1 := hM.kept (fun a a1 a2 => hf1.2.2 a (fun q => by omega))
    have hM0 := hM1
    obtain ⟨⟨⟨co1, hO1⟩, -⟩, -⟩ := hM0
    show am_Rq _ 0 1261 [some (.ref 0), some (.ref 2), some (.ref 238), some (.ref 246), some (.int (nI (7 * n))), z5, z6] [.int (nI 0)] _ _
    refine am_Rq.blk (is := [(.istore 5, 2), (.aload_n 2, 1), (.aload_n 0, 1), (.iload 4, 2), (.iconst 1, 1), (.iadd, 1)]) (q := (1269, [some (.ref 0), some (.ref 2), some (.ref 238), some (.ref 246), some (.int (nI (7 * n))), some (.int (nI 0)), z6], [.int ((nI (7 * n)) + (nI 1)), .ref 0, .ref 238])) (by decide +kernel) rfl ?_
    dsimp only
    rw [show (nI (7 * n)) + (nI 1) = nI ((7 * n) + 1) from nI_add _ _]
    refine am_Rq.ial (k := (7 * n) + 1) (show decode (am_by 0) 1269 = .ok (.iaload, 1) by decide +kernel) h01 (by omega) (by omega) ?_
    refine am_Rq.blk (is := [(.aload_n 0, 1), (.iload 4, 2), (.iconst 2, 1), (.iadd, 1)]) (q := (1275, [some (.ref 0), some (.ref 2), some (.ref 238), some (.ref 246), some (.int (nI (7 * n))), some (.int (nI 0)), z6], [.int ((nI (7 * n)) + (nI 2)), .ref 0, .int (xs ((7 * n) + 1)), .ref 238])) (by decide +kernel) rfl ?_
    dsimp only
    rw [show (nI (7 * n)) + (nI 2) = nI ((7 * n) + 2) from nI_add _ _]
    refine am_Rq.ial (k := (7 * n) + 2) (show decode (am_by 0) 1275 = .ok (.iaload, 1) by decide +kernel) h01 (by omega) (by omega) ?_
    refine am_Rq.callV (show decode (am_by 0) 1276 = .ok (.invokevirtual 144, 3) by decide +kernel) rfl [.int (xs ((7 * n) + 1)), .int (xs ((7 * n) + 2))] [] rfl rfl (Nat.le_of_ble_eq_true rfl) rfl hO1 rfl (hm hp1 th hM1) ?_
    rintro hp2 _ ⟨rfl, ⟨f2, hM2, hs2, hR2⟩, hf2⟩
    have h02 := (hf2.2.2 0 (fun q => by omega)).trans h01
    have hU2 := (hf2.2.2 246 (fun q => by omega)).trans hU1
    have hC2 := hC1.kept (fun a a1 a2 => hf2.2.2 a (fun q => by omega))
    show am_Rq _ 0 1279 [some (.ref 0), some (.ref 2), some (.ref 238), some (.ref 246), some (.int (nI (7 * n))), some (.int (nI 0)), z6] [.int v] _ _
    refine am_Rq.blk (is := [(.istore 6, 2), (.aload_n 2, 1)]) (q := (1282, [some (.ref 0), some (.ref 2), some (.ref 238), some (.ref 246), some (.int (nI (7 * n))), some (.int (nI 0)), some (.int v)], [.ref 238])) (by decide +kernel) rfl ?_
    dsimp only
    have hM3 := hM2
    obtain ⟨⟨⟨co2, hO2⟩, hS2, -⟩, -⟩ := hM3
    refine am_Rq.callV (show decode (am_by 0) 1282 = .ok (.invokevirtual 85, 3) by decide +kernel) rfl [] [] rfl rfl (Nat.le_of_ble_eq_true rfl) rfl hO2 rfl (m_thrown (d := 8) hO2 hS2) ?_
    rintro hq _ ⟨e1, rfl⟩
    rw [e1]
    clear e1 hq
    show am_Rq _ 0 1285 [some (.ref 0), some (.ref 2), some (.ref 238), some (.ref 246), some (.int (nI (7 * n))), some (.int (nI 0)), some (.int v)] [.int (nI 0)] _ _
    refine am_Rq.blk (is := [(.iload 5, 2)]) (q := (1287, [some (.ref 0), some (.ref 2), some (.ref 238), some (.ref 246), some (.int (nI (7 * n))), some (.int (nI 0)), some (.int v)], [.int (nI 0), .int (nI 0)])) (by decide +kernel) rfl ?_
    dsimp only
    refine am_Rq.if2T (t := 1292) (show decode (am_by 0) 1287 = .ok (.if_icmp .eq 5, 3) by decide +kernel) (by decide) (rfl) ?_
    refine am_Rq.blk (is := [(.iload 5, 2)]) (q := (1294, [some (.ref 0), some (.ref 2), some (.ref 238), some (.ref 246), some (.int (nI (7 * n))), some (.int (nI 0)), some (.int v)], [.int (nI 0)])) (by decide +kernel) rfl ?_
    dsimp only
    refine am_Rq.if1F (show decode (am_by 0) 1294 = .ok (.ifCond .ne 15, 3) by decide +kernel) (by decide) (rfl) ?_
    refine am_Rq.blk (is := [(.aload_n 3, 1), (.iconst 0, 1)]) (q := (1299, [some (.ref 0), some (.ref 2), some (.ref 238), some (.ref 246), some (.int (nI (7 * n))), some (.int (nI 0)), some (.int v)], [.int (nI 0), .ref 246])) (by decide +kernel) rfl ?_
    dsimp only
    refine am_Rq.lal (k := 0) (show decode (am_by 0) 1299 = .ok (.laload, 1) by decide +kernel) hU2 (by omega) (by omega) ?_
    refine am_Rq.blk (is := [(.iload 6, 2)]) (q := (1302, [some (.ref 0), some (.ref 2), some (.ref 238), some (.ref 246), some (.int (nI (7 * n))), some (.int (nI 0)), some (.int v)], [.int v, .long ((va_up ou 0 v.toInt64) 0)])) (by decide +kernel) rfl ?_
    dsimp only
    rw [va_up_self]
    refine am_Rq.blk (is := [(.i2l, 1), (.lcmp, 1)]) (q := (1304, [some (.ref 0), some (.ref 2), some (.ref 238), some (.ref 246), some (.int (nI (7 * n))), some (.int (nI 0)), some (.int v)], [.int (lg_cmp v.toInt64 v.toInt64)])) (by decide +kernel) rfl ?_
    dsimp only
    refine am_Rq.if1T (t := 1309) (show decode (am_by 0) 1304 = .ok (.ifCond .eq 5, 3) by decide +kernel) (by decide) (by rw [nm_ceq]; exact decide_eq_true rfl) ?_
    refine am_Rq.blk (is := [(.goto 115, 3)]) (q := (1424, [some (.ref 0), some (.ref 2), some (.ref 238), some (.ref 246), some (.int (nI (7 * n))), some (.int (nI 0)), some (.int v)], [])) (by decide +kernel) rfl ?_
    dsimp only
    refine am_Rq.blk (is := [(.iinc 4 7, 3)]) (q := (1427, [some (.ref 0), some (.ref 2), some (.ref 238), some (.ref 246), some (.int ((nI (7 * n)) + (nI 7))), some (.int (nI 0)), some (.int v)], [])) (by decide +kernel) rfl ?_
    dsimp only
    rw [show (nI (7 * n)) + (nI 7) = nI ((7 * n) + 7) from nI_add _ _]
    refine am_Rq.blk (is := [(.goto (-1404), 3)]) (q := (23, [some (.ref 0), some (.ref 2), some (.ref 238), some (.ref 246), some (.int (nI ((7 * n) + 7))), some (.int (nI 0)), some (.int v)], [])) (by decide +kernel) rfl ?_
    dsimp only
    rw [show 7 * n + 7 = 7 * (n + 1) by omega]
    exact ih _ _ _ ⟨s1, f2, kn1, nx1, ks1, hs2, 0, h02, hC2, hM2, ⟨_, hU2⟩, hR2, by rw [hf2.1, hf1.1]; omega, by rw [hf2.1, hf1.1]; omega, by rw [hf2.2.1, hf1.2.1]; omega⟩
  ·
    simp only [List.mem_cons, Prod.mk.injEq, List.not_mem_nil, or_false] at hin
    rcases hin with ⟨rfl, rfl⟩ | ⟨rfl, rfl⟩
    ·
      refine am_Rq.blk (is := [(.aload_n 1, 1), (.aload_n 0, 1), (.iload 4, 2), (.iconst 1, 1), (.iadd, 1)]) (q := (1250, [some (.ref 0), some (.ref 2), some (.ref 238), some (.ref 246), some (.int (nI (7 * n))), z5, z6], [.int ((nI (7 * n)) + (nI 1)), .ref 0, .ref 2])) (by decide +kernel) rfl ?_
      dsimp only
      rw [show (nI (7 * n)) + (nI 1) = nI ((7 * n) + 1) from nI_add _ _]
      refine am_Rq.ial (k := (7 * n) + 1) (show decode (am_by 0) 1250 = .ok (.iaload, 1) by decide +kernel) h0 (by omega) (by omega) ?_
      refine am_Rq.blk (is := [(.aload_n 0, 1), (.iload 4, 2), (.iconst 2, 1), (.iadd, 1)]) (q := (1256, [some (.ref 0), some (.ref 2), some (.ref 238), some (.ref 246), some (.int (nI (7 * n))), z5, z6], [.int ((nI (7 * n)) + (nI 2)), .ref 0, .int (xs ((7 * n) + 1)), .ref 2])) (by decide +kernel) rfl ?_
      dsimp only
      rw [show (nI (7 * n)) + (nI 2) = nI ((7 * n) + 2) from nI_add _ _]
      refine am_Rq.ial (k := (7 * n) + 2) (show decode (am_by 0) 1256 = .ok (.iaload, 1) by decide +kernel) h0 (by omega) (by omega) ?_
      refine am_Rq.blk (is := [(.aload_n 3, 1)]) (q := (1258, [some (.ref 0), some (.ref 2), some (.ref 238), some (.ref 246), some (.int (nI (7 * n))), z5, z6], [.ref 246, .int (xs ((7 * n) + 2)), .int (xs ((7 * n) + 1)), .ref 2])) (by decide +kernel) rfl ?_
      dsimp only
      refine am_Rq.callS (show decode (am_by 0) 1258 = .ok (.invokestatic 142, 3) by decide +kernel) rfl [.ref 2, .int (xs ((7 * n) + 1)), .int (xs ((7 * n) + 2)), .ref 246] [] rfl rfl (Nat.le_of_ble_eq_true rfl) rfl rfl (w_brings_no0 hC hU hc) ?_
      rintro hp1 _ ⟨rfl, he1⟩
      have hk : ∀ a, a < 247 → hp1[a]? = hp[a]? := fun a ha => by rw [he1]; exact List.getElem?_append_left (by omega)
      have hl1 : hp1.length = hp.length + 1 := by rw [he1]; exact ap_len rfl
      have ht1 : am_tot hp1 = am_tot hp + 6 := by rw [he1]; exact c_exT _ _
      have h01 := (hk 0 (by omega)).trans h0
      have hU1 := (hk 246 (by omega)).trans hU
      have hM1 := hM.kept (fun a a1 a2 => hk a (by omega))
      have hC1 := hC.kept (fun a a1 a2 => hk a (by omega))
      have hM0 := hM1
      obtain ⟨⟨⟨co1, hO1⟩, -⟩, -⟩ := hM0
      show am_Rq _ 0 1261 [some (.ref 0), some (.ref 2), some (.ref 238), some (.ref 246), some (.int (nI (7 * n))), z5, z6] [.int (nI 1)] _ _
      refine am_Rq.blk (is := [(.istore 5, 2), (.aload_n 2, 1), (.aload_n 0, 1), (.iload 4, 2), (.iconst 1, 1), (.iadd, 1)]) (q := (1269, [some (.ref 0), some (.ref 2), some (.ref 238), some (.ref 246), some (.int (nI (7 * n))), some (.int (nI 1)), z6], [.int ((nI (7 * n)) + (nI 1)), .ref 0, .ref 238])) (by decide +kernel) rfl ?_
      dsimp only
      rw [show (nI (7 * n)) + (nI 1) = nI ((7 * n) + 1) from nI_add _ _]
      refine am_Rq.ial (k := (7 * n) + 1) (show decode (am_by 0) 1269 = .ok (.iaload, 1) by decide +kernel) h01 (by omega) (by omega) ?_
      refine am_Rq.blk (is := [(.aload_n 0, 1), (.iload 4, 2), (.iconst 2, 1), (.iadd, 1)]) (q := (1275, [some (.ref 0), some (.ref 2), some (.ref 238), some (.ref 246), some (.int (nI (7 * n))), some (.int (nI 1)), z6], [.int ((nI (7 * n)) + (nI 2)), .ref 0, .int (xs ((7 * n) + 1)), .ref 238])) (by decide +kernel) rfl ?_
      dsimp only
      rw [show (nI (7 * n)) + (nI 2) = nI ((7 * n) + 2) from nI_add _ _]
      refine am_Rq.ial (k := (7 * n) + 2) (show decode (am_by 0) 1275 = .ok (.iaload, 1) by decide +kernel) h01 (by omega) (by omega) ?_
      refine am_Rq.callV (show decode (am_by 0) 1276 = .ok (.invokevirtual 144, 3) by decide +kernel) rfl [.int (xs ((7 * n) + 1)), .int (xs ((7 * n) + 2))] [] rfl rfl (Nat.le_of_ble_eq_true rfl) rfl hO1 rfl (hm hp1 th hM1) ?_
      rintro hp2 _ ⟨rfl, hM2, hf2⟩
      have h02 := (hf2.2.2 0 (fun q => by omega)).trans h01
      have hU2 := (hf2.2.2 246 (fun q => by omega)).trans hU1
      have hC2 := hC1.kept (fun a a1 a2 => hf2.2.2 a (fun q => by omega))
      show am_Rq _ 0 1279 [some (.ref 0), some (.ref 2), some (.ref 238), some (.ref 246), some (.int (nI (7 * n))), some (.int (nI 1)), z6] [.int (nI 0)] _ _
      refine am_Rq.blk (is := [(.istore 6, 2), (.aload_n 2, 1)]) (q := (1282, [some (.ref 0), some (.ref 2), some (.ref 238), some (.ref 246), some (.int (nI (7 * n))), some (.int (nI 1)), some (.int (nI 0))], [.ref 238])) (by decide +kernel) rfl ?_
      dsimp only
      have hM3 := hM2
      obtain ⟨⟨⟨co2, hO2⟩, hS2, -⟩, -⟩ := hM3
      refine am_Rq.callV (show decode (am_by 0) 1282 = .ok (.invokevirtual 85, 3) by decide +kernel) rfl [] [] rfl rfl (Nat.le_of_ble_eq_true rfl) rfl hO2 rfl (m_thrown (d := 8) hO2 hS2) ?_
      rintro hq _ ⟨e1, rfl⟩
      rw [e1]
      clear e1 hq
      show am_Rq _ 0 1285 [some (.ref 0), some (.ref 2), some (.ref 238), some (.ref 246), some (.int (nI (7 * n))), some (.int (nI 1)), some (.int (nI 0))] [.int (nI 1)] _ _
      refine am_Rq.blk (is := [(.iload 5, 2)]) (q := (1287, [some (.ref 0), some (.ref 2), some (.ref 238), some (.ref 246), some (.int (nI (7 * n))), some (.int (nI 1)), some (.int (nI 0))], [.int (nI 1), .int (nI 1)])) (by decide +kernel) rfl ?_
      dsimp only
      refine am_Rq.if2T (t := 1292) (show decode (am_by 0) 1287 = .ok (.if_icmp .eq 5, 3) by decide +kernel) (by decide) (rfl) ?_
      refine am_Rq.blk (is := [(.iload 5, 2)]) (q := (1294, [some (.ref 0), some (.ref 2), some (.ref 238), some (.ref 246), some (.int (nI (7 * n))), some (.int (nI 1)), some (.int (nI 0))], [.int (nI 1)])) (by decide +kernel) rfl ?_
      dsimp only
      refine am_Rq.if1T (t := 1309) (show decode (am_by 0) 1294 = .ok (.ifCond .ne 15, 3) by decide +kernel) (by decide) (rfl) ?_
      refine am_Rq.blk (is := [(.goto 115, 3)]) (q := (1424, [some (.ref 0), some (.ref 2), some (.ref 238), some (.ref 246), some (.int (nI (7 * n))), some (.int (nI 1)), some (.int (nI 0))], [])) (by decide +kernel) rfl ?_
      dsimp only
      refine am_Rq.blk (is := [(.iinc 4 7, 3)]) (q := (1427, [some (.ref 0), some (.ref 2), some (.ref 238), some (.ref 246), some (.int ((nI (7 * n)) + (nI 7))), some (.int (nI 1)), some (.int (nI 0))], [])) (by decide +kernel) rfl ?_
      dsimp only
      rw [show (nI (7 * n)) + (nI 7) = nI ((7 * n) + 7) from nI_add _ _]
      refine am_Rq.blk (is := [(.goto (-1404), 3)]) (q := (23, [some (.ref 0), some (.ref 2), some (.ref 238), some (.ref 246), some (.int (nI ((7 * n) + 7))), some (.int (nI 1)), some (.int (nI 0))], [])) (by decide +kernel) rfl ?_
      dsimp only
      rw [show 7 * n + 7 = 7 * (n + 1) by omega]
      exact ih _ _ _ ⟨s, f, kn, nx, ks, hs, 1, h02, hC2, hM2, ⟨_, hU2⟩, hR.more, by rw [hf2.1, hl1]; omega, by rw [hf2.1, hl1]; omega, by rw [hf2.2.1, ht1]; omega⟩
    ·
      refine am_Rq.blk (is := [(.aload_n 1, 1), (.aload_n 0, 1), (.iload 4, 2), (.iconst 1, 1), (.iadd, 1)]) (q := (1250, [some (.ref 0), some (.ref 2), some (.ref 238), some (.ref 246), some (.int (nI (7 * n))), z5, z6], [.int ((nI (7 * n)) + (nI 1)), .ref 0, .ref 2])) (by decide +kernel) rfl ?_
      dsimp only
      rw [show (nI (7 * n)) + (nI 1) = nI ((7 * n) + 1) from nI_add _ _]
      refine am_Rq.ial (k := (7 * n) + 1) (show decode (am_by 0) 1250 = .ok (.iaload, 1) by decide +kernel) h0 (by omega) (by omega) ?_
      refine am_Rq.blk (is := [(.aload_n 0, 1), (.iload 4, 2), (.iconst 2, 1), (.iadd, 1)]) (q := (1256, [some (.ref 0), some (.ref 2), some (.ref 238), some (.ref 246), some (.int (nI (7 * n))), z5, z6], [.int ((nI (7 * n)) + (nI 2)), .ref 0, .int (xs ((7 * n) + 1)), .ref 2])) (by decide +kernel) rfl ?_
      dsimp only
      rw [show (nI (7 * n)) + (nI 2) = nI ((7 * n) + 2) from nI_add _ _]
      refine am_Rq.ial (k := (7 * n) + 2) (show decode (am_by 0) 1256 = .ok (.iaload, 1) by decide +kernel) h0 (by omega) (by omega) ?_
      refine am_Rq.blk (is := [(.aload_n 3, 1)]) (q := (1258, [some (.ref 0), some (.ref 2), some (.ref 238), some (.ref 246), some (.int (nI (7 * n))), z5, z6], [.ref 246, .int (xs ((7 * n) + 2)), .int (xs ((7 * n) + 1)), .ref 2])) (by decide +kernel) rfl ?_
      dsimp only
      refine am_Rq.callS (show decode (am_by 0) 1258 = .ok (.invokestatic 142, 3) by decide +kernel) rfl [.ref 2, .int (xs ((7 * n) + 1)), .int (xs ((7 * n) + 2)), .ref 246] [] rfl rfl (Nat.le_of_ble_eq_true rfl) rfl rfl (w_brings_no2 hC hU hc) ?_
      rintro hp1 _ ⟨rfl, he1⟩
      have hk : ∀ a, a < 247 → hp1[a]? = hp[a]? := fun a ha => by rw [he1]; exact List.getElem?_append_left (by omega)
      have hl1 : hp1.length = hp.length + 1 := by rw [he1]; exact ap_len rfl
      have ht1 : am_tot hp1 = am_tot hp + 6 := by rw [he1]; exact c_exT _ _
      have h01 := (hk 0 (by omega)).trans h0
      have hU1 := (hk 246 (by omega)).trans hU
      have hM1 := hM.kept (fun a a1 a2 => hk a (by omega))
      have hC1 := hC.kept (fun a a1 a2 => hk a (by omega))
      have hM0 := hM1
      obtain ⟨⟨⟨co1, hO1⟩, -⟩, -⟩ := hM0
      show am_Rq _ 0 1261 [some (.ref 0), some (.ref 2), some (.ref 238), some (.ref 246), some (.int (nI (7 * n))), z5, z6] [.int (nI 2)] _ _
      refine am_Rq.blk (is := [(.istore 5, 2), (.aload_n 2, 1), (.aload_n 0, 1), (.iload 4, 2), (.iconst 1, 1), (.iadd, 1)]) (q := (1269, [some (.ref 0), some (.ref 2), some (.ref 238), some (.ref 246), some (.int (nI (7 * n))), some (.int (nI 2)), z6], [.int ((nI (7 * n)) + (nI 1)), .ref 0, .ref 238])) (by decide +kernel) rfl ?_
      dsimp only
      rw [show (nI (7 * n)) + (nI 1) = nI ((7 * n) + 1) from nI_add _ _]
      refine am_Rq.ial (k := (7 * n) + 1) (show decode (am_by 0) 1269 = .ok (.iaload, 1) by decide +kernel) h01 (by omega) (by omega) ?_
      refine am_Rq.blk (is := [(.aload_n 0, 1), (.iload 4, 2), (.iconst 2, 1), (.iadd, 1)]) (q := (1275, [some (.ref 0), some (.ref 2), some (.ref 238), some (.ref 246), some (.int (nI (7 * n))), some (.int (nI 2)), z6], [.int ((nI (7 * n)) + (nI 2)), .ref 0, .int (xs ((7 * n) + 1)), .ref 238])) (by decide +kernel) rfl ?_
      dsimp only
      rw [show (nI (7 * n)) + (nI 2) = nI ((7 * n) + 2) from nI_add _ _]
      refine am_Rq.ial (k := (7 * n) + 2) (show decode (am_by 0) 1275 = .ok (.iaload, 1) by decide +kernel) h01 (by omega) (by omega) ?_
      refine am_Rq.callV (show decode (am_by 0) 1276 = .ok (.invokevirtual 144, 3) by decide +kernel) rfl [.int (xs ((7 * n) + 1)), .int (xs ((7 * n) + 2))] [] rfl rfl (Nat.le_of_ble_eq_true rfl) rfl hO1 rfl (hm hp1 th hM1) ?_
      rintro hp2 _ ⟨rfl, hM2, hf2⟩
      have h02 := (hf2.2.2 0 (fun q => by omega)).trans h01
      have hU2 := (hf2.2.2 246 (fun q => by omega)).trans hU1
      have hC2 := hC1.kept (fun a a1 a2 => hf2.2.2 a (fun q => by omega))
      show am_Rq _ 0 1279 [some (.ref 0), some (.ref 2), some (.ref 238), some (.ref 246), some (.int (nI (7 * n))), some (.int (nI 2)), z6] [.int (nI 0)] _ _
      refine am_Rq.blk (is := [(.istore 6, 2), (.aload_n 2, 1)]) (q := (1282, [some (.ref 0), some (.ref 2), some (.ref 238), some (.ref 246), some (.int (nI (7 * n))), some (.int (nI 2)), some (.int (nI 0))], [.ref 238])) (by decide +kernel) rfl ?_
      dsimp only
      have hM3 := hM2
      obtain ⟨⟨⟨co2, hO2⟩, hS2, -⟩, -⟩ := hM3
      refine am_Rq.callV (show decode (am_by 0) 1282 = .ok (.invokevirtual 85, 3) by decide +kernel) rfl [] [] rfl rfl (Nat.le_of_ble_eq_true rfl) rfl hO2 rfl (m_thrown (d := 8) hO2 hS2) ?_
      rintro hq _ ⟨e1, rfl⟩
      rw [e1]
      clear e1 hq
      show am_Rq _ 0 1285 [some (.ref 0), some (.ref 2), some (.ref 238), some (.ref 246), some (.int (nI (7 * n))), some (.int (nI 2)), some (.int (nI 0))] [.int (nI 2)] _ _
      refine am_Rq.blk (is := [(.iload 5, 2)]) (q := (1287, [some (.ref 0), some (.ref 2), some (.ref 238), some (.ref 246), some (.int (nI (7 * n))), some (.int (nI 2)), some (.int (nI 0))], [.int (nI 2), .int (nI 2)])) (by decide +kernel) rfl ?_
      dsimp only
      refine am_Rq.if2T (t := 1292) (show decode (am_by 0) 1287 = .ok (.if_icmp .eq 5, 3) by decide +kernel) (by decide) (rfl) ?_
      refine am_Rq.blk (is := [(.iload 5, 2)]) (q := (1294, [some (.ref 0), some (.ref 2), some (.ref 238), some (.ref 246), some (.int (nI (7 * n))), some (.int (nI 2)), some (.int (nI 0))], [.int (nI 2)])) (by decide +kernel) rfl ?_
      dsimp only
      refine am_Rq.if1T (t := 1309) (show decode (am_by 0) 1294 = .ok (.ifCond .ne 15, 3) by decide +kernel) (by decide) (rfl) ?_
      refine am_Rq.blk (is := [(.goto 115, 3)]) (q := (1424, [some (.ref 0), some (.ref 2), some (.ref 238), some (.ref 246), some (.int (nI (7 * n))), some (.int (nI 2)), some (.int (nI 0))], [])) (by decide +kernel) rfl ?_
      dsimp only
      refine am_Rq.blk (is := [(.iinc 4 7, 3)]) (q := (1427, [some (.ref 0), some (.ref 2), some (.ref 238), some (.ref 246), some (.int ((nI (7 * n)) + (nI 7))), some (.int (nI 2)), some (.int (nI 0))], [])) (by decide +kernel) rfl ?_
      dsimp only
      rw [show (nI (7 * n)) + (nI 7) = nI ((7 * n) + 7) from nI_add _ _]
      refine am_Rq.blk (is := [(.goto (-1404), 3)]) (q := (23, [some (.ref 0), some (.ref 2), some (.ref 238), some (.ref 246), some (.int (nI ((7 * n) + 7))), some (.int (nI 2)), some (.int (nI 0))], [])) (by decide +kernel) rfl ?_
      dsimp only
      rw [show 7 * n + 7 = 7 * (n + 1) by omega]
      exact ih _ _ _ ⟨s, f, kn, nx, ks, hs, 2, h02, hC2, hM2, ⟨_, hU2⟩, hR.more, by rw [hf2.1, hl1]; omega, by rw [hf2.1, hl1]; omega, by rw [hf2.2.1, ht1]; omega⟩
theorem l_flip {L n : Nat} {xs : Nat → Int32} (hL : L ≤ 3584) (hn : 7 * n + 7 ≤ L) {hp : am_H} (h : l_St L xs hp n) {Q : am_H → am_R → Prop} (ih : ∀ hp1 z5 z6, l_St L xs hp1 (n + 1) → am_Rq 9 0 23 [some (.ref 0), some (.ref 2), some (.ref 238), some (.ref 246), some (.int (nI (7 * (n + 1)))), z5, z6] [] hp1 Q) {z5 z6 : Option Value} : am_Rq 9 0 1312 [some (.ref 0), some (.ref 2), some (.ref 238), some (.ref 246), some (.int (nI (7 * n))), z5, z6] [] hp Q := by
  obtain ⟨s, f, kn, nx, ks, hs, th, h0, hC, hM, ⟨ou, hU⟩, hR, l1, l2, l3⟩ := h
  have hp9 := p_flip hR (by omega) (xs (7 * n + 1)) (xs (7 * n + 2))
  rcases hp9 with ⟨v, s1, kn1, nx1, ks1, hc, hm⟩ | ⟨k, c, hin, hc, hm⟩
  ·
    refine am_Rq.blk (is := [(.aload_n 1, 1), (.aload_n 0, 1), (.iload 4, 2), (.iconst 1, 1), (.iadd, 1)]) (q := (1318, [some (.ref 0), some (.ref 2), some (.ref 238), some (.ref 246), some (.int (nI (7 * n))), z5, z6], [.int ((nI (7 * n)) + (nI 1)), .ref 0, .ref 2])) (by decide +kernel) rfl ?_
    dsimp only
    rw [show (nI (7 * n)) + (nI 1) = nI ((7 * n) + 1) from nI_add _ _]
    refine am_Rq.ial (k := (7 * n) + 1) (show decode (am_by 0) 1318 = .ok (.iaload, 1) by decide +kernel) h0 (by omega) (by omega) ?_
    refine am_Rq.blk (is := [(.aload_n 0, 1), (.iload 4, 2), (.iconst 2, 1), (.iadd, 1)]) (q := (1324, [some (.ref 0), some (.ref 2), some (.ref 238), some (.ref 246), some (.int (nI (7 * n))), z5, z6], [.int ((nI (7 * n)) + (nI 2)), .ref 0, .int (xs ((7 * n) + 1)), .ref 2])) (by decide +kernel) rfl ?_
    dsimp only
    rw [show (nI (7 * n)) + (nI 2) = nI ((7 * n) + 2) from nI_add _ _]
    refine am_Rq.ial (k := (7 * n) + 2) (show decode (am_by 0) 1324 = .ok (.iaload, 1) by decide +kernel) h0 (by omega) (by omega) ?_
    refine am_Rq.blk (is := [(.aload_n 3, 1)]) (q := (1326, [some (.ref 0), some (.ref 2), some (.ref 238), some (.ref 246), some (.int (nI (7 * n))), z5, z6], [.ref 246, .int (xs ((7 * n) + 2)), .int (xs ((7 * n) + 1)), .ref 2])) (by decide +kernel) rfl ?_
    dsimp only
    refine am_Rq.callS (show decode (am_by 0) 1326 = .ok (.invokestatic 145, 3) by decide +kernel) rfl [.ref 2, .int (xs ((7 * n) + 1)), .int (xs ((7 * n) + 2)), .ref 246] [] rfl rfl (Nat.le_of_ble_eq_true rfl) rfl rfl (w_flip hC hU hc) ?_
    rintro hp1 _ ⟨rfl, hC1, hU1, hf1⟩
    have h01 := (hf1.2.2 0 (fun q => by omega)).trans h0
    have hM1 := hM.kept (fun a a1 a2 => hf1.2.2 a (fun q => by omega))
    have hM0 := hM1
    obtain ⟨⟨⟨co1, hO1⟩, -⟩, -⟩ := hM0
    show am_Rq _ 0 1329 [some (.ref 0), some (.ref 2), some (.ref 238), some (.ref 246), some (.int (nI (7 * n))), z5, z6] [.int (nI 0)] _ _
    refine am_Rq.blk (is := [(.istore 5, 2), (.aload_n 2, 1), (.aload_n 0, 1), (.iload 4, 2), (.iconst 1, 1), (.iadd, 1)]) (q := (1337, [some (.ref 0), some (.ref 2), some (.ref 238), some (.ref 246), some (.int (nI (7 * n))), some (.int (nI 0)), z6], [.int ((nI (7 * n)) + (nI 1)), .ref 0, .ref 238])) (by decide +kernel) rfl ?_
    dsimp only
    rw [show (nI (7 * n)) + (nI 1) = nI ((7 * n) + 1) from nI_add _ _]
    refine am_Rq.ial (k := (7 * n) + 1) (show decode (am_by 0) 1337 = .ok (.iaload, 1) by decide +kernel) h01 (by omega) (by omega) ?_
    refine am_Rq.blk (is := [(.aload_n 0, 1), (.iload 4, 2), (.iconst 2, 1), (.iadd, 1)]) (q := (1343, [some (.ref 0), some (.ref 2), some (.ref 238), some (.ref 246), some (.int (nI (7 * n))), some (.int (nI 0)), z6], [.int ((nI (7 * n)) + (nI 2)), .ref 0, .int (xs ((7 * n) + 1)), .ref 238])) (by decide +kernel) rfl ?_
    dsimp only
    rw [show (nI (7 * n)) + (nI 2) = nI ((7 * n) + 2) from nI_add _ _]
    refine am_Rq.ial (k := (7 * n) + 2) (show decode (am_by 0) 1343 = .ok (.iaload, 1) by decide +kernel) h01 (by omega) (by omega) ?_
    refine am_Rq.callV (show decode (am_by 0) 1344 = .ok (.invokevirtual 147, 3) by decide +kernel) rfl [.int (xs ((7 * n) + 1)), .int (xs ((7 * n) + 2))] [] rfl rfl (Nat.le_of_ble_eq_true rfl) rfl hO1 rfl (hm hp1 th hM1) ?_
    rintro hp2 _ ⟨rfl, ⟨f2, hM2, hs2, hR2⟩, hf2⟩
    have h02 := (hf2.2.2 0 (fun q => by omega)).trans h01
    have hU2 := (hf2.2.2 246 (fun q => by omega)).trans hU1
    have hC2 := hC1.kept (fun a a1 a2 => hf2.2.2 a (fun q => by omega))
    show am_Rq _ 0 1347 [some (.ref 0), some (.ref 2), some (.ref 238), some (.ref 246), some (.int (nI (7 * n))), some (.int (nI 0)), z6] [.int v] _ _
    refine am_Rq.blk (is := [(.istore 6, 2), (.aload_n 2, 1)]) (q := (1350, [some (.ref 0), some (.ref 2), some (.ref 238), some (.ref 246), some (.int (nI (7 * n))), some (.int (nI 0)), some (.int v)], [.ref 238])) (by decide +kernel) rfl ?_
    dsimp only
    have hM3 := hM2
    obtain ⟨⟨⟨co2, hO2⟩, hS2, -⟩, -⟩ := hM3
    refine am_Rq.callV (show decode (am_by 0) 1350 = .ok (.invokevirtual 85, 3) by decide +kernel) rfl [] [] rfl rfl (Nat.le_of_ble_eq_true rfl) rfl hO2 rfl (m_thrown (d := 8) hO2 hS2) ?_
    rintro hq _ ⟨e1, rfl⟩
    rw [e1]
    clear e1 hq
    show am_Rq _ 0 1353 [some (.ref 0), some (.ref 2), some (.ref 238), some (.ref 246), some (.int (nI (7 * n))), some (.int (nI 0)), some (.int v)] [.int (nI 0)] _ _
    refine am_Rq.blk (is := [(.iload 5, 2)]) (q := (1355, [some (.ref 0), some (.ref 2), some (.ref 238), some (.ref 246), some (.int (nI (7 * n))), some (.int (nI 0)), some (.int v)], [.int (nI 0), .int (nI 0)])) (by decide +kernel) rfl ?_
    dsimp only
    refine am_Rq.if2T (t := 1360) (show decode (am_by 0) 1355 = .ok (.if_icmp .eq 5, 3) by decide +kernel) (by decide) (rfl) ?_
    refine am_Rq.blk (is := [(.iload 5, 2)]) (q := (1362, [some (.ref 0), some (.ref 2), some (.ref 238), some (.ref 246), some (.int (nI (7 * n))), some (.int (nI 0)), some (.int v)], [.int (nI 0)])) (by decide +kernel) rfl ?_
    dsimp only
    refine am_Rq.if1F (show decode (am_by 0) 1362 = .ok (.ifCond .ne 15, 3) by decide +kernel) (by decide) (rfl) ?_
    refine am_Rq.blk (is := [(.aload_n 3, 1), (.iconst 0, 1)]) (q := (1367, [some (.ref 0), some (.ref 2), some (.ref 238), some (.ref 246), some (.int (nI (7 * n))), some (.int (nI 0)), some (.int v)], [.int (nI 0), .ref 246])) (by decide +kernel) rfl ?_
    dsimp only
    refine am_Rq.lal (k := 0) (show decode (am_by 0) 1367 = .ok (.laload, 1) by decide +kernel) hU2 (by omega) (by omega) ?_
    refine am_Rq.blk (is := [(.iload 6, 2)]) (q := (1370, [some (.ref 0), some (.ref 2), some (.ref 238), some (.ref 246), some (.int (nI (7 * n))), some (.int (nI 0)), some (.int v)], [.int v, .long ((va_up ou 0 v.toInt64) 0)])) (by decide +kernel) rfl ?_
    dsimp only
    rw [va_up_self]
    refine am_Rq.blk (is := [(.i2l, 1), (.lcmp, 1)]) (q := (1372, [some (.ref 0), some (.ref 2), some (.ref 238), some (.ref 246), some (.int (nI (7 * n))), some (.int (nI 0)), some (.int v)], [.int (lg_cmp v.toInt64 v.toInt64)])) (by decide +kernel) rfl ?_
    dsimp only
    refine am_Rq.if1T (t := 1377) (show decode (am_by 0) 1372 = .ok (.ifCond .eq 5, 3) by decide +kernel) (by decide) (by rw [nm_ceq]; exact decide_eq_true rfl) ?_
    refine am_Rq.blk (is := [(.goto 47, 3)]) (q := (1424, [some (.ref 0), some (.ref 2), some (.ref 238), some (.ref 246), some (.int (nI (7 * n))), some (.int (nI 0)), some (.int v)], [])) (by decide +kernel) rfl ?_
    dsimp only
    refine am_Rq.blk (is := [(.iinc 4 7, 3)]) (q := (1427, [some (.ref 0), some (.ref 2), some (.ref 238), some (.ref 246), some (.int ((nI (7 * n)) + (nI 7))), some (.int (nI 0)), some (.int v)], [])) (by decide +kernel) rfl ?_
    dsimp only
    rw [show (nI (7 * n)) + (nI 7) = nI ((7 * n) + 7) from nI_add _ _]
    refine am_Rq.blk (is := [(.goto (-1404), 3)]) (q := (23, [some (.ref 0), some (.ref 2), some (.ref 238), some (.ref 246), some (.int (nI ((7 * n) + 7))), some (.int (nI 0)), some (.int v)], [])) (by decide +kernel) rfl ?_
    dsimp only
    rw [show 7 * n + 7 = 7 * (n + 1) by omega]
    exact ih _ _ _ ⟨s1, f2, kn1, nx1, ks1, hs2, 0, h02, hC2, hM2, ⟨_, hU2⟩, hR2, by rw [hf2.1, hf1.1]; omega, by rw [hf2.1, hf1.1]; omega, by rw [hf2.2.1, hf1.2.1]; omega⟩
  ·
    simp only [List.mem_cons, Prod.mk.injEq, List.not_mem_nil, or_false] at hin
    rcases hin with ⟨rfl, rfl⟩
    refine am_Rq.blk (is := [(.aload_n 1, 1), (.aload_n 0, 1), (.iload 4, 2), (.iconst 1, 1), (.iadd, 1)]) (q := (1318, [some (.ref 0), some (.ref 2), some (.ref 238), some (.ref 246), some (.int (nI (7 * n))), z5, z6], [.int ((nI (7 * n)) + (nI 1)), .ref 0, .ref 2])) (by decide +kernel) rfl ?_
    dsimp only
    rw [show (nI (7 * n)) + (nI 1) = nI ((7 * n) + 1) from nI_add _ _]
    refine am_Rq.ial (k := (7 * n) + 1) (show decode (am_by 0) 1318 = .ok (.iaload, 1) by decide +kernel) h0 (by omega) (by omega) ?_
    refine am_Rq.blk (is := [(.aload_n 0, 1), (.iload 4, 2), (.iconst 2, 1), (.iadd, 1)]) (q := (1324, [some (.ref 0), some (.ref 2), some (.ref 238), some (.ref 246), some (.int (nI (7 * n))), z5, z6], [.int ((nI (7 * n)) + (nI 2)), .ref 0, .int (xs ((7 * n) + 1)), .ref 2])) (by decide +kernel) rfl ?_
    dsimp only
    rw [show (nI (7 * n)) + (nI 2) = nI ((7 * n) + 2) from nI_add _ _]
    refine am_Rq.ial (k := (7 * n) + 2) (show decode (am_by 0) 1324 = .ok (.iaload, 1) by decide +kernel) h0 (by omega) (by omega) ?_
    refine am_Rq.blk (is := [(.aload_n 3, 1)]) (q := (1326, [some (.ref 0), some (.ref 2), some (.ref 238), some (.ref 246), some (.int (nI (7 * n))), z5, z6], [.ref 246, .int (xs ((7 * n) + 2)), .int (xs ((7 * n) + 1)), .ref 2])) (by decide +kernel) rfl ?_
    dsimp only
    refine am_Rq.callS (show decode (am_by 0) 1326 = .ok (.invokestatic 145, 3) by decide +kernel) rfl [.ref 2, .int (xs ((7 * n) + 1)), .int (xs ((7 * n) + 2)), .ref 246] [] rfl rfl (Nat.le_of_ble_eq_true rfl) rfl rfl (w_flip_no0 hC hU hc) ?_
    rintro hp1 _ ⟨rfl, he1⟩
    have hk : ∀ a, a < 247 → hp1[a]? = hp[a]? := fun a ha => by rw [he1]; exact List.getElem?_append_left (by omega)
    have hl1 : hp1.length = hp.length + 1 := by rw [he1]; exact ap_len rfl
    have ht1 : am_tot hp1 = am_tot hp + 6 := by rw [he1]; exact c_exT _ _
    have h01 := (hk 0 (by omega)).trans h0
    have hU1 := (hk 246 (by omega)).trans hU
    have hM1 := hM.kept (fun a a1 a2 => hk a (by omega))
    have hC1 := hC.kept (fun a a1 a2 => hk a (by omega))
    have hM0 := hM1
    obtain ⟨⟨⟨co1, hO1⟩, -⟩, -⟩ := hM0
    show am_Rq _ 0 1329 [some (.ref 0), some (.ref 2), some (.ref 238), some (.ref 246), some (.int (nI (7 * n))), z5, z6] [.int (nI 1)] _ _
    refine am_Rq.blk (is := [(.istore 5, 2), (.aload_n 2, 1), (.aload_n 0, 1), (.iload 4, 2), (.iconst 1, 1), (.iadd, 1)]) (q := (1337, [some (.ref 0), some (.ref 2), some (.ref 238), some (.ref 246), some (.int (nI (7 * n))), some (.int (nI 1)), z6], [.int ((nI (7 * n)) + (nI 1)), .ref 0, .ref 238])) (by decide +kernel) rfl ?_
    dsimp only
    rw [show (nI (7 * n)) + (nI 1) = nI ((7 * n) + 1) from nI_add _ _]
    refine am_Rq.ial (k := (7 * n) + 1) (show decode (am_by 0) 1337 = .ok (.iaload, 1) by decide +kernel) h01 (by omega) (by omega) ?_
    refine am_Rq.blk (is := [(.aload_n 0, 1), (.iload 4, 2), (.iconst 2, 1), (.iadd, 1)]) (q := (1343, [some (.ref 0), some (.ref 2), some (.ref 238), some (.ref 246), some (.int (nI (7 * n))), some (.int (nI 1)), z6], [.int ((nI (7 * n)) + (nI 2)), .ref 0, .int (xs ((7 * n) + 1)), .ref 238])) (by decide +kernel) rfl ?_
    dsimp only
    rw [show (nI (7 * n)) + (nI 2) = nI ((7 * n) + 2) from nI_add _ _]
    refine am_Rq.ial (k := (7 * n) + 2) (show decode (am_by 0) 1343 = .ok (.iaload, 1) by decide +kernel) h01 (by omega) (by omega) ?_
    refine am_Rq.callV (show decode (am_by 0) 1344 = .ok (.invokevirtual 147, 3) by decide +kernel) rfl [.int (xs ((7 * n) + 1)), .int (xs ((7 * n) + 2))] [] rfl rfl (Nat.le_of_ble_eq_true rfl) rfl hO1 rfl (hm hp1 th hM1) ?_
    rintro hp2 _ ⟨rfl, hM2, hf2⟩
    have h02 := (hf2.2.2 0 (fun q => by omega)).trans h01
    have hU2 := (hf2.2.2 246 (fun q => by omega)).trans hU1
    have hC2 := hC1.kept (fun a a1 a2 => hf2.2.2 a (fun q => by omega))
    show am_Rq _ 0 1347 [some (.ref 0), some (.ref 2), some (.ref 238), some (.ref 246), some (.int (nI (7 * n))), some (.int (nI 1)), z6] [.int (nI 0)] _ _
    refine am_Rq.blk (is := [(.istore 6, 2), (.aload_n 2, 1)]) (q := (1350, [some (.ref 0), some (.ref 2), some (.ref 238), some (.ref 246), some (.int (nI (7 * n))), some (.int (nI 1)), some (.int (nI 0))], [.ref 238])) (by decide +kernel) rfl ?_
    dsimp only
    have hM3 := hM2
    obtain ⟨⟨⟨co2, hO2⟩, hS2, -⟩, -⟩ := hM3
    refine am_Rq.callV (show decode (am_by 0) 1350 = .ok (.invokevirtual 85, 3) by decide +kernel) rfl [] [] rfl rfl (Nat.le_of_ble_eq_true rfl) rfl hO2 rfl (m_thrown (d := 8) hO2 hS2) ?_
    rintro hq _ ⟨e1, rfl⟩
    rw [e1]
    clear e1 hq
    show am_Rq _ 0 1353 [some (.ref 0), some (.ref 2), some (.ref 238), some (.ref 246), some (.int (nI (7 * n))), some (.int (nI 1)), some (.int (nI 0))] [.int (nI 1)] _ _
    refine am_Rq.blk (is := [(.iload 5, 2)]) (q := (1355, [some (.ref 0), some (.ref 2), some (.ref 238), some (.ref 246), some (.int (nI (7 * n))), some (.int (nI 1)), some (.int (nI 0))], [.int (nI 1), .int (nI 1)])) (by decide +kernel) rfl ?_
    dsimp only
    refine am_Rq.if2T (t := 1360) (show decode (am_by 0) 1355 = .ok (.if_icmp .eq 5, 3) by decide +kernel) (by decide) (rfl) ?_
    refine am_Rq.blk (is := [(.iload 5, 2)]) (q := (1362, [some (.ref 0), some (.ref 2), some (.ref 238), some (.ref 246), some (.int (nI (7 * n))), some (.int (nI 1)), some (.int (nI 0))], [.int (nI 1)])) (by decide +kernel) rfl ?_
    dsimp only
    refine am_Rq.if1T (t := 1377) (show decode (am_by 0) 1362 = .ok (.ifCond .ne 15, 3) by decide +kernel) (by decide) (rfl) ?_
    refine am_Rq.blk (is := [(.goto 47, 3)]) (q := (1424, [some (.ref 0), some (.ref 2), some (.ref 238), some (.ref 246), some (.int (nI (7 * n))), some (.int (nI 1)), some (.int (nI 0))], [])) (by decide +kernel) rfl ?_
    dsimp only
    refine am_Rq.blk (is := [(.iinc 4 7, 3)]) (q := (1427, [some (.ref 0), some (.ref 2), some (.ref 238), some (.ref 246), some (.int ((nI (7 * n)) + (nI 7))), some (.int (nI 1)), some (.int (nI 0))], [])) (by decide +kernel) rfl ?_
    dsimp only
    rw [show (nI (7 * n)) + (nI 7) = nI ((7 * n) + 7) from nI_add _ _]
    refine am_Rq.blk (is := [(.goto (-1404), 3)]) (q := (23, [some (.ref 0), some (.ref 2), some (.ref 238), some (.ref 246), some (.int (nI ((7 * n) + 7))), some (.int (nI 1)), some (.int (nI 0))], [])) (by decide +kernel) rfl ?_
    dsimp only
    rw [show 7 * n + 7 = 7 * (n + 1) by omega]
    exact ih _ _ _ ⟨s, f, kn, nx, ks, hs, 1, h02, hC2, hM2, ⟨_, hU2⟩, hR.more, by rw [hf2.1, hl1]; omega, by rw [hf2.1, hl1]; omega, by rw [hf2.2.1, ht1]; omega⟩
theorem l_undo {L n : Nat} {xs : Nat → Int32} (hL : L ≤ 3584) (hn : 7 * n + 7 ≤ L) {hp : am_H} (h : l_St L xs hp n) {Q : am_H → am_R → Prop} (ih : ∀ hp1 z5 z6, l_St L xs hp1 (n + 1) → am_Rq 9 0 23 [some (.ref 0), some (.ref 2), some (.ref 238), some (.ref 246), some (.int (nI (7 * (n + 1)))), z5, z6] [] hp1 Q) {z5 z6 : Option Value} : am_Rq 9 0 1380 [some (.ref 0), some (.ref 2), some (.ref 238), some (.ref 246), some (.int (nI (7 * n))), z5, z6] [] hp Q := by
  obtain ⟨s, f, kn, nx, ks, hs, th, h0, hC, hM, ⟨ou, hU⟩, hR, l1, l2, l3⟩ := h
  have hp9 := p_undo hR (by omega) 
  rcases hp9 with ⟨v, s1, kn1, nx1, ks1, hc, hm⟩ | ⟨k, c, hin, hc, hm⟩
  ·
    refine am_Rq.blk (is := [(.aload_n 1, 1), (.aload_n 3, 1)]) (q := (1382, [some (.ref 0), some (.ref 2), some (.ref 238), some (.ref 246), some (.int (nI (7 * n))), z5, z6], [.ref 246, .ref 2])) (by decide +kernel) rfl ?_
    dsimp only
    refine am_Rq.callS (show decode (am_by 0) 1382 = .ok (.invokestatic 148, 3) by decide +kernel) rfl [.ref 2, .ref 246] [] rfl rfl (Nat.le_of_ble_eq_true rfl) rfl rfl (w_undo hC hU hc) ?_
    rintro hp1 _ ⟨rfl, hC1, hU1, hf1⟩
    have h01 := (hf1.2.2 0 (fun q => by omega)).trans h0
    have hM1 := hM.kept (fun a a1 a2 => hf1.2.2 a (fun q => by omega))
    have hM0 := hM1
    obtain ⟨⟨⟨co1, hO1⟩, -⟩, -⟩ := hM0
    show am_Rq _ 0 1385 [some (.ref 0), some (.ref 2), some (.ref 238), some (.ref 246), some (.int (nI (7 * n))), z5, z6] [.int (nI 0)] _ _
    refine am_Rq.blk (is := [(.istore 5, 2), (.aload_n 2, 1)]) (q := (1388, [some (.ref 0), some (.ref 2), some (.ref 238), some (.ref 246), some (.int (nI (7 * n))), some (.int (nI 0)), z6], [.ref 238])) (by decide +kernel) rfl ?_
    dsimp only
    refine am_Rq.callV (show decode (am_by 0) 1388 = .ok (.invokevirtual 151, 3) by decide +kernel) rfl [] [] rfl rfl (Nat.le_of_ble_eq_true rfl) rfl hO1 rfl (hm hp1 th hM1) ?_
    rintro hp2 _ ⟨rfl, ⟨f2, hM2, hs2, hR2⟩, hf2⟩
    have h02 := (hf2.2.2 0 (fun q => by omega)).trans h01
    have hU2 := (hf2.2.2 246 (fun q => by omega)).trans hU1
    have hC2 := hC1.kept (fun a a1 a2 => hf2.2.2 a (fun q => by omega))
    show am_Rq _ 0 1391 [some (.ref 0), some (.ref 2), some (.ref 238), some (.ref 246), some (.int (nI (7 * n))), some (.int (nI 0)), z6] [.int v] _ _
    refine am_Rq.blk (is := [(.istore 6, 2), (.aload_n 2, 1)]) (q := (1394, [some (.ref 0), some (.ref 2), some (.ref 238), some (.ref 246), some (.int (nI (7 * n))), some (.int (nI 0)), some (.int v)], [.ref 238])) (by decide +kernel) rfl ?_
    dsimp only
    have hM3 := hM2
    obtain ⟨⟨⟨co2, hO2⟩, hS2, -⟩, -⟩ := hM3
    refine am_Rq.callV (show decode (am_by 0) 1394 = .ok (.invokevirtual 85, 3) by decide +kernel) rfl [] [] rfl rfl (Nat.le_of_ble_eq_true rfl) rfl hO2 rfl (m_thrown (d := 8) hO2 hS2) ?_
    rintro hq _ ⟨e1, rfl⟩
    rw [e1]
    clear e1 hq
    show am_Rq _ 0 1397 [some (.ref 0), some (.ref 2), some (.ref 238), some (.ref 246), some (.int (nI (7 * n))), some (.int (nI 0)), some (.int v)] [.int (nI 0)] _ _
    refine am_Rq.blk (is := [(.iload 5, 2)]) (q := (1399, [some (.ref 0), some (.ref 2), some (.ref 238), some (.ref 246), some (.int (nI (7 * n))), some (.int (nI 0)), some (.int v)], [.int (nI 0), .int (nI 0)])) (by decide +kernel) rfl ?_
    dsimp only
    refine am_Rq.if2T (t := 1404) (show decode (am_by 0) 1399 = .ok (.if_icmp .eq 5, 3) by decide +kernel) (by decide) (rfl) ?_
    refine am_Rq.blk (is := [(.iload 5, 2)]) (q := (1406, [some (.ref 0), some (.ref 2), some (.ref 238), some (.ref 246), some (.int (nI (7 * n))), some (.int (nI 0)), some (.int v)], [.int (nI 0)])) (by decide +kernel) rfl ?_
    dsimp only
    refine am_Rq.if1F (show decode (am_by 0) 1406 = .ok (.ifCond .ne 15, 3) by decide +kernel) (by decide) (rfl) ?_
    refine am_Rq.blk (is := [(.aload_n 3, 1), (.iconst 0, 1)]) (q := (1411, [some (.ref 0), some (.ref 2), some (.ref 238), some (.ref 246), some (.int (nI (7 * n))), some (.int (nI 0)), some (.int v)], [.int (nI 0), .ref 246])) (by decide +kernel) rfl ?_
    dsimp only
    refine am_Rq.lal (k := 0) (show decode (am_by 0) 1411 = .ok (.laload, 1) by decide +kernel) hU2 (by omega) (by omega) ?_
    refine am_Rq.blk (is := [(.iload 6, 2)]) (q := (1414, [some (.ref 0), some (.ref 2), some (.ref 238), some (.ref 246), some (.int (nI (7 * n))), some (.int (nI 0)), some (.int v)], [.int v, .long ((va_up ou 0 v.toInt64) 0)])) (by decide +kernel) rfl ?_
    dsimp only
    rw [va_up_self]
    refine am_Rq.blk (is := [(.i2l, 1), (.lcmp, 1)]) (q := (1416, [some (.ref 0), some (.ref 2), some (.ref 238), some (.ref 246), some (.int (nI (7 * n))), some (.int (nI 0)), some (.int v)], [.int (lg_cmp v.toInt64 v.toInt64)])) (by decide +kernel) rfl ?_
    dsimp only
    refine am_Rq.if1T (t := 1421) (show decode (am_by 0) 1416 = .ok (.ifCond .eq 5, 3) by decide +kernel) (by decide) (by rw [nm_ceq]; exact decide_eq_true rfl) ?_
    refine am_Rq.blk (is := [(.goto 3, 3)]) (q := (1424, [some (.ref 0), some (.ref 2), some (.ref 238), some (.ref 246), some (.int (nI (7 * n))), some (.int (nI 0)), some (.int v)], [])) (by decide +kernel) rfl ?_
    dsimp only
    refine am_Rq.blk (is := [(.iinc 4 7, 3)]) (q := (1427, [some (.ref 0), some (.ref 2), some (.ref 238), some (.ref 246), some (.int ((nI (7 * n)) + (nI 7))), some (.int (nI 0)), some (.int v)], [])) (by decide +kernel) rfl ?_
    dsimp only
    rw [show (nI (7 * n)) + (nI 7) = nI ((7 * n) + 7) from nI_add _ _]
    refine am_Rq.blk (is := [(.goto (-1404), 3)]) (q := (23, [some (.ref 0), some (.ref 2), some (.ref 238), some (.ref 246), some (.int (nI ((7 * n) + 7))), some (.int (nI 0)), some (.int v)], [])) (by decide +kernel) rfl ?_
    dsimp only
    rw [show 7 * n + 7 = 7 * (n + 1) by omega]
    exact ih _ _ _ ⟨s1, f2, kn1, nx1, ks1, hs2, 0, h02, hC2, hM2, ⟨_, hU2⟩, hR2, by rw [hf2.1, hf1.1]; omega, by rw [hf2.1, hf1.1]; omega, by rw [hf2.2.1, hf1.2.1]; omega⟩
  ·
    simp only [List.mem_cons, Prod.mk.injEq, List.not_mem_nil, or_false] at hin
    rcases hin with ⟨rfl, rfl⟩
    refine am_Rq.blk (is := [(.aload_n 1, 1), (.aload_n 3, 1)]) (q := (1382, [some (.ref 0), some (.ref 2), some (.ref 238), some (.ref 246), some (.int (nI (7 * n))), z5, z6], [.ref 246, .ref 2])) (by decide +kernel) rfl ?_
    dsimp only
    refine am_Rq.callS (show decode (am_by 0) 1382 = .ok (.invokestatic 148, 3) by decide +kernel) rfl [.ref 2, .ref 246] [] rfl rfl (Nat.le_of_ble_eq_true rfl) rfl rfl (w_undo_no1 hC hU hc) ?_
    rintro hp1 _ ⟨rfl, he1⟩
    have hk : ∀ a, a < 247 → hp1[a]? = hp[a]? := fun a ha => by rw [he1]; exact List.getElem?_append_left (by omega)
    have hl1 : hp1.length = hp.length + 1 := by rw [he1]; exact ap_len rfl
    have ht1 : am_tot hp1 = am_tot hp + 6 := by rw [he1]; exact c_exT _ _
    have h01 := (hk 0 (by omega)).trans h0
    have hU1 := (hk 246 (by omega)).trans hU
    have hM1 := hM.kept (fun a a1 a2 => hk a (by omega))
    have hC1 := hC.kept (fun a a1 a2 => hk a (by omega))
    have hM0 := hM1
    obtain ⟨⟨⟨co1, hO1⟩, -⟩, -⟩ := hM0
    show am_Rq _ 0 1385 [some (.ref 0), some (.ref 2), some (.ref 238), some (.ref 246), some (.int (nI (7 * n))), z5, z6] [.int (nI 1)] _ _
    refine am_Rq.blk (is := [(.istore 5, 2), (.aload_n 2, 1)]) (q := (1388, [some (.ref 0), some (.ref 2), some (.ref 238), some (.ref 246), some (.int (nI (7 * n))), some (.int (nI 1)), z6], [.ref 238])) (by decide +kernel) rfl ?_
    dsimp only
    refine am_Rq.callV (show decode (am_by 0) 1388 = .ok (.invokevirtual 151, 3) by decide +kernel) rfl [] [] rfl rfl (Nat.le_of_ble_eq_true rfl) rfl hO1 rfl (hm hp1 th hM1) ?_
    rintro hp2 _ ⟨rfl, hM2, hf2⟩
    have h02 := (hf2.2.2 0 (fun q => by omega)).trans h01
    have hU2 := (hf2.2.2 246 (fun q => by omega)).trans hU1
    have hC2 := hC1.kept (fun a a1 a2 => hf2.2.2 a (fun q => by omega))
    show am_Rq _ 0 1391 [some (.ref 0), some (.ref 2), some (.ref 238), some (.ref 246), some (.int (nI (7 * n))), some (.int (nI 1)), z6] [.int (nI 0)] _ _
    refine am_Rq.blk (is := [(.istore 6, 2), (.aload_n 2, 1)]) (q := (1394, [some (.ref 0), some (.ref 2), some (.ref 238), some (.ref 246), some (.int (nI (7 * n))), some (.int (nI 1)), some (.int (nI 0))], [.ref 238])) (by decide +kernel) rfl ?_
    dsimp only
    have hM3 := hM2
    obtain ⟨⟨⟨co2, hO2⟩, hS2, -⟩, -⟩ := hM3
    refine am_Rq.callV (show decode (am_by 0) 1394 = .ok (.invokevirtual 85, 3) by decide +kernel) rfl [] [] rfl rfl (Nat.le_of_ble_eq_true rfl) rfl hO2 rfl (m_thrown (d := 8) hO2 hS2) ?_
    rintro hq _ ⟨e1, rfl⟩
    rw [e1]
    clear e1 hq
    show am_Rq _ 0 1397 [some (.ref 0), some (.ref 2), some (.ref 238), some (.ref 246), some (.int (nI (7 * n))), some (.int (nI 1)), some (.int (nI 0))] [.int (nI 1)] _ _
    refine am_Rq.blk (is := [(.iload 5, 2)]) (q := (1399, [some (.ref 0), some (.ref 2), some (.ref 238), some (.ref 246), some (.int (nI (7 * n))), some (.int (nI 1)), some (.int (nI 0))], [.int (nI 1), .int (nI 1)])) (by decide +kernel) rfl ?_
    dsimp only
    refine am_Rq.if2T (t := 1404) (show decode (am_by 0) 1399 = .ok (.if_icmp .eq 5, 3) by decide +kernel) (by decide) (rfl) ?_
    refine am_Rq.blk (is := [(.iload 5, 2)]) (q := (1406, [some (.ref 0), some (.ref 2), some (.ref 238), some (.ref 246), some (.int (nI (7 * n))), some (.int (nI 1)), some (.int (nI 0))], [.int (nI 1)])) (by decide +kernel) rfl ?_
    dsimp only
    refine am_Rq.if1T (t := 1421) (show decode (am_by 0) 1406 = .ok (.ifCond .ne 15, 3) by decide +kernel) (by decide) (rfl) ?_
    refine am_Rq.blk (is := [(.goto 3, 3)]) (q := (1424, [some (.ref 0), some (.ref 2), some (.ref 238), some (.ref 246), some (.int (nI (7 * n))), some (.int (nI 1)), some (.int (nI 0))], [])) (by decide +kernel) rfl ?_
    dsimp only
    refine am_Rq.blk (is := [(.iinc 4 7, 3)]) (q := (1427, [some (.ref 0), some (.ref 2), some (.ref 238), some (.ref 246), some (.int ((nI (7 * n)) + (nI 7))), some (.int (nI 1)), some (.int (nI 0))], [])) (by decide +kernel) rfl ?_
    dsimp only
    rw [show (nI (7 * n)) + (nI 7) = nI ((7 * n) + 7) from nI_add _ _]
    refine am_Rq.blk (is := [(.goto (-1404), 3)]) (q := (23, [some (.ref 0), some (.ref 2), some (.ref 238), some (.ref 246), some (.int (nI ((7 * n) + 7))), some (.int (nI 1)), some (.int (nI 0))], [])) (by decide +kernel) rfl ?_
    dsimp only
    rw [show 7 * n + 7 = 7 * (n + 1) by omega]
    exact ih _ _ _ ⟨s, f, kn, nx, ks, hs, 1, h02, hC2, hM2, ⟨_, hU2⟩, hR.more, by rw [hf2.1, hl1]; omega, by rw [hf2.1, hl1]; omega, by rw [hf2.2.1, ht1]; omega⟩
theorem l_granted {L n : Nat} {xs : Nat → Int32} (hL : L ≤ 3584) (hn : 7 * n + 7 ≤ L) {hp : am_H} (h : l_St L xs hp n) {Q : am_H → am_R → Prop} (ih : ∀ hp1 z5 z6, l_St L xs hp1 (n + 1) → am_Rq 9 0 23 [some (.ref 0), some (.ref 2), some (.ref 238), some (.ref 246), some (.int (nI (7 * (n + 1)))), z5, z6] [] hp1 Q) {z5 z6 : Option Value} : am_Rq 9 0 902 [some (.ref 0), some (.ref 2), some (.ref 238), some (.ref 246), some (.int (nI (7 * n))), z5, z6] [] hp Q := by
  obtain ⟨s, f, kn, nx, ks, hs, th, h0, hC, hM, ⟨ou, hU⟩, hR, l1, l2, l3⟩ := h
  have ok := hR.1.ok
  have e := r_gn hR.1
  have hC1 := hC
  obtain ⟨hT, hO, hLd, hH, t0, A0, hS⟩ := hC1
  have hM1 := hM
  obtain ⟨⟨⟨co, hO1⟩, hS1, -⟩, -⟩ := hM1
  refine am_Rq.blk (is := [(.aload_n 1, 1)]) (q := (903, [some (.ref 0), some (.ref 2), some (.ref 238), some (.ref 246), some (.int (nI (7 * n))), z5, z6], [.ref 2])) (by decide +kernel) rfl ?_
  dsimp only
  refine am_Rq.callV (show decode (am_by 0) 903 = .ok (.invokevirtual 119, 3) by decide +kernel) rfl [] [] rfl rfl (Nat.le_of_ble_eq_true rfl) rfl hO rfl (c_granted (d := 5) hO hLd ok (by omega) (by omega)) ?_
  rintro hq _ ⟨e1, rfl⟩
  rw [e1]
  clear e1 hq
  show am_Rq _ 0 906 [some (.ref 0), some (.ref 2), some (.ref 238), some (.ref 246), some (.int (nI (7 * n))), z5, z6] [.int (nI (sp_sm (fun g => mt s (83 + 7 * g + 1)) (mt s 82)))] _ _
  refine am_Rq.blk (is := [(.aload_n 2, 1)]) (q := (907, [some (.ref 0), some (.ref 2), some (.ref 238), some (.ref 246), some (.int (nI (7 * n))), z5, z6], [.ref 238, .int (nI (sp_sm (fun g => mt s (83 + 7 * g + 1)) (mt s 82)))])) (by decide +kernel) rfl ?_
  dsimp only
  refine am_Rq.callV (show decode (am_by 0) 907 = .ok (.invokevirtual 122, 3) by decide +kernel) rfl [] [.int (nI (sp_sm (fun g => mt s (83 + 7 * g + 1)) (mt s 82)))] rfl rfl (Nat.le_of_ble_eq_true rfl) rfl hO1 rfl (m_granted (d := 6) hO1 hS1 hR.1.2.2.2.2.2.2) ?_
  rintro hp2 _ ⟨e2, rfl⟩
  obtain ⟨hM2, hf2⟩ := hM.th (k := 0) hO1
  rw [← e2] at hM2 hf2
  rw [← e]
  show am_Rq _ 0 910 [some (.ref 0), some (.ref 2), some (.ref 238), some (.ref 246), some (.int (nI (7 * n))), z5, z6] [.int (nI (sp_sm (fun g => mt s (83 + 7 * g + 1)) (mt s 82))), .int (nI (sp_sm (fun g => mt s (83 + 7 * g + 1)) (mt s 82)))] _ _
  have h02 := (hf2.2.2 0 (fun q => by omega)).trans h0
  have hU2 := (hf2.2.2 246 (fun q => by omega)).trans hU
  have hC2 := hC.kept (fun a a1 a2 => hf2.2.2 a (fun q => by omega))
  refine am_Rq.if2T (t := 1424) (show decode (am_by 0) 910 = .ok (.if_icmp .eq 514, 3) by decide +kernel) (by decide) (decide_eq_true rfl) ?_
  refine am_Rq.blk (is := [(.iinc 4 7, 3)]) (q := (1427, [some (.ref 0), some (.ref 2), some (.ref 238), some (.ref 246), some (.int ((nI (7 * n)) + (nI 7))), z5, z6], [])) (by decide +kernel) rfl ?_
  dsimp only
  rw [show (nI (7 * n)) + (nI 7) = nI ((7 * n) + 7) from nI_add _ _]
  refine am_Rq.blk (is := [(.goto (-1404), 3)]) (q := (23, [some (.ref 0), some (.ref 2), some (.ref 238), some (.ref 246), some (.int (nI ((7 * n) + 7))), z5, z6], [])) (by decide +kernel) rfl ?_
  dsimp only
  rw [show 7 * n + 7 = 7 * (n + 1) by omega]
  exact ih _ _ _ ⟨s, f, kn, nx, ks, hs, 0, h02, hC2, hM2, ⟨_, hU2⟩, hR.more, by rw [hf2.1]; omega, by rw [hf2.1]; omega, by rw [hf2.2.1]; omega⟩
theorem l_asConverted {L n : Nat} {xs : Nat → Int32} (hL : L ≤ 3584) (hn : 7 * n + 7 ≤ L) {hp : am_H} (h : l_St L xs hp n) {Q : am_H → am_R → Prop} (ih : ∀ hp1 z5 z6, l_St L xs hp1 (n + 1) → am_Rq 9 0 23 [some (.ref 0), some (.ref 2), some (.ref 238), some (.ref 246), some (.int (nI (7 * (n + 1)))), z5, z6] [] hp1 Q) {z5 z6 : Option Value} : am_Rq 9 0 1039 [some (.ref 0), some (.ref 2), some (.ref 238), some (.ref 246), some (.int (nI (7 * n))), z5, z6] [] hp Q := by
  obtain ⟨s, f, kn, nx, ks, hs, th, h0, hC, hM, ⟨ou, hU⟩, hR, l1, l2, l3⟩ := h
  have ok := hR.1.ok
  have e := r_all hR.1
  have hC1 := hC
  obtain ⟨hT, hO, hLd, hH, t0, A0, hS⟩ := hC1
  have hM1 := hM
  obtain ⟨⟨⟨co, hO1⟩, hS1, -⟩, -⟩ := hM1
  refine am_Rq.blk (is := [(.aload_n 1, 1)]) (q := (1040, [some (.ref 0), some (.ref 2), some (.ref 238), some (.ref 246), some (.int (nI (7 * n))), z5, z6], [.ref 2])) (by decide +kernel) rfl ?_
  dsimp only
  refine am_Rq.callV (show decode (am_by 0) 1040 = .ok (.invokevirtual 129, 3) by decide +kernel) rfl [] [] rfl rfl (Nat.le_of_ble_eq_true rfl) rfl hO rfl (c_asConverted (d := 5) hO hLd ok (by omega) (by omega)) ?_
  rintro hq _ ⟨e1, rfl⟩
  rw [e1]
  clear e1 hq
  show am_Rq _ 0 1043 [some (.ref 0), some (.ref 2), some (.ref 238), some (.ref 246), some (.int (nI (7 * n))), z5, z6] [.int (nI (sp_sm (c_ic (mt s)) 5))] _ _
  refine am_Rq.blk (is := [(.aload_n 2, 1)]) (q := (1044, [some (.ref 0), some (.ref 2), some (.ref 238), some (.ref 246), some (.int (nI (7 * n))), z5, z6], [.ref 238, .int (nI (sp_sm (c_ic (mt s)) 5))])) (by decide +kernel) rfl ?_
  dsimp only
  refine am_Rq.callV (show decode (am_by 0) 1044 = .ok (.invokevirtual 132, 3) by decide +kernel) rfl [] [.int (nI (sp_sm (c_ic (mt s)) 5))] rfl rfl (Nat.le_of_ble_eq_true rfl) rfl hO1 rfl (m_asConverted (d := 5) hO1 hS1 (mt_bd ok)) ?_
  rintro hp2 _ ⟨e2, rfl⟩
  obtain ⟨hM2, hf2⟩ := hM.th (k := 0) hO1
  rw [← e2] at hM2 hf2
  rw [← e]
  show am_Rq _ 0 1047 [some (.ref 0), some (.ref 2), some (.ref 238), some (.ref 246), some (.int (nI (7 * n))), z5, z6] [.int (nI (sp_sm (c_ic (mt s)) 5)), .int (nI (sp_sm (c_ic (mt s)) 5))] _ _
  have h02 := (hf2.2.2 0 (fun q => by omega)).trans h0
  have hU2 := (hf2.2.2 246 (fun q => by omega)).trans hU
  have hC2 := hC.kept (fun a a1 a2 => hf2.2.2 a (fun q => by omega))
  refine am_Rq.if2T (t := 1424) (show decode (am_by 0) 1047 = .ok (.if_icmp .eq 377, 3) by decide +kernel) (by decide) (decide_eq_true rfl) ?_
  refine am_Rq.blk (is := [(.iinc 4 7, 3)]) (q := (1427, [some (.ref 0), some (.ref 2), some (.ref 238), some (.ref 246), some (.int ((nI (7 * n)) + (nI 7))), z5, z6], [])) (by decide +kernel) rfl ?_
  dsimp only
  rw [show (nI (7 * n)) + (nI 7) = nI ((7 * n) + 7) from nI_add _ _]
  refine am_Rq.blk (is := [(.goto (-1404), 3)]) (q := (23, [some (.ref 0), some (.ref 2), some (.ref 238), some (.ref 246), some (.int (nI ((7 * n) + 7))), z5, z6], [])) (by decide +kernel) rfl ?_
  dsimp only
  rw [show 7 * n + 7 = 7 * (n + 1) by omega]
  exact ih _ _ _ ⟨s, f, kn, nx, ks, hs, 0, h02, hC2, hM2, ⟨_, hU2⟩, hR.more, by rw [hf2.1]; omega, by rw [hf2.1]; omega, by rw [hf2.2.1]; omega⟩
theorem l_none {L n : Nat} {xs : Nat → Int32} (hL : L ≤ 3584) (hn : 7 * n + 7 ≤ L) {hp : am_H} (h : l_St L xs hp n) {Q : am_H → am_R → Prop} (ih : ∀ hp1 z5 z6, l_St L xs hp1 (n + 1) → am_Rq 9 0 23 [some (.ref 0), some (.ref 2), some (.ref 238), some (.ref 246), some (.int (nI (7 * (n + 1)))), z5, z6] [] hp1 Q) {z5 z6 : Option Value} : am_Rq 9 0 1424 [some (.ref 0), some (.ref 2), some (.ref 238), some (.ref 246), some (.int (nI (7 * n))), z5, z6] [] hp Q := by
  obtain ⟨s, f, kn, nx, ks, hs, th, h0, hC, hM, ⟨ou, hU⟩, hR, l1, l2, l3⟩ := h
  refine am_Rq.blk (is := [(.iinc 4 7, 3)]) (q := (1427, [some (.ref 0), some (.ref 2), some (.ref 238), some (.ref 246), some (.int ((nI (7 * n)) + (nI 7))), z5, z6], [])) (by decide +kernel) rfl ?_
  dsimp only
  rw [show (nI (7 * n)) + (nI 7) = nI ((7 * n) + 7) from nI_add _ _]
  refine am_Rq.blk (is := [(.goto (-1404), 3)]) (q := (23, [some (.ref 0), some (.ref 2), some (.ref 238), some (.ref 246), some (.int (nI ((7 * n) + 7))), z5, z6], [])) (by decide +kernel) rfl ?_
  dsimp only
  rw [show 7 * n + 7 = 7 * (n + 1) by omega]
  exact ih _ _ _ ⟨s, f, kn, nx, ks, hs, th, h0, hC, hM, ⟨_, hU⟩, hR.more, by omega, by omega, by omega⟩
end L963
