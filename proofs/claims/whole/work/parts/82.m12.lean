/-! The reference: preferred, grant, exercise, leave (rows by prog/m12.py). -/
section M12
variable {d : Nat} {hp : am_H}
theorem m_preferred {th kn co : Nat} (hM : hp[238]? = some (7, [.int (nI th), .ref 239, .ref 240, .int (nI kn), .ref 241, .ref 242, .ref 243, .ref 244, .long (lN co), .ref 245])) {s : Nat → Nat} (hS : hp[239]? = some (100, am_ia (fun i => nI (s i)) 160)) {f : Nat → Int32} (hF : hp[240]? = some (100, am_ia f 1280)) (hkn : kn ≤ 8) {p0 p1 p2 p3 p4 p5 : Nat} (l0 : 1 ≤ p0) (u0 : p0 ≤ 1000) (l1 : 50 ≤ p1) (u1 : p1 ≤ 300) (l2 : 0 ≤ p2) (u2 : p2 ≤ 3) (l3 : 0 ≤ p3) (u3 : p3 ≤ 2) (l4 : 100 ≤ p4) (u4 : p4 ≤ 900) (l5 : 0 ≤ p5) (u5 : p5 ≤ 2) (h4 : s 0 < 4) : am_Rq (d + 2) 91 0 (am_en [.ref 238, .int (nI p0), .int (nI p1), .int (nI p2), .int (nI p3), .int (nI p4), .int (nI p5)] 9) [] hp (am_Ret fun hp1 v => v = some (.int (nI ((va_up (va_up (va_up (va_up (va_up (va_up (va_up (va_up s (0) ((s 0) + 1)) ((1 + (8 * (s 0))) + 0) (p0)) ((1 + (8 * (s 0))) + 1) (p1)) ((1 + (8 * (s 0))) + 2) (p2)) ((1 + (8 * (s 0))) + 3) (p3)) ((1 + (8 * (s 0))) + 4) (p4)) ((1 + (8 * (s 0))) + 5) (p5)) ((1 + (8 * (s 0))) + 6) (1000 * p0)) 0))) ∧ m_Chg hp f kn co s ((va_up (va_up (va_up (va_up (va_up (va_up (va_up (va_up s (0) ((s 0) + 1)) ((1 + (8 * (s 0))) + 0) (p0)) ((1 + (8 * (s 0))) + 1) (p1)) ((1 + (8 * (s 0))) + 2) (p2)) ((1 + (8 * (s 0))) + 3) (p3)) ((1 + (8 * (s 0))) + 4) (p4)) ((1 + (8 * (s 0))) + 5) (p5)) ((1 + (8 * (s 0))) + 6) (1000 * p0))) hp1) := by
  show am_Rq _ 91 0 [some (.ref 238), some (.int (nI p0)), some (.int (nI p1)), some (.int (nI p2)), some (.int (nI p3)), some (.int (nI p4)), some (.int (nI p5)), none, none] [] _ _
  refine am_Rq.blk (is := [(.iload_n 1, 1), (.iconst 1, 1), (.sipush 1000, 3)]) (q := (5, [some (.ref 238), some (.int (nI p0)), some (.int (nI p1)), some (.int (nI p2)), some (.int (nI p3)), some (.int (nI p4)), some (.int (nI p5)), none, none], [.int (nI 1000), .int (nI 1), .int (nI p0)])) (by decide +kernel) rfl ?_
  dsimp only
  refine am_Rq.callS (show decode (am_by 91) 5 = .ok (.invokestatic 39, 3) by decide +kernel) rfl [.int (nI p0), .int (nI 1), .int (nI 1000)] [] rfl rfl (Nat.le_of_ble_eq_true rfl) rfl rfl (m_in (nI p0) (nI 1) (nI 1000)) ?_
  rintro hq _ ⟨e1, rfl⟩
  rw [e1]
  clear e1 hq
  show am_Rq _ 91 8 [some (.ref 238), some (.int (nI p0)), some (.int (nI p1)), some (.int (nI p2)), some (.int (nI p3)), some (.int (nI p4)), some (.int (nI p5)), none, none] [.int (nI (am_b (rg_r (nI 1) (nI 1000) (nI p0))))] _ _
  refine am_Rq.if1F (show decode (am_by 91) 8 = .ok (.ifCond .eq 61, 3) by decide +kernel) (by decide) (by rw [am_b_eq, rg_le l0 u0 (by omega)]; rfl) ?_
  refine am_Rq.blk (is := [(.iload_n 2, 1), (.bipush 50, 2), (.sipush 300, 3)]) (q := (17, [some (.ref 238), some (.int (nI p0)), some (.int (nI p1)), some (.int (nI p2)), some (.int (nI p3)), some (.int (nI p4)), some (.int (nI p5)), none, none], [.int (nI 300), .int (nI 50), .int (nI p1)])) (by decide +kernel) rfl ?_
  dsimp only
  refine am_Rq.callS (show decode (am_by 91) 17 = .ok (.invokestatic 39, 3) by decide +kernel) rfl [.int (nI p1), .int (nI 50), .int (nI 300)] [] rfl rfl (Nat.le_of_ble_eq_true rfl) rfl rfl (m_in (nI p1) (nI 50) (nI 300)) ?_
  rintro hq _ ⟨e1, rfl⟩
  rw [e1]
  clear e1 hq
  show am_Rq _ 91 20 [some (.ref 238), some (.int (nI p0)), some (.int (nI p1)), some (.int (nI p2)), some (.int (nI p3)), some (.int (nI p4)), some (.int (nI p5)), none, none] [.int (nI (am_b (rg_r (nI 50) (nI 300) (nI p1))))] _ _
  refine am_Rq.if1F (show decode (am_by 91) 20 = .ok (.ifCond .eq 49, 3) by decide +kernel) (by decide) (by rw [am_b_eq, rg_le l1 u1 (by omega)]; rfl) ?_
  refine am_Rq.blk (is := [(.iload_n 3, 1), (.iconst 0, 1), (.iconst 3, 1)]) (q := (26, [some (.ref 238), some (.int (nI p0)), some (.int (nI p1)), some (.int (nI p2)), some (.int (nI p3)), some (.int (nI p4)), some (.int (nI p5)), none, none], [.int (nI 3), .int (nI 0), .int (nI p2)])) (by decide +kernel) rfl ?_
  dsimp only
  refine am_Rq.callS (show decode (am_by 91) 26 = .ok (.invokestatic 39, 3) by decide +kernel) rfl [.int (nI p2), .int (nI 0), .int (nI 3)] [] rfl rfl (Nat.le_of_ble_eq_true rfl) rfl rfl (m_in (nI p2) (nI 0) (nI 3)) ?_
  rintro hq _ ⟨e1, rfl⟩
  rw [e1]
  clear e1 hq
  show am_Rq _ 91 29 [some (.ref 238), some (.int (nI p0)), some (.int (nI p1)), some (.int (nI p2)), some (.int (nI p3)), some (.int (nI p4)), some (.int (nI p5)), none, none] [.int (nI (am_b (rg_r (nI 0) (nI 3) (nI p2))))] _ _
  refine am_Rq.if1F (show decode (am_by 91) 29 = .ok (.ifCond .eq 40, 3) by decide +kernel) (by decide) (by rw [am_b_eq, rg_le l2 u2 (by omega)]; rfl) ?_
  refine am_Rq.blk (is := [(.iload 4, 2), (.iconst 0, 1), (.iconst 2, 1)]) (q := (36, [some (.ref 238), some (.int (nI p0)), some (.int (nI p1)), some (.int (nI p2)), some (.int (nI p3)), some (.int (nI p4)), some (.int (nI p5)), none, none], [.int (nI 2), .int (nI 0), .int (nI p3)])) (by decide +kernel) rfl ?_
  dsimp only
  refine am_Rq.callS (show decode (am_by 91) 36 = .ok (.invokestatic 39, 3) by decide +kernel) rfl [.int (nI p3), .int (nI 0), .int (nI 2)] [] rfl rfl (Nat.le_of_ble_eq_true rfl) rfl rfl (m_in (nI p3) (nI 0) (nI 2)) ?_
  rintro hq _ ⟨e1, rfl⟩
  rw [e1]
  clear e1 hq
  show am_Rq _ 91 39 [some (.ref 238), some (.int (nI p0)), some (.int (nI p1)), some (.int (nI p2)), some (.int (nI p3)), some (.int (nI p4)), some (.int (nI p5)), none, none] [.int (nI (am_b (rg_r (nI 0) (nI 2) (nI p3))))] _ _
  refine am_Rq.if1F (show decode (am_by 91) 39 = .ok (.ifCond .eq 30, 3) by decide +kernel) (by decide) (by rw [am_b_eq, rg_le l3 u3 (by omega)]; rfl) ?_
  refine am_Rq.blk (is := [(.iload 5, 2), (.bipush 100, 2), (.sipush 900, 3)]) (q := (49, [some (.ref 238), some (.int (nI p0)), some (.int (nI p1)), some (.int (nI p2)), some (.int (nI p3)), some (.int (nI p4)), some (.int (nI p5)), none, none], [.int (nI 900), .int (nI 100), .int (nI p4)])) (by decide +kernel) rfl ?_
  dsimp only
  refine am_Rq.callS (show decode (am_by 91) 49 = .ok (.invokestatic 39, 3) by decide +kernel) rfl [.int (nI p4), .int (nI 100), .int (nI 900)] [] rfl rfl (Nat.le_of_ble_eq_true rfl) rfl rfl (m_in (nI p4) (nI 100) (nI 900)) ?_
  rintro hq _ ⟨e1, rfl⟩
  rw [e1]
  clear e1 hq
  show am_Rq _ 91 52 [some (.ref 238), some (.int (nI p0)), some (.int (nI p1)), some (.int (nI p2)), some (.int (nI p3)), some (.int (nI p4)), some (.int (nI p5)), none, none] [.int (nI (am_b (rg_r (nI 100) (nI 900) (nI p4))))] _ _
  refine am_Rq.if1F (show decode (am_by 91) 52 = .ok (.ifCond .eq 17, 3) by decide +kernel) (by decide) (by rw [am_b_eq, rg_le l4 u4 (by omega)]; rfl) ?_
  refine am_Rq.blk (is := [(.iload 6, 2), (.iconst 0, 1), (.iconst 2, 1)]) (q := (59, [some (.ref 238), some (.int (nI p0)), some (.int (nI p1)), some (.int (nI p2)), some (.int (nI p3)), some (.int (nI p4)), some (.int (nI p5)), none, none], [.int (nI 2), .int (nI 0), .int (nI p5)])) (by decide +kernel) rfl ?_
  dsimp only
  refine am_Rq.callS (show decode (am_by 91) 59 = .ok (.invokestatic 39, 3) by decide +kernel) rfl [.int (nI p5), .int (nI 0), .int (nI 2)] [] rfl rfl (Nat.le_of_ble_eq_true rfl) rfl rfl (m_in (nI p5) (nI 0) (nI 2)) ?_
  rintro hq _ ⟨e1, rfl⟩
  rw [e1]
  clear e1 hq
  show am_Rq _ 91 62 [some (.ref 238), some (.int (nI p0)), some (.int (nI p1)), some (.int (nI p2)), some (.int (nI p3)), some (.int (nI p4)), some (.int (nI p5)), none, none] [.int (nI (am_b (rg_r (nI 0) (nI 2) (nI p5))))] _ _
  refine am_Rq.if1F (show decode (am_by 91) 62 = .ok (.ifCond .eq 7, 3) by decide +kernel) (by decide) (by rw [am_b_eq, rg_le l5 u5 (by omega)]; rfl) ?_
  refine am_Rq.blk (is := [(.iconst 1, 1), (.goto 4, 3)]) (q := (70, [some (.ref 238), some (.int (nI p0)), some (.int (nI p1)), some (.int (nI p2)), some (.int (nI p3)), some (.int (nI p4)), some (.int (nI p5)), none, none], [.int (nI 1)])) (by decide +kernel) rfl ?_
  dsimp only
  refine am_Rq.blk (is := [(.istore 7, 2), (.aload_n 0, 1), (.iload 7, 2)]) (q := (75, [some (.ref 238), some (.int (nI p0)), some (.int (nI p1)), some (.int (nI p2)), some (.int (nI p3)), some (.int (nI p4)), some (.int (nI p5)), some (.int (nI 1)), none], [.int (nI 1), .ref 238])) (by decide +kernel) rfl ?_
  dsimp only
  refine am_Rq.if1T (t := 82) (show decode (am_by 91) 75 = .ok (.ifCond .ne 7, 3) by decide +kernel) (by decide) (rfl) ?_
  refine am_Rq.blk (is := [(.iconst 0, 1), (.aload_n 0, 1)]) (q := (84, [some (.ref 238), some (.int (nI p0)), some (.int (nI p1)), some (.int (nI p2)), some (.int (nI p3)), some (.int (nI p4)), some (.int (nI p5)), some (.int (nI 1)), none], [.ref 238, .int (nI 0), .ref 238])) (by decide +kernel) rfl ?_
  dsimp only
  refine am_Rq.getf (v := .ref 239) (show decode (am_by 91) 84 = .ok (.getfield 7, 3) by decide +kernel) rfl hM rfl ?_
  refine am_Rq.blk (is := [(.iconst 0, 1)]) (q := (88, [some (.ref 238), some (.int (nI p0)), some (.int (nI p1)), some (.int (nI p2)), some (.int (nI p3)), some (.int (nI p4)), some (.int (nI p5)), some (.int (nI 1)), none], [.int (nI 0), .ref 239, .int (nI 0), .ref 238])) (by decide +kernel) rfl ?_
  dsimp only
  refine am_Rq.ial (k := 0) (show decode (am_by 91) 88 = .ok (.iaload, 1) by decide +kernel) hS (by omega) (by omega) ?_
  refine am_Rq.blk (is := [(.iconst 4, 1)]) (q := (90, [some (.ref 238), some (.int (nI p0)), some (.int (nI p1)), some (.int (nI p2)), some (.int (nI p3)), some (.int (nI p4)), some (.int (nI p5)), some (.int (nI 1)), none], [.int (nI 4), .int (nI (s 0)), .int (nI 0), .ref 238])) (by decide +kernel) rfl ?_
  dsimp only
  refine am_Rq.if2T (t := 97) (show decode (am_by 91) 90 = .ok (.if_icmp .ne 7, 3) by decide +kernel) (by decide) (by rw [nm_ne (by omega) (by omega)]; exact decide_eq_true (by omega)) ?_
  refine am_Rq.blk (is := [(.iconst 0, 1), (.iconst 0, 1)]) (q := (99, [some (.ref 238), some (.int (nI p0)), some (.int (nI p1)), some (.int (nI p2)), some (.int (nI p3)), some (.int (nI p4)), some (.int (nI p5)), some (.int (nI 1)), none], [.int (nI 0), .int (nI 0), .int (nI 0), .ref 238])) (by decide +kernel) rfl ?_
  dsimp only
  refine am_Rq.callV (show decode (am_by 91) 99 = .ok (.invokevirtual 57, 3) by decide +kernel) rfl [.int (nI (am_b false)), .int (nI (am_b false)), .int (nI (am_b false))] [] rfl rfl (Nat.le_of_ble_eq_true rfl) rfl hM rfl (m_refused hM false false false) ?_
  rintro _ _ ⟨rfl, rfl⟩
  have hM1 := am_ss (c' := (7, m_ob 0 kn co)) hM
  have hS1 := (am_sn (c' := (7, m_ob 0 kn co)) (show 238 ≠ 239 by decide)).trans hS
  show am_Rq _ 91 102 [some (.ref 238), some (.int (nI p0)), some (.int (nI p1)), some (.int (nI p2)), some (.int (nI p3)), some (.int (nI p4)), some (.int (nI p5)), some (.int (nI 1)), none] [.int (nI (am_b false))] _ _
  refine am_Rq.if1T (t := 107) (show decode (am_by 91) 102 = .ok (.ifCond .eq 5, 3) by decide +kernel) (by decide) (rfl) ?_
  refine am_Rq.blk (is := [(.aload_n 0, 1)]) (q := (108, [some (.ref 238), some (.int (nI p0)), some (.int (nI p1)), some (.int (nI p2)), some (.int (nI p3)), some (.int (nI p4)), some (.int (nI p5)), some (.int (nI 1)), none], [.ref 238])) (by decide +kernel) rfl ?_
  dsimp only
  have hF1 := (am_sn (c' := (7, m_ob 0 kn co)) (show 238 ≠ 240 by decide)).trans hF
  refine am_Rq.callV (show decode (am_by 91) 108 = .ok (.invokevirtual 61, 3) by decide +kernel) rfl [] [] rfl rfl (Nat.le_of_ble_eq_true rfl) rfl hM1 rfl (m_remember hM1 hS1 hF1 hkn) ?_
  rintro hp2 _ ⟨rfl, hM2, ⟨f1, hF2, hF3, hF4⟩, hf2⟩
  have hS2 := (hf2.2.2 239 (fun q => by omega)).trans hS1
  have hfr : am_fr (fun x => 238 ≤ x ∧ x < 241) hp hp2 := ((am_fr.rf (A := fun x => 238 ≤ x ∧ x < 241)).set (c' := (7, m_ob 0 kn co)) ⟨by decide, by decide⟩ hM rfl).trans (hf2.mono (A' := fun x => 238 ≤ x ∧ x < 241) (fun x q => by rcases q with q | q <;> subst q <;> exact ⟨by decide, by decide⟩))
  show am_Rq _ 91 111 [some (.ref 238), some (.int (nI p0)), some (.int (nI p1)), some (.int (nI p2)), some (.int (nI p3)), some (.int (nI p4)), some (.int (nI p5)), some (.int (nI 1)), none] [] _ _
  refine am_Rq.blk (is := [(.iconst 1, 1), (.bipush 8, 2), (.aload_n 0, 1)]) (q := (115, [some (.ref 238), some (.int (nI p0)), some (.int (nI p1)), some (.int (nI p2)), some (.int (nI p3)), some (.int (nI p4)), some (.int (nI p5)), some (.int (nI 1)), none], [.ref 238, .int (nI 8), .int (nI 1)])) (by decide +kernel) rfl ?_
  dsimp only
  refine am_Rq.getf (v := .ref 239) (show decode (am_by 91) 115 = .ok (.getfield 7, 3) by decide +kernel) rfl hM2 rfl ?_
  refine am_Rq.blk (is := [(.iconst 0, 1)]) (q := (119, [some (.ref 238), some (.int (nI p0)), some (.int (nI p1)), some (.int (nI p2)), some (.int (nI p3)), some (.int (nI p4)), some (.int (nI p5)), some (.int (nI 1)), none], [.int (nI 0), .ref 239, .int (nI 8), .int (nI 1)])) (by decide +kernel) rfl ?_
  dsimp only
  refine am_Rq.ial (k := 0) (show decode (am_by 91) 119 = .ok (.iaload, 1) by decide +kernel) hS2 (by omega) (by omega) ?_
  refine am_Rq.blk (is := [(.imul, 1)]) (q := (121, [some (.ref 238), some (.int (nI p0)), some (.int (nI p1)), some (.int (nI p2)), some (.int (nI p3)), some (.int (nI p4)), some (.int (nI p5)), some (.int (nI 1)), none], [.int ((nI 8) * (nI (s 0))), .int (nI 1)])) (by decide +kernel) rfl ?_
  dsimp only
  rw [show (nI 8) * (nI (s 0)) = nI (8 * (s 0)) from nm_imul _ _]
  refine am_Rq.blk (is := [(.iadd, 1)]) (q := (122, [some (.ref 238), some (.int (nI p0)), some (.int (nI p1)), some (.int (nI p2)), some (.int (nI p3)), some (.int (nI p4)), some (.int (nI p5)), some (.int (nI 1)), none], [.int ((nI 1) + (nI (8 * (s 0))))])) (by decide +kernel) rfl ?_
  dsimp only
  rw [show (nI 1) + (nI (8 * (s 0))) = nI (1 + (8 * (s 0))) from nI_add _ _]
  refine am_Rq.blk (is := [(.istore 8, 2), (.aload_n 0, 1)]) (q := (125, [some (.ref 238), some (.int (nI p0)), some (.int (nI p1)), some (.int (nI p2)), some (.int (nI p3)), some (.int (nI p4)), some (.int (nI p5)), some (.int (nI 1)), some (.int (nI (1 + (8 * (s 0)))))], [.ref 238])) (by decide +kernel) rfl ?_
  dsimp only
  refine am_Rq.getf (v := .ref 239) (show decode (am_by 91) 125 = .ok (.getfield 7, 3) by decide +kernel) rfl hM2 rfl ?_
  refine am_Rq.blk (is := [(.iconst 0, 1), (.dup2, 1)]) (q := (130, [some (.ref 238), some (.int (nI p0)), some (.int (nI p1)), some (.int (nI p2)), some (.int (nI p3)), some (.int (nI p4)), some (.int (nI p5)), some (.int (nI 1)), some (.int (nI (1 + (8 * (s 0)))))], [.int (nI 0), .ref 239, .int (nI 0), .ref 239])) (by decide +kernel) rfl ?_
  dsimp only
  refine am_Rq.ial (k := 0) (show decode (am_by 91) 130 = .ok (.iaload, 1) by decide +kernel) hS2 (by omega) (by omega) ?_
  refine am_Rq.blk (is := [(.iconst 1, 1), (.iadd, 1)]) (q := (133, [some (.ref 238), some (.int (nI p0)), some (.int (nI p1)), some (.int (nI p2)), some (.int (nI p3)), some (.int (nI p4)), some (.int (nI p5)), some (.int (nI 1)), some (.int (nI (1 + (8 * (s 0)))))], [.int ((nI (s 0)) + (nI 1)), .int (nI 0), .ref 239])) (by decide +kernel) rfl ?_
  dsimp only
  rw [show (nI (s 0)) + (nI 1) = nI ((s 0) + 1) from nI_add _ _]
  refine am_Rq.nas (s := s) (k := 0) (v := (s 0) + 1) (show decode (am_by 91) 133 = .ok (.iastore, 1) by decide +kernel) hS2 (by omega) (by omega) (by omega) ?_
  refine am_Rq.blk (is := [(.aload_n 0, 1)]) (q := (135, [some (.ref 238), some (.int (nI p0)), some (.int (nI p1)), some (.int (nI p2)), some (.int (nI p3)), some (.int (nI p4)), some (.int (nI p5)), some (.int (nI 1)), some (.int (nI (1 + (8 * (s 0)))))], [.ref 238])) (by decide +kernel) rfl ?_
  dsimp only
  refine am_Rq.getf (v := .ref 239) (show decode (am_by 91) 135 = .ok (.getfield 7, 3) by decide +kernel) rfl ((am_sn (by decide)).trans hM2) rfl ?_
  refine am_Rq.blk (is := [(.iload 8, 2), (.iconst 0, 1), (.iadd, 1)]) (q := (142, [some (.ref 238), some (.int (nI p0)), some (.int (nI p1)), some (.int (nI p2)), some (.int (nI p3)), some (.int (nI p4)), some (.int (nI p5)), some (.int (nI 1)), some (.int (nI (1 + (8 * (s 0)))))], [.int ((nI (1 + (8 * (s 0)))) + (nI 0)), .ref 239])) (by decide +kernel) rfl ?_
  dsimp only
  rw [show (nI (1 + (8 * (s 0)))) + (nI 0) = nI ((1 + (8 * (s 0))) + 0) from nI_add _ _]
  refine am_Rq.blk (is := [(.iload_n 1, 1)]) (q := (143, [some (.ref 238), some (.int (nI p0)), some (.int (nI p1)), some (.int (nI p2)), some (.int (nI p3)), some (.int (nI p4)), some (.int (nI p5)), some (.int (nI 1)), some (.int (nI (1 + (8 * (s 0)))))], [.int (nI p0), .int (nI ((1 + (8 * (s 0))) + 0)), .ref 239])) (by decide +kernel) rfl ?_
  dsimp only
  refine am_Rq.nas (s := (va_up s (0) ((s 0) + 1))) (k := (1 + (8 * (s 0))) + 0) (v := p0) (show decode (am_by 91) 143 = .ok (.iastore, 1) by decide +kernel) (am_ss hS2) (by omega) (by omega) (by omega) ?_
  refine am_Rq.blk (is := [(.aload_n 0, 1)]) (q := (145, [some (.ref 238), some (.int (nI p0)), some (.int (nI p1)), some (.int (nI p2)), some (.int (nI p3)), some (.int (nI p4)), some (.int (nI p5)), some (.int (nI 1)), some (.int (nI (1 + (8 * (s 0)))))], [.ref 238])) (by decide +kernel) rfl ?_
  dsimp only
  refine am_Rq.getf (v := .ref 239) (show decode (am_by 91) 145 = .ok (.getfield 7, 3) by decide +kernel) rfl ((am_sn (by decide)).trans ((am_sn (by decide)).trans hM2)) rfl ?_
  refine am_Rq.blk (is := [(.iload 8, 2), (.iconst 1, 1), (.iadd, 1)]) (q := (152, [some (.ref 238), some (.int (nI p0)), some (.int (nI p1)), some (.int (nI p2)), some (.int (nI p3)), some (.int (nI p4)), some (.int (nI p5)), some (.int (nI 1)), some (.int (nI (1 + (8 * (s 0)))))], [.int ((nI (1 + (8 * (s 0)))) + (nI 1)), .ref 239])) (by decide +kernel) rfl ?_
  dsimp only
  rw [show (nI (1 + (8 * (s 0)))) + (nI 1) = nI ((1 + (8 * (s 0))) + 1) from nI_add _ _]
  refine am_Rq.blk (is := [(.iload_n 2, 1)]) (q := (153, [some (.ref 238), some (.int (nI p0)), some (.int (nI p1)), some (.int (nI p2)), some (.int (nI p3)), some (.int (nI p4)), some (.int (nI p5)), some (.int (nI 1)), some (.int (nI (1 + (8 * (s 0)))))], [.int (nI p1), .int (nI ((1 + (8 * (s 0))) + 1)), .ref 239])) (by decide +kernel) rfl ?_
  dsimp only
  refine am_Rq.nas (s := (va_up (va_up s (0) ((s 0) + 1)) ((1 + (8 * (s 0))) + 0) (p0))) (k := (1 + (8 * (s 0))) + 1) (v := p1) (show decode (am_by 91) 153 = .ok (.iastore, 1) by decide +kernel) (am_ss (am_ss hS2)) (by omega) (by omega) (by omega) ?_
  refine am_Rq.blk (is := [(.aload_n 0, 1)]) (q := (155, [some (.ref 238), some (.int (nI p0)), some (.int (nI p1)), some (.int (nI p2)), some (.int (nI p3)), some (.int (nI p4)), some (.int (nI p5)), some (.int (nI 1)), some (.int (nI (1 + (8 * (s 0)))))], [.ref 238])) (by decide +kernel) rfl ?_
  dsimp only
  refine am_Rq.getf (v := .ref 239) (show decode (am_by 91) 155 = .ok (.getfield 7, 3) by decide +kernel) rfl ((am_sn (by decide)).trans ((am_sn (by decide)).trans ((am_sn (by decide)).trans hM2))) rfl ?_
  refine am_Rq.blk (is := [(.iload 8, 2), (.iconst 2, 1), (.iadd, 1)]) (q := (162, [some (.ref 238), some (.int (nI p0)), some (.int (nI p1)), some (.int (nI p2)), some (.int (nI p3)), some (.int (nI p4)), some (.int (nI p5)), some (.int (nI 1)), some (.int (nI (1 + (8 * (s 0)))))], [.int ((nI (1 + (8 * (s 0)))) + (nI 2)), .ref 239])) (by decide +kernel) rfl ?_
  dsimp only
  rw [show (nI (1 + (8 * (s 0)))) + (nI 2) = nI ((1 + (8 * (s 0))) + 2) from nI_add _ _]
  refine am_Rq.blk (is := [(.iload_n 3, 1)]) (q := (163, [some (.ref 238), some (.int (nI p0)), some (.int (nI p1)), some (.int (nI p2)), some (.int (nI p3)), some (.int (nI p4)), some (.int (nI p5)), some (.int (nI 1)), some (.int (nI (1 + (8 * (s 0)))))], [.int (nI p2), .int (nI ((1 + (8 * (s 0))) + 2)), .ref 239])) (by decide +kernel) rfl ?_
  dsimp only
  refine am_Rq.nas (s := (va_up (va_up (va_up s (0) ((s 0) + 1)) ((1 + (8 * (s 0))) + 0) (p0)) ((1 + (8 * (s 0))) + 1) (p1))) (k := (1 + (8 * (s 0))) + 2) (v := p2) (show decode (am_by 91) 163 = .ok (.iastore, 1) by decide +kernel) (am_ss (am_ss (am_ss hS2))) (by omega) (by omega) (by omega) ?_
  refine am_Rq.blk (is := [(.aload_n 0, 1)]) (q := (165, [some (.ref 238), some (.int (nI p0)), some (.int (nI p1)), some (.int (nI p2)), some (.int (nI p3)), some (.int (nI p4)), some (.int (nI p5)), some (.int (nI 1)), some (.int (nI (1 + (8 * (s 0)))))], [.ref 238])) (by decide +kernel) rfl ?_
  dsimp only
  refine am_Rq.getf (v := .ref 239) (show decode (am_by 91) 165 = .ok (.getfield 7, 3) by decide +kernel) rfl ((am_sn (by decide)).trans ((am_sn (by decide)).trans ((am_sn (by decide)).trans ((am_sn (by decide)).trans hM2)))) rfl ?_
  refine am_Rq.blk (is := [(.iload 8, 2), (.iconst 3, 1), (.iadd, 1)]) (q := (172, [some (.ref 238), some (.int (nI p0)), some (.int (nI p1)), some (.int (nI p2)), some (.int (nI p3)), some (.int (nI p4)), some (.int (nI p5)), some (.int (nI 1)), some (.int (nI (1 + (8 * (s 0)))))], [.int ((nI (1 + (8 * (s 0)))) + (nI 3)), .ref 239])) (by decide +kernel) rfl ?_
  dsimp only
  rw [show (nI (1 + (8 * (s 0)))) + (nI 3) = nI ((1 + (8 * (s 0))) + 3) from nI_add _ _]
  refine am_Rq.blk (is := [(.iload 4, 2)]) (q := (174, [some (.ref 238), some (.int (nI p0)), some (.int (nI p1)), some (.int (nI p2)), some (.int (nI p3)), some (.int (nI p4)), some (.int (nI p5)), some (.int (nI 1)), some (.int (nI (1 + (8 * (s 0)))))], [.int (nI p3), .int (nI ((1 + (8 * (s 0))) + 3)), .ref 239])) (by decide +kernel) rfl ?_
  dsimp only
  refine am_Rq.nas (s := (va_up (va_up (va_up (va_up s (0) ((s 0) + 1)) ((1 + (8 * (s 0))) + 0) (p0)) ((1 + (8 * (s 0))) + 1) (p1)) ((1 + (8 * (s 0))) + 2) (p2))) (k := (1 + (8 * (s 0))) + 3) (v := p3) (show decode (am_by 91) 174 = .ok (.iastore, 1) by decide +kernel) (am_ss (am_ss (am_ss (am_ss hS2)))) (by omega) (by omega) (by omega) ?_
  refine am_Rq.blk (is := [(.aload_n 0, 1)]) (q := (176, [some (.ref 238), some (.int (nI p0)), some (.int (nI p1)), some (.int (nI p2)), some (.int (nI p3)), some (.int (nI p4)), some (.int (nI p5)), some (.int (nI 1)), some (.int (nI (1 + (8 * (s 0)))))], [.ref 238])) (by decide +kernel) rfl ?_
  dsimp only
  refine am_Rq.getf (v := .ref 239) (show decode (am_by 91) 176 = .ok (.getfield 7, 3) by decide +kernel) rfl ((am_sn (by decide)).trans ((am_sn (by decide)).trans ((am_sn (by decide)).trans ((am_sn (by decide)).trans ((am_sn (by decide)).trans hM2))))) rfl ?_
  refine am_Rq.blk (is := [(.iload 8, 2), (.iconst 4, 1), (.iadd, 1)]) (q := (183, [some (.ref 238), some (.int (nI p0)), some (.int (nI p1)), some (.int (nI p2)), some (.int (nI p3)), some (.int (nI p4)), some (.int (nI p5)), some (.int (nI 1)), some (.int (nI (1 + (8 * (s 0)))))], [.int ((nI (1 + (8 * (s 0)))) + (nI 4)), .ref 239])) (by decide +kernel) rfl ?_
  dsimp only
  rw [show (nI (1 + (8 * (s 0)))) + (nI 4) = nI ((1 + (8 * (s 0))) + 4) from nI_add _ _]
  refine am_Rq.blk (is := [(.iload 5, 2)]) (q := (185, [some (.ref 238), some (.int (nI p0)), some (.int (nI p1)), some (.int (nI p2)), some (.int (nI p3)), some (.int (nI p4)), some (.int (nI p5)), some (.int (nI 1)), some (.int (nI (1 + (8 * (s 0)))))], [.int (nI p4), .int (nI ((1 + (8 * (s 0))) + 4)), .ref 239])) (by decide +kernel) rfl ?_
  dsimp only
  refine am_Rq.nas (s := (va_up (va_up (va_up (va_up (va_up s (0) ((s 0) + 1)) ((1 + (8 * (s 0))) + 0) (p0)) ((1 + (8 * (s 0))) + 1) (p1)) ((1 + (8 * (s 0))) + 2) (p2)) ((1 + (8 * (s 0))) + 3) (p3))) (k := (1 + (8 * (s 0))) + 4) (v := p4) (show decode (am_by 91) 185 = .ok (.iastore, 1) by decide +kernel) (am_ss (am_ss (am_ss (am_ss (am_ss hS2))))) (by omega) (by omega) (by omega) ?_
  refine am_Rq.blk (is := [(.aload_n 0, 1)]) (q := (187, [some (.ref 238), some (.int (nI p0)), some (.int (nI p1)), some (.int (nI p2)), some (.int (nI p3)), some (.int (nI p4)), some (.int (nI p5)), some (.int (nI 1)), some (.int (nI (1 + (8 * (s 0)))))], [.ref 238])) (by decide +kernel) rfl ?_
  dsimp only
  refine am_Rq.getf (v := .ref 239) (show decode (am_by 91) 187 = .ok (.getfield 7, 3) by decide +kernel) rfl ((am_sn (by decide)).trans ((am_sn (by decide)).trans ((am_sn (by decide)).trans ((am_sn (by decide)).trans ((am_sn (by decide)).trans ((am_sn (by decide)).trans hM2)))))) rfl ?_
  refine am_Rq.blk (is := [(.iload 8, 2), (.iconst 5, 1), (.iadd, 1)]) (q := (194, [some (.ref 238), some (.int (nI p0)), some (.int (nI p1)), some (.int (nI p2)), some (.int (nI p3)), some (.int (nI p4)), some (.int (nI p5)), some (.int (nI 1)), some (.int (nI (1 + (8 * (s 0)))))], [.int ((nI (1 + (8 * (s 0)))) + (nI 5)), .ref 239])) (by decide +kernel) rfl ?_
  dsimp only
  rw [show (nI (1 + (8 * (s 0)))) + (nI 5) = nI ((1 + (8 * (s 0))) + 5) from nI_add _ _]
  refine am_Rq.blk (is := [(.iload 6, 2)]) (q := (196, [some (.ref 238), some (.int (nI p0)), some (.int (nI p1)), some (.int (nI p2)), some (.int (nI p3)), some (.int (nI p4)), some (.int (nI p5)), some (.int (nI 1)), some (.int (nI (1 + (8 * (s 0)))))], [.int (nI p5), .int (nI ((1 + (8 * (s 0))) + 5)), .ref 239])) (by decide +kernel) rfl ?_
  dsimp only
  refine am_Rq.nas (s := (va_up (va_up (va_up (va_up (va_up (va_up s (0) ((s 0) + 1)) ((1 + (8 * (s 0))) + 0) (p0)) ((1 + (8 * (s 0))) + 1) (p1)) ((1 + (8 * (s 0))) + 2) (p2)) ((1 + (8 * (s 0))) + 3) (p3)) ((1 + (8 * (s 0))) + 4) (p4))) (k := (1 + (8 * (s 0))) + 5) (v := p5) (show decode (am_by 91) 196 = .ok (.iastore, 1) by decide +kernel) (am_ss (am_ss (am_ss (am_ss (am_ss (am_ss hS2)))))) (by omega) (by omega) (by omega) ?_
  refine am_Rq.blk (is := [(.aload_n 0, 1)]) (q := (198, [some (.ref 238), some (.int (nI p0)), some (.int (nI p1)), some (.int (nI p2)), some (.int (nI p3)), some (.int (nI p4)), some (.int (nI p5)), some (.int (nI 1)), some (.int (nI (1 + (8 * (s 0)))))], [.ref 238])) (by decide +kernel) rfl ?_
  dsimp only
  refine am_Rq.getf (v := .ref 239) (show decode (am_by 91) 198 = .ok (.getfield 7, 3) by decide +kernel) rfl ((am_sn (by decide)).trans ((am_sn (by decide)).trans ((am_sn (by decide)).trans ((am_sn (by decide)).trans ((am_sn (by decide)).trans ((am_sn (by decide)).trans ((am_sn (by decide)).trans hM2))))))) rfl ?_
  refine am_Rq.blk (is := [(.iload 8, 2), (.bipush 6, 2), (.iadd, 1)]) (q := (206, [some (.ref 238), some (.int (nI p0)), some (.int (nI p1)), some (.int (nI p2)), some (.int (nI p3)), some (.int (nI p4)), some (.int (nI p5)), some (.int (nI 1)), some (.int (nI (1 + (8 * (s 0)))))], [.int ((nI (1 + (8 * (s 0)))) + (nI 6)), .ref 239])) (by decide +kernel) rfl ?_
  dsimp only
  rw [show (nI (1 + (8 * (s 0)))) + (nI 6) = nI ((1 + (8 * (s 0))) + 6) from nI_add _ _]
  refine am_Rq.blk (is := [(.sipush 1000, 3), (.iload_n 1, 1), (.imul, 1)]) (q := (211, [some (.ref 238), some (.int (nI p0)), some (.int (nI p1)), some (.int (nI p2)), some (.int (nI p3)), some (.int (nI p4)), some (.int (nI p5)), some (.int (nI 1)), some (.int (nI (1 + (8 * (s 0)))))], [.int ((nI 1000) * (nI p0)), .int (nI ((1 + (8 * (s 0))) + 6)), .ref 239])) (by decide +kernel) rfl ?_
  dsimp only
  rw [show (nI 1000) * (nI p0) = nI (1000 * p0) from nm_imul _ _]
  refine am_Rq.nas (s := (va_up (va_up (va_up (va_up (va_up (va_up (va_up s (0) ((s 0) + 1)) ((1 + (8 * (s 0))) + 0) (p0)) ((1 + (8 * (s 0))) + 1) (p1)) ((1 + (8 * (s 0))) + 2) (p2)) ((1 + (8 * (s 0))) + 3) (p3)) ((1 + (8 * (s 0))) + 4) (p4)) ((1 + (8 * (s 0))) + 5) (p5))) (k := (1 + (8 * (s 0))) + 6) (v := 1000 * p0) (show decode (am_by 91) 211 = .ok (.iastore, 1) by decide +kernel) (am_ss (am_ss (am_ss (am_ss (am_ss (am_ss (am_ss hS2))))))) (by omega) (by omega) (by omega) ?_
  refine am_Rq.blk (is := [(.aload_n 0, 1)]) (q := (213, [some (.ref 238), some (.int (nI p0)), some (.int (nI p1)), some (.int (nI p2)), some (.int (nI p3)), some (.int (nI p4)), some (.int (nI p5)), some (.int (nI 1)), some (.int (nI (1 + (8 * (s 0)))))], [.ref 238])) (by decide +kernel) rfl ?_
  dsimp only
  refine am_Rq.getf (v := .ref 239) (show decode (am_by 91) 213 = .ok (.getfield 7, 3) by decide +kernel) rfl ((am_sn (by decide)).trans ((am_sn (by decide)).trans ((am_sn (by decide)).trans ((am_sn (by decide)).trans ((am_sn (by decide)).trans ((am_sn (by decide)).trans ((am_sn (by decide)).trans ((am_sn (by decide)).trans hM2)))))))) rfl ?_
  refine am_Rq.blk (is := [(.iconst 0, 1)]) (q := (217, [some (.ref 238), some (.int (nI p0)), some (.int (nI p1)), some (.int (nI p2)), some (.int (nI p3)), some (.int (nI p4)), some (.int (nI p5)), some (.int (nI 1)), some (.int (nI (1 + (8 * (s 0)))))], [.int (nI 0), .ref 239])) (by decide +kernel) rfl ?_
  dsimp only
  refine am_Rq.ial (k := 0) (show decode (am_by 91) 217 = .ok (.iaload, 1) by decide +kernel) (am_ss (am_ss (am_ss (am_ss (am_ss (am_ss (am_ss (am_ss hS2)))))))) (by omega) (by omega) ?_
  refine am_Rq.ret (v := some (.int (nI ((va_up (va_up (va_up (va_up (va_up (va_up (va_up (va_up s (0) ((s 0) + 1)) ((1 + (8 * (s 0))) + 0) (p0)) ((1 + (8 * (s 0))) + 1) (p1)) ((1 + (8 * (s 0))) + 2) (p2)) ((1 + (8 * (s 0))) + 3) (p3)) ((1 + (8 * (s 0))) + 4) (p4)) ((1 + (8 * (s 0))) + 5) (p5)) ((1 + (8 * (s 0))) + 6) (1000 * p0)) 0)))) (show decode (am_by 91) 218 = .ok (.ireturn, 1) by decide +kernel) rfl rfl ?_
  exact ⟨_, rfl, rfl, ((am_sn (by decide)).trans ((am_sn (by decide)).trans ((am_sn (by decide)).trans ((am_sn (by decide)).trans ((am_sn (by decide)).trans ((am_sn (by decide)).trans ((am_sn (by decide)).trans ((am_sn (by decide)).trans hM2)))))))), (am_ss (am_ss (am_ss (am_ss (am_ss (am_ss (am_ss (am_ss hS2)))))))), ⟨f1, ((am_sn (by decide)).trans ((am_sn (by decide)).trans ((am_sn (by decide)).trans ((am_sn (by decide)).trans ((am_sn (by decide)).trans ((am_sn (by decide)).trans ((am_sn (by decide)).trans ((am_sn (by decide)).trans hF2)))))))), hF3, hF4⟩, ((((((((hfr.set ⟨by decide, by decide⟩ hS2 (by simp [am_ia_len])).set ⟨by decide, by decide⟩ (am_ss hS2) (by simp [am_ia_len])).set ⟨by decide, by decide⟩ (am_ss (am_ss hS2)) (by simp [am_ia_len])).set ⟨by decide, by decide⟩ (am_ss (am_ss (am_ss hS2))) (by simp [am_ia_len])).set ⟨by decide, by decide⟩ (am_ss (am_ss (am_ss (am_ss hS2)))) (by simp [am_ia_len])).set ⟨by decide, by decide⟩ (am_ss (am_ss (am_ss (am_ss (am_ss hS2))))) (by simp [am_ia_len])).set ⟨by decide, by decide⟩ (am_ss (am_ss (am_ss (am_ss (am_ss (am_ss hS2)))))) (by simp [am_ia_len])).set ⟨by decide, by decide⟩ (am_ss (am_ss (am_ss (am_ss (am_ss (am_ss (am_ss hS2))))))) (by simp [am_ia_len]))⟩
theorem m_grant {th kn co : Nat} (hM : hp[238]? = some (7, [.int (nI th), .ref 239, .ref 240, .int (nI kn), .ref 241, .ref 242, .ref 243, .ref 244, .long (lN co), .ref 245])) {s : Nat → Nat} (hS : hp[239]? = some (100, am_ia (fun i => nI (s i)) 160)) {f : Nat → Int32} (hF : hp[240]? = some (100, am_ia f 1280)) (hkn : kn ≤ 8) (h82 : s 82 ≤ 10) {k n cl ln : Nat} (hk : k < 8) (n1 : 1 ≤ n) (n2 : n ≤ 2000) (c2 : cl ≤ 60) (l1 : cl ≤ ln) (l2 : ln ≤ 60) (h80 : s 80 ≤ 5000) (hg2 : sp_sm (fun g => s (83 + 7 * g + 1)) (s 82) < 2 ^ 31) (hg : s 82 < 10) (ho : sp_sm (fun g => s (83 + 7 * g + 1)) (s 82) + n ≤ s 80) : am_Rq (d + 2) 107 0 (am_en [.ref 238, .int (nI k), .int (nI n), .int (nI cl), .int (nI ln)] 7) [] hp (am_Ret fun hp1 v => v = some (.int (nI (s 82))) ∧ m_Chg hp f kn co s ((va_up (va_up (va_up (va_up (va_up (va_up (va_up (va_up s (82) ((s 82) + 1)) ((83 + (7 * (s 82))) + 0) (k)) ((83 + (7 * (s 82))) + 1) (n)) ((83 + (7 * (s 82))) + 2) (cl)) ((83 + (7 * (s 82))) + 3) (ln)) ((83 + (7 * (s 82))) + 4) ((va_up (va_up (va_up (va_up (va_up s (82) ((s 82) + 1)) ((83 + (7 * (s 82))) + 0) (k)) ((83 + (7 * (s 82))) + 1) (n)) ((83 + (7 * (s 82))) + 2) (cl)) ((83 + (7 * (s 82))) + 3) (ln)) 81)) ((83 + (7 * (s 82))) + 5) (0)) ((83 + (7 * (s 82))) + 6) (0))) hp1) := by
  show am_Rq _ 107 0 [some (.ref 238), some (.int (nI k)), some (.int (nI n)), some (.int (nI cl)), some (.int (nI ln)), none, none] [] _ _
  refine am_Rq.blk (is := [(.iload_n 2, 1), (.iconst 1, 1), (.sipush 2000, 3)]) (q := (5, [some (.ref 238), some (.int (nI k)), some (.int (nI n)), some (.int (nI cl)), some (.int (nI ln)), none, none], [.int (nI 2000), .int (nI 1), .int (nI n)])) (by decide +kernel) rfl ?_
  dsimp only
  refine am_Rq.callS (show decode (am_by 107) 5 = .ok (.invokestatic 39, 3) by decide +kernel) rfl [.int (nI n), .int (nI 1), .int (nI 2000)] [] rfl rfl (Nat.le_of_ble_eq_true rfl) rfl rfl (m_in (nI n) (nI 1) (nI 2000)) ?_
  rintro hq _ ⟨e1, rfl⟩
  rw [e1]
  clear e1 hq
  show am_Rq _ 107 8 [some (.ref 238), some (.int (nI k)), some (.int (nI n)), some (.int (nI cl)), some (.int (nI ln)), none, none] [.int (nI (am_b (rg_r (nI 1) (nI 2000) (nI n))))] _ _
  refine am_Rq.if1F (show decode (am_by 107) 8 = .ok (.ifCond .eq 34, 3) by decide +kernel) (by decide) (by rw [am_b_eq, rg_le n1 n2 (by omega)]; rfl) ?_
  refine am_Rq.blk (is := [(.iload_n 3, 1), (.iconst 0, 1), (.bipush 60, 2)]) (q := (15, [some (.ref 238), some (.int (nI k)), some (.int (nI n)), some (.int (nI cl)), some (.int (nI ln)), none, none], [.int (nI 60), .int (nI 0), .int (nI cl)])) (by decide +kernel) rfl ?_
  dsimp only
  refine am_Rq.callS (show decode (am_by 107) 15 = .ok (.invokestatic 39, 3) by decide +kernel) rfl [.int (nI cl), .int (nI 0), .int (nI 60)] [] rfl rfl (Nat.le_of_ble_eq_true rfl) rfl rfl (m_in (nI cl) (nI 0) (nI 60)) ?_
  rintro hq _ ⟨e1, rfl⟩
  rw [e1]
  clear e1 hq
  show am_Rq _ 107 18 [some (.ref 238), some (.int (nI k)), some (.int (nI n)), some (.int (nI cl)), some (.int (nI ln)), none, none] [.int (nI (am_b (rg_r (nI 0) (nI 60) (nI cl))))] _ _
  refine am_Rq.if1F (show decode (am_by 107) 18 = .ok (.ifCond .eq 24, 3) by decide +kernel) (by decide) (by rw [am_b_eq, rg_le (by omega) c2 (by omega)]; rfl) ?_
  refine am_Rq.blk (is := [(.iload 4, 2), (.iconst 0, 1), (.bipush 60, 2)]) (q := (26, [some (.ref 238), some (.int (nI k)), some (.int (nI n)), some (.int (nI cl)), some (.int (nI ln)), none, none], [.int (nI 60), .int (nI 0), .int (nI ln)])) (by decide +kernel) rfl ?_
  dsimp only
  refine am_Rq.callS (show decode (am_by 107) 26 = .ok (.invokestatic 39, 3) by decide +kernel) rfl [.int (nI ln), .int (nI 0), .int (nI 60)] [] rfl rfl (Nat.le_of_ble_eq_true rfl) rfl rfl (m_in (nI ln) (nI 0) (nI 60)) ?_
  rintro hq _ ⟨e1, rfl⟩
  rw [e1]
  clear e1 hq
  show am_Rq _ 107 29 [some (.ref 238), some (.int (nI k)), some (.int (nI n)), some (.int (nI cl)), some (.int (nI ln)), none, none] [.int (nI (am_b (rg_r (nI 0) (nI 60) (nI ln))))] _ _
  refine am_Rq.if1F (show decode (am_by 107) 29 = .ok (.ifCond .eq 13, 3) by decide +kernel) (by decide) (by rw [am_b_eq, rg_le (by omega) l2 (by omega)]; rfl) ?_
  refine am_Rq.blk (is := [(.iload 4, 2), (.iload_n 3, 1)]) (q := (35, [some (.ref 238), some (.int (nI k)), some (.int (nI n)), some (.int (nI cl)), some (.int (nI ln)), none, none], [.int (nI cl), .int (nI ln)])) (by decide +kernel) rfl ?_
  dsimp only
  refine am_Rq.if2F (show decode (am_by 107) 35 = .ok (.if_icmp .lt 7, 3) by decide +kernel) (by decide) (by rw [nm_lt (by omega) (by omega)]; exact decide_eq_false (by omega)) ?_
  refine am_Rq.blk (is := [(.iconst 1, 1), (.goto 4, 3)]) (q := (43, [some (.ref 238), some (.int (nI k)), some (.int (nI n)), some (.int (nI cl)), some (.int (nI ln)), none, none], [.int (nI 1)])) (by decide +kernel) rfl ?_
  dsimp only
  refine am_Rq.blk (is := [(.istore 5, 2), (.aload_n 0, 1), (.iload_n 1, 1)]) (q := (47, [some (.ref 238), some (.int (nI k)), some (.int (nI n)), some (.int (nI cl)), some (.int (nI ln)), some (.int (nI 1)), none], [.int (nI k), .ref 238])) (by decide +kernel) rfl ?_
  dsimp only
  refine am_Rq.callS (show decode (am_by 107) 47 = .ok (.invokestatic 68, 3) by decide +kernel) rfl [.int (nI k)] [.ref 238] rfl rfl (Nat.le_of_ble_eq_true rfl) rfl rfl (m_isHolder (nI k)) ?_
  rintro hq _ ⟨e1, rfl⟩
  rw [e1]
  clear e1 hq
  show am_Rq _ 107 50 [some (.ref 238), some (.int (nI k)), some (.int (nI n)), some (.int (nI cl)), some (.int (nI ln)), some (.int (nI 1)), none] [.int (nI (am_b (rg_r (nI 0) (nI 7) (nI k)))), .ref 238] _ _
  refine am_Rq.if1T (t := 57) (show decode (am_by 107) 50 = .ok (.ifCond .ne 7, 3) by decide +kernel) (by decide) (by rw [am_b_ne, rg_le (by omega) (show k ≤ 7 by omega) (by omega)]) ?_
  refine am_Rq.blk (is := [(.iconst 0, 1), (.iload 5, 2)]) (q := (60, [some (.ref 238), some (.int (nI k)), some (.int (nI n)), some (.int (nI cl)), some (.int (nI ln)), some (.int (nI 1)), none], [.int (nI 1), .int (nI 0), .ref 238])) (by decide +kernel) rfl ?_
  dsimp only
  refine am_Rq.if1T (t := 67) (show decode (am_by 107) 60 = .ok (.ifCond .ne 7, 3) by decide +kernel) (by decide) (rfl) ?_
  refine am_Rq.blk (is := [(.iconst 0, 1), (.aload_n 0, 1)]) (q := (69, [some (.ref 238), some (.int (nI k)), some (.int (nI n)), some (.int (nI cl)), some (.int (nI ln)), some (.int (nI 1)), none], [.ref 238, .int (nI 0), .int (nI 0), .ref 238])) (by decide +kernel) rfl ?_
  dsimp only
  refine am_Rq.getf (v := .ref 239) (show decode (am_by 107) 69 = .ok (.getfield 7, 3) by decide +kernel) rfl hM rfl ?_
  refine am_Rq.blk (is := [(.bipush 82, 2)]) (q := (74, [some (.ref 238), some (.int (nI k)), some (.int (nI n)), some (.int (nI cl)), some (.int (nI ln)), some (.int (nI 1)), none], [.int (nI 82), .ref 239, .int (nI 0), .int (nI 0), .ref 238])) (by decide +kernel) rfl ?_
  dsimp only
  refine am_Rq.ial (k := 82) (show decode (am_by 107) 74 = .ok (.iaload, 1) by decide +kernel) hS (by omega) (by omega) ?_
  refine am_Rq.blk (is := [(.bipush 10, 2)]) (q := (77, [some (.ref 238), some (.int (nI k)), some (.int (nI n)), some (.int (nI cl)), some (.int (nI ln)), some (.int (nI 1)), none], [.int (nI 10), .int (nI (s 82)), .int (nI 0), .int (nI 0), .ref 238])) (by decide +kernel) rfl ?_
  dsimp only
  refine am_Rq.if2F (show decode (am_by 107) 77 = .ok (.if_icmp .eq 19, 3) by decide +kernel) (by decide) (by rw [nm_eq (by omega) (by omega)]; exact decide_eq_false (by omega)) ?_
  refine am_Rq.blk (is := [(.aload_n 0, 1)]) (q := (81, [some (.ref 238), some (.int (nI k)), some (.int (nI n)), some (.int (nI cl)), some (.int (nI ln)), some (.int (nI 1)), none], [.ref 238, .int (nI 0), .int (nI 0), .ref 238])) (by decide +kernel) rfl ?_
  dsimp only
  refine am_Rq.getf (v := .ref 239) (show decode (am_by 107) 81 = .ok (.getfield 7, 3) by decide +kernel) rfl hM rfl ?_
  refine am_Rq.blk (is := [(.bipush 80, 2)]) (q := (86, [some (.ref 238), some (.int (nI k)), some (.int (nI n)), some (.int (nI cl)), some (.int (nI ln)), some (.int (nI 1)), none], [.int (nI 80), .ref 239, .int (nI 0), .int (nI 0), .ref 238])) (by decide +kernel) rfl ?_
  dsimp only
  refine am_Rq.ial (k := 80) (show decode (am_by 107) 86 = .ok (.iaload, 1) by decide +kernel) hS (by omega) (by omega) ?_
  refine am_Rq.blk (is := [(.aload_n 0, 1)]) (q := (88, [some (.ref 238), some (.int (nI k)), some (.int (nI n)), some (.int (nI cl)), some (.int (nI ln)), some (.int (nI 1)), none], [.ref 238, .int (nI (s 80)), .int (nI 0), .int (nI 0), .ref 238])) (by decide +kernel) rfl ?_
  dsimp only
  refine am_Rq.callV (show decode (am_by 107) 88 = .ok (.invokevirtual 80, 3) by decide +kernel) rfl [] [.int (nI (s 80)), .int (nI 0), .int (nI 0), .ref 238] rfl rfl (Nat.le_of_ble_eq_true rfl) rfl hM rfl (m_grantedNow hM hS h82) ?_
  rintro hq _ ⟨e1, rfl⟩
  rw [e1]
  clear e1 hq
  show am_Rq _ 107 91 [some (.ref 238), some (.int (nI k)), some (.int (nI n)), some (.int (nI cl)), some (.int (nI ln)), some (.int (nI 1)), none] [.int (nI (sp_sm (fun g => s (83 + 7 * g + 1)) (s 82))), .int (nI (s 80)), .int (nI 0), .int (nI 0), .ref 238] _ _
  refine am_Rq.blk (is := [(.isub, 1), (.iload_n 2, 1)]) (q := (93, [some (.ref 238), some (.int (nI k)), some (.int (nI n)), some (.int (nI cl)), some (.int (nI ln)), some (.int (nI 1)), none], [.int (nI n), .int ((nI (s 80)) - (nI (sp_sm (fun g => s (83 + 7 * g + 1)) (s 82)))), .int (nI 0), .int (nI 0), .ref 238])) (by decide +kernel) rfl ?_
  dsimp only
  refine am_Rq.if2T (t := 100) (show decode (am_by 107) 93 = .ok (.if_icmp .ge 7, 3) by decide +kernel) (by decide) (by exact decide_eq_true (by rw [← Int32.not_lt, nm_subLt (by omega) hg2 (by omega)]; omega)) ?_
  refine am_Rq.blk (is := [(.iconst 0, 1)]) (q := (101, [some (.ref 238), some (.int (nI k)), some (.int (nI n)), some (.int (nI cl)), some (.int (nI ln)), some (.int (nI 1)), none], [.int (nI 0), .int (nI 0), .int (nI 0), .ref 238])) (by decide +kernel) rfl ?_
  dsimp only
  refine am_Rq.callV (show decode (am_by 107) 101 = .ok (.invokevirtual 57, 3) by decide +kernel) rfl [.int (nI (am_b false)), .int (nI (am_b false)), .int (nI (am_b false))] [] rfl rfl (Nat.le_of_ble_eq_true rfl) rfl hM rfl (m_refused hM false false false) ?_
  rintro _ _ ⟨rfl, rfl⟩
  have hM1 := am_ss (c' := (7, m_ob 0 kn co)) hM
  have hS1 := (am_sn (c' := (7, m_ob 0 kn co)) (show 238 ≠ 239 by decide)).trans hS
  show am_Rq _ 107 104 [some (.ref 238), some (.int (nI k)), some (.int (nI n)), some (.int (nI cl)), some (.int (nI ln)), some (.int (nI 1)), none] [.int (nI (am_b false))] _ _
  refine am_Rq.if1T (t := 109) (show decode (am_by 107) 104 = .ok (.ifCond .eq 5, 3) by decide +kernel) (by decide) (rfl) ?_
  refine am_Rq.blk (is := [(.aload_n 0, 1)]) (q := (110, [some (.ref 238), some (.int (nI k)), some (.int (nI n)), some (.int (nI cl)), some (.int (nI ln)), some (.int (nI 1)), none], [.ref 238])) (by decide +kernel) rfl ?_
  dsimp only
  have hF1 := (am_sn (c' := (7, m_ob 0 kn co)) (show 238 ≠ 240 by decide)).trans hF
  refine am_Rq.callV (show decode (am_by 107) 110 = .ok (.invokevirtual 61, 3) by decide +kernel) rfl [] [] rfl rfl (Nat.le_of_ble_eq_true rfl) rfl hM1 rfl (m_remember hM1 hS1 hF1 hkn) ?_
  rintro hp2 _ ⟨rfl, hM2, ⟨f1, hF2, hF3, hF4⟩, hf2⟩
  have hS2 := (hf2.2.2 239 (fun q => by omega)).trans hS1
  have hfr : am_fr (fun x => 238 ≤ x ∧ x < 241) hp hp2 := ((am_fr.rf (A := fun x => 238 ≤ x ∧ x < 241)).set (c' := (7, m_ob 0 kn co)) ⟨by decide, by decide⟩ hM rfl).trans (hf2.mono (A' := fun x => 238 ≤ x ∧ x < 241) (fun x q => by rcases q with q | q <;> subst q <;> exact ⟨by decide, by decide⟩))
  show am_Rq _ 107 113 [some (.ref 238), some (.int (nI k)), some (.int (nI n)), some (.int (nI cl)), some (.int (nI ln)), some (.int (nI 1)), none] [] _ _
  refine am_Rq.blk (is := [(.bipush 83, 2), (.bipush 7, 2), (.aload_n 0, 1)]) (q := (118, [some (.ref 238), some (.int (nI k)), some (.int (nI n)), some (.int (nI cl)), some (.int (nI ln)), some (.int (nI 1)), none], [.ref 238, .int (nI 7), .int (nI 83)])) (by decide +kernel) rfl ?_
  dsimp only
  refine am_Rq.getf (v := .ref 239) (show decode (am_by 107) 118 = .ok (.getfield 7, 3) by decide +kernel) rfl hM2 rfl ?_
  refine am_Rq.blk (is := [(.bipush 82, 2)]) (q := (123, [some (.ref 238), some (.int (nI k)), some (.int (nI n)), some (.int (nI cl)), some (.int (nI ln)), some (.int (nI 1)), none], [.int (nI 82), .ref 239, .int (nI 7), .int (nI 83)])) (by decide +kernel) rfl ?_
  dsimp only
  refine am_Rq.ial (k := 82) (show decode (am_by 107) 123 = .ok (.iaload, 1) by decide +kernel) hS2 (by omega) (by omega) ?_
  refine am_Rq.blk (is := [(.imul, 1)]) (q := (125, [some (.ref 238), some (.int (nI k)), some (.int (nI n)), some (.int (nI cl)), some (.int (nI ln)), some (.int (nI 1)), none], [.int ((nI 7) * (nI (s 82))), .int (nI 83)])) (by decide +kernel) rfl ?_
  dsimp only
  rw [show (nI 7) * (nI (s 82)) = nI (7 * (s 82)) from nm_imul _ _]
  refine am_Rq.blk (is := [(.iadd, 1)]) (q := (126, [some (.ref 238), some (.int (nI k)), some (.int (nI n)), some (.int (nI cl)), some (.int (nI ln)), some (.int (nI 1)), none], [.int ((nI 83) + (nI (7 * (s 82))))])) (by decide +kernel) rfl ?_
  dsimp only
  rw [show (nI 83) + (nI (7 * (s 82))) = nI (83 + (7 * (s 82))) from nI_add _ _]
  refine am_Rq.blk (is := [(.istore 6, 2), (.aload_n 0, 1)]) (q := (129, [some (.ref 238), some (.int (nI k)), some (.int (nI n)), some (.int (nI cl)), some (.int (nI ln)), some (.int (nI 1)), some (.int (nI (83 + (7 * (s 82)))))], [.ref 238])) (by decide +kernel) rfl ?_
  dsimp only
  refine am_Rq.getf (v := .ref 239) (show decode (am_by 107) 129 = .ok (.getfield 7, 3) by decide +kernel) rfl hM2 rfl ?_
  refine am_Rq.blk (is := [(.bipush 82, 2), (.dup2, 1)]) (q := (135, [some (.ref 238), some (.int (nI k)), some (.int (nI n)), some (.int (nI cl)), some (.int (nI ln)), some (.int (nI 1)), some (.int (nI (83 + (7 * (s 82)))))], [.int (nI 82), .ref 239, .int (nI 82), .ref 239])) (by decide +kernel) rfl ?_
  dsimp only
  refine am_Rq.ial (k := 82) (show decode (am_by 107) 135 = .ok (.iaload, 1) by decide +kernel) hS2 (by omega) (by omega) ?_
  refine am_Rq.blk (is := [(.iconst 1, 1), (.iadd, 1)]) (q := (138, [some (.ref 238), some (.int (nI k)), some (.int (nI n)), some (.int (nI cl)), some (.int (nI ln)), some (.int (nI 1)), some (.int (nI (83 + (7 * (s 82)))))], [.int ((nI (s 82)) + (nI 1)), .int (nI 82), .ref 239])) (by decide +kernel) rfl ?_
  dsimp only
  rw [show (nI (s 82)) + (nI 1) = nI ((s 82) + 1) from nI_add _ _]
  refine am_Rq.nas (s := s) (k := 82) (v := (s 82) + 1) (show decode (am_by 107) 138 = .ok (.iastore, 1) by decide +kernel) hS2 (by omega) (by omega) (by omega) ?_
  refine am_Rq.blk (is := [(.aload_n 0, 1)]) (q := (140, [some (.ref 238), some (.int (nI k)), some (.int (nI n)), some (.int (nI cl)), some (.int (nI ln)), some (.int (nI 1)), some (.int (nI (83 + (7 * (s 82)))))], [.ref 238])) (by decide +kernel) rfl ?_
  dsimp only
  refine am_Rq.getf (v := .ref 239) (show decode (am_by 107) 140 = .ok (.getfield 7, 3) by decide +kernel) rfl ((am_sn (by decide)).trans hM2) rfl ?_
  refine am_Rq.blk (is := [(.iload 6, 2), (.iconst 0, 1), (.iadd, 1)]) (q := (147, [some (.ref 238), some (.int (nI k)), some (.int (nI n)), some (.int (nI cl)), some (.int (nI ln)), some (.int (nI 1)), some (.int (nI (83 + (7 * (s 82)))))], [.int ((nI (83 + (7 * (s 82)))) + (nI 0)), .ref 239])) (by decide +kernel) rfl ?_
  dsimp only
  rw [show (nI (83 + (7 * (s 82)))) + (nI 0) = nI ((83 + (7 * (s 82))) + 0) from nI_add _ _]
  refine am_Rq.blk (is := [(.iload_n 1, 1)]) (q := (148, [some (.ref 238), some (.int (nI k)), some (.int (nI n)), some (.int (nI cl)), some (.int (nI ln)), some (.int (nI 1)), some (.int (nI (83 + (7 * (s 82)))))], [.int (nI k), .int (nI ((83 + (7 * (s 82))) + 0)), .ref 239])) (by decide +kernel) rfl ?_
  dsimp only
  refine am_Rq.nas (s := (va_up s (82) ((s 82) + 1))) (k := (83 + (7 * (s 82))) + 0) (v := k) (show decode (am_by 107) 148 = .ok (.iastore, 1) by decide +kernel) (am_ss hS2) (by omega) (by omega) (by omega) ?_
  refine am_Rq.blk (is := [(.aload_n 0, 1)]) (q := (150, [some (.ref 238), some (.int (nI k)), some (.int (nI n)), some (.int (nI cl)), some (.int (nI ln)), some (.int (nI 1)), some (.int (nI (83 + (7 * (s 82)))))], [.ref 238])) (by decide +kernel) rfl ?_
  dsimp only
  refine am_Rq.getf (v := .ref 239) (show decode (am_by 107) 150 = .ok (.getfield 7, 3) by decide +kernel) rfl ((am_sn (by decide)).trans ((am_sn (by decide)).trans hM2)) rfl ?_
  refine am_Rq.blk (is := [(.iload 6, 2), (.iconst 1, 1), (.iadd, 1)]) (q := (157, [some (.ref 238), some (.int (nI k)), some (.int (nI n)), some (.int (nI cl)), some (.int (nI ln)), some (.int (nI 1)), some (.int (nI (83 + (7 * (s 82)))))], [.int ((nI (83 + (7 * (s 82)))) + (nI 1)), .ref 239])) (by decide +kernel) rfl ?_
  dsimp only
  rw [show (nI (83 + (7 * (s 82)))) + (nI 1) = nI ((83 + (7 * (s 82))) + 1) from nI_add _ _]
  refine am_Rq.blk (is := [(.iload_n 2, 1)]) (q := (158, [some (.ref 238), some (.int (nI k)), some (.int (nI n)), some (.int (nI cl)), some (.int (nI ln)), some (.int (nI 1)), some (.int (nI (83 + (7 * (s 82)))))], [.int (nI n), .int (nI ((83 + (7 * (s 82))) + 1)), .ref 239])) (by decide +kernel) rfl ?_
  dsimp only
  refine am_Rq.nas (s := (va_up (va_up s (82) ((s 82) + 1)) ((83 + (7 * (s 82))) + 0) (k))) (k := (83 + (7 * (s 82))) + 1) (v := n) (show decode (am_by 107) 158 = .ok (.iastore, 1) by decide +kernel) (am_ss (am_ss hS2)) (by omega) (by omega) (by omega) ?_
  refine am_Rq.blk (is := [(.aload_n 0, 1)]) (q := (160, [some (.ref 238), some (.int (nI k)), some (.int (nI n)), some (.int (nI cl)), some (.int (nI ln)), some (.int (nI 1)), some (.int (nI (83 + (7 * (s 82)))))], [.ref 238])) (by decide +kernel) rfl ?_
  dsimp only
  refine am_Rq.getf (v := .ref 239) (show decode (am_by 107) 160 = .ok (.getfield 7, 3) by decide +kernel) rfl ((am_sn (by decide)).trans ((am_sn (by decide)).trans ((am_sn (by decide)).trans hM2))) rfl ?_
  refine am_Rq.blk (is := [(.iload 6, 2), (.iconst 2, 1), (.iadd, 1)]) (q := (167, [some (.ref 238), some (.int (nI k)), some (.int (nI n)), some (.int (nI cl)), some (.int (nI ln)), some (.int (nI 1)), some (.int (nI (83 + (7 * (s 82)))))], [.int ((nI (83 + (7 * (s 82)))) + (nI 2)), .ref 239])) (by decide +kernel) rfl ?_
  dsimp only
  rw [show (nI (83 + (7 * (s 82)))) + (nI 2) = nI ((83 + (7 * (s 82))) + 2) from nI_add _ _]
  refine am_Rq.blk (is := [(.iload_n 3, 1)]) (q := (168, [some (.ref 238), some (.int (nI k)), some (.int (nI n)), some (.int (nI cl)), some (.int (nI ln)), some (.int (nI 1)), some (.int (nI (83 + (7 * (s 82)))))], [.int (nI cl), .int (nI ((83 + (7 * (s 82))) + 2)), .ref 239])) (by decide +kernel) rfl ?_
  dsimp only
  refine am_Rq.nas (s := (va_up (va_up (va_up s (82) ((s 82) + 1)) ((83 + (7 * (s 82))) + 0) (k)) ((83 + (7 * (s 82))) + 1) (n))) (k := (83 + (7 * (s 82))) + 2) (v := cl) (show decode (am_by 107) 168 = .ok (.iastore, 1) by decide +kernel) (am_ss (am_ss (am_ss hS2))) (by omega) (by omega) (by omega) ?_
  refine am_Rq.blk (is := [(.aload_n 0, 1)]) (q := (170, [some (.ref 238), some (.int (nI k)), some (.int (nI n)), some (.int (nI cl)), some (.int (nI ln)), some (.int (nI 1)), some (.int (nI (83 + (7 * (s 82)))))], [.ref 238])) (by decide +kernel) rfl ?_
  dsimp only
  refine am_Rq.getf (v := .ref 239) (show decode (am_by 107) 170 = .ok (.getfield 7, 3) by decide +kernel) rfl ((am_sn (by decide)).trans ((am_sn (by decide)).trans ((am_sn (by decide)).trans ((am_sn (by decide)).trans hM2)))) rfl ?_
  refine am_Rq.blk (is := [(.iload 6, 2), (.iconst 3, 1), (.iadd, 1)]) (q := (177, [some (.ref 238), some (.int (nI k)), some (.int (nI n)), some (.int (nI cl)), some (.int (nI ln)), some (.int (nI 1)), some (.int (nI (83 + (7 * (s 82)))))], [.int ((nI (83 + (7 * (s 82)))) + (nI 3)), .ref 239])) (by decide +kernel) rfl ?_
  dsimp only
  rw [show (nI (83 + (7 * (s 82)))) + (nI 3) = nI ((83 + (7 * (s 82))) + 3) from nI_add _ _]
  refine am_Rq.blk (is := [(.iload 4, 2)]) (q := (179, [some (.ref 238), some (.int (nI k)), some (.int (nI n)), some (.int (nI cl)), some (.int (nI ln)), some (.int (nI 1)), some (.int (nI (83 + (7 * (s 82)))))], [.int (nI ln), .int (nI ((83 + (7 * (s 82))) + 3)), .ref 239])) (by decide +kernel) rfl ?_
  dsimp only
  refine am_Rq.nas (s := (va_up (va_up (va_up (va_up s (82) ((s 82) + 1)) ((83 + (7 * (s 82))) + 0) (k)) ((83 + (7 * (s 82))) + 1) (n)) ((83 + (7 * (s 82))) + 2) (cl))) (k := (83 + (7 * (s 82))) + 3) (v := ln) (show decode (am_by 107) 179 = .ok (.iastore, 1) by decide +kernel) (am_ss (am_ss (am_ss (am_ss hS2)))) (by omega) (by omega) (by omega) ?_
  refine am_Rq.blk (is := [(.aload_n 0, 1)]) (q := (181, [some (.ref 238), some (.int (nI k)), some (.int (nI n)), some (.int (nI cl)), some (.int (nI ln)), some (.int (nI 1)), some (.int (nI (83 + (7 * (s 82)))))], [.ref 238])) (by decide +kernel) rfl ?_
  dsimp only
  refine am_Rq.getf (v := .ref 239) (show decode (am_by 107) 181 = .ok (.getfield 7, 3) by decide +kernel) rfl ((am_sn (by decide)).trans ((am_sn (by decide)).trans ((am_sn (by decide)).trans ((am_sn (by decide)).trans ((am_sn (by decide)).trans hM2))))) rfl ?_
  refine am_Rq.blk (is := [(.iload 6, 2), (.iconst 4, 1), (.iadd, 1)]) (q := (188, [some (.ref 238), some (.int (nI k)), some (.int (nI n)), some (.int (nI cl)), some (.int (nI ln)), some (.int (nI 1)), some (.int (nI (83 + (7 * (s 82)))))], [.int ((nI (83 + (7 * (s 82)))) + (nI 4)), .ref 239])) (by decide +kernel) rfl ?_
  dsimp only
  rw [show (nI (83 + (7 * (s 82)))) + (nI 4) = nI ((83 + (7 * (s 82))) + 4) from nI_add _ _]
  refine am_Rq.blk (is := [(.aload_n 0, 1)]) (q := (189, [some (.ref 238), some (.int (nI k)), some (.int (nI n)), some (.int (nI cl)), some (.int (nI ln)), some (.int (nI 1)), some (.int (nI (83 + (7 * (s 82)))))], [.ref 238, .int (nI ((83 + (7 * (s 82))) + 4)), .ref 239])) (by decide +kernel) rfl ?_
  dsimp only
  refine am_Rq.getf (v := .ref 239) (show decode (am_by 107) 189 = .ok (.getfield 7, 3) by decide +kernel) rfl ((am_sn (by decide)).trans ((am_sn (by decide)).trans ((am_sn (by decide)).trans ((am_sn (by decide)).trans ((am_sn (by decide)).trans hM2))))) rfl ?_
  refine am_Rq.blk (is := [(.bipush 81, 2)]) (q := (194, [some (.ref 238), some (.int (nI k)), some (.int (nI n)), some (.int (nI cl)), some (.int (nI ln)), some (.int (nI 1)), some (.int (nI (83 + (7 * (s 82)))))], [.int (nI 81), .ref 239, .int (nI ((83 + (7 * (s 82))) + 4)), .ref 239])) (by decide +kernel) rfl ?_
  dsimp only
  refine am_Rq.ial (k := 81) (show decode (am_by 107) 194 = .ok (.iaload, 1) by decide +kernel) (am_ss (am_ss (am_ss (am_ss (am_ss hS2))))) (by omega) (by omega) ?_
  refine am_Rq.nas (s := (va_up (va_up (va_up (va_up (va_up s (82) ((s 82) + 1)) ((83 + (7 * (s 82))) + 0) (k)) ((83 + (7 * (s 82))) + 1) (n)) ((83 + (7 * (s 82))) + 2) (cl)) ((83 + (7 * (s 82))) + 3) (ln))) (k := (83 + (7 * (s 82))) + 4) (v := (va_up (va_up (va_up (va_up (va_up s (82) ((s 82) + 1)) ((83 + (7 * (s 82))) + 0) (k)) ((83 + (7 * (s 82))) + 1) (n)) ((83 + (7 * (s 82))) + 2) (cl)) ((83 + (7 * (s 82))) + 3) (ln)) 81) (show decode (am_by 107) 195 = .ok (.iastore, 1) by decide +kernel) (am_ss (am_ss (am_ss (am_ss (am_ss hS2))))) (by omega) (by omega) (by omega) ?_
  refine am_Rq.blk (is := [(.aload_n 0, 1)]) (q := (197, [some (.ref 238), some (.int (nI k)), some (.int (nI n)), some (.int (nI cl)), some (.int (nI ln)), some (.int (nI 1)), some (.int (nI (83 + (7 * (s 82)))))], [.ref 238])) (by decide +kernel) rfl ?_
  dsimp only
  refine am_Rq.getf (v := .ref 239) (show decode (am_by 107) 197 = .ok (.getfield 7, 3) by decide +kernel) rfl ((am_sn (by decide)).trans ((am_sn (by decide)).trans ((am_sn (by decide)).trans ((am_sn (by decide)).trans ((am_sn (by decide)).trans ((am_sn (by decide)).trans hM2)))))) rfl ?_
  refine am_Rq.blk (is := [(.iload 6, 2), (.iconst 5, 1), (.iadd, 1)]) (q := (204, [some (.ref 238), some (.int (nI k)), some (.int (nI n)), some (.int (nI cl)), some (.int (nI ln)), some (.int (nI 1)), some (.int (nI (83 + (7 * (s 82)))))], [.int ((nI (83 + (7 * (s 82)))) + (nI 5)), .ref 239])) (by decide +kernel) rfl ?_
  dsimp only
  rw [show (nI (83 + (7 * (s 82)))) + (nI 5) = nI ((83 + (7 * (s 82))) + 5) from nI_add _ _]
  refine am_Rq.blk (is := [(.iconst 0, 1)]) (q := (205, [some (.ref 238), some (.int (nI k)), some (.int (nI n)), some (.int (nI cl)), some (.int (nI ln)), some (.int (nI 1)), some (.int (nI (83 + (7 * (s 82)))))], [.int (nI 0), .int (nI ((83 + (7 * (s 82))) + 5)), .ref 239])) (by decide +kernel) rfl ?_
  dsimp only
  refine am_Rq.nas (s := (va_up (va_up (va_up (va_up (va_up (va_up s (82) ((s 82) + 1)) ((83 + (7 * (s 82))) + 0) (k)) ((83 + (7 * (s 82))) + 1) (n)) ((83 + (7 * (s 82))) + 2) (cl)) ((83 + (7 * (s 82))) + 3) (ln)) ((83 + (7 * (s 82))) + 4) ((va_up (va_up (va_up (va_up (va_up s (82) ((s 82) + 1)) ((83 + (7 * (s 82))) + 0) (k)) ((83 + (7 * (s 82))) + 1) (n)) ((83 + (7 * (s 82))) + 2) (cl)) ((83 + (7 * (s 82))) + 3) (ln)) 81))) (k := (83 + (7 * (s 82))) + 5) (v := 0) (show decode (am_by 107) 205 = .ok (.iastore, 1) by decide +kernel) (am_ss (am_ss (am_ss (am_ss (am_ss (am_ss hS2)))))) (by omega) (by omega) (by omega) ?_
  refine am_Rq.blk (is := [(.aload_n 0, 1)]) (q := (207, [some (.ref 238), some (.int (nI k)), some (.int (nI n)), some (.int (nI cl)), some (.int (nI ln)), some (.int (nI 1)), some (.int (nI (83 + (7 * (s 82)))))], [.ref 238])) (by decide +kernel) rfl ?_
  dsimp only
  refine am_Rq.getf (v := .ref 239) (show decode (am_by 107) 207 = .ok (.getfield 7, 3) by decide +kernel) rfl ((am_sn (by decide)).trans ((am_sn (by decide)).trans ((am_sn (by decide)).trans ((am_sn (by decide)).trans ((am_sn (by decide)).trans ((am_sn (by decide)).trans ((am_sn (by decide)).trans hM2))))))) rfl ?_
  refine am_Rq.blk (is := [(.iload 6, 2), (.bipush 6, 2), (.iadd, 1)]) (q := (215, [some (.ref 238), some (.int (nI k)), some (.int (nI n)), some (.int (nI cl)), some (.int (nI ln)), some (.int (nI 1)), some (.int (nI (83 + (7 * (s 82)))))], [.int ((nI (83 + (7 * (s 82)))) + (nI 6)), .ref 239])) (by decide +kernel) rfl ?_
  dsimp only
  rw [show (nI (83 + (7 * (s 82)))) + (nI 6) = nI ((83 + (7 * (s 82))) + 6) from nI_add _ _]
  refine am_Rq.blk (is := [(.iconst 0, 1)]) (q := (216, [some (.ref 238), some (.int (nI k)), some (.int (nI n)), some (.int (nI cl)), some (.int (nI ln)), some (.int (nI 1)), some (.int (nI (83 + (7 * (s 82)))))], [.int (nI 0), .int (nI ((83 + (7 * (s 82))) + 6)), .ref 239])) (by decide +kernel) rfl ?_
  dsimp only
  refine am_Rq.nas (s := (va_up (va_up (va_up (va_up (va_up (va_up (va_up s (82) ((s 82) + 1)) ((83 + (7 * (s 82))) + 0) (k)) ((83 + (7 * (s 82))) + 1) (n)) ((83 + (7 * (s 82))) + 2) (cl)) ((83 + (7 * (s 82))) + 3) (ln)) ((83 + (7 * (s 82))) + 4) ((va_up (va_up (va_up (va_up (va_up s (82) ((s 82) + 1)) ((83 + (7 * (s 82))) + 0) (k)) ((83 + (7 * (s 82))) + 1) (n)) ((83 + (7 * (s 82))) + 2) (cl)) ((83 + (7 * (s 82))) + 3) (ln)) 81)) ((83 + (7 * (s 82))) + 5) (0))) (k := (83 + (7 * (s 82))) + 6) (v := 0) (show decode (am_by 107) 216 = .ok (.iastore, 1) by decide +kernel) (am_ss (am_ss (am_ss (am_ss (am_ss (am_ss (am_ss hS2))))))) (by omega) (by omega) (by omega) ?_
  refine am_Rq.blk (is := [(.aload_n 0, 1)]) (q := (218, [some (.ref 238), some (.int (nI k)), some (.int (nI n)), some (.int (nI cl)), some (.int (nI ln)), some (.int (nI 1)), some (.int (nI (83 + (7 * (s 82)))))], [.ref 238])) (by decide +kernel) rfl ?_
  dsimp only
  refine am_Rq.getf (v := .ref 239) (show decode (am_by 107) 218 = .ok (.getfield 7, 3) by decide +kernel) rfl ((am_sn (by decide)).trans ((am_sn (by decide)).trans ((am_sn (by decide)).trans ((am_sn (by decide)).trans ((am_sn (by decide)).trans ((am_sn (by decide)).trans ((am_sn (by decide)).trans ((am_sn (by decide)).trans hM2)))))))) rfl ?_
  refine am_Rq.blk (is := [(.bipush 82, 2)]) (q := (223, [some (.ref 238), some (.int (nI k)), some (.int (nI n)), some (.int (nI cl)), some (.int (nI ln)), some (.int (nI 1)), some (.int (nI (83 + (7 * (s 82)))))], [.int (nI 82), .ref 239])) (by decide +kernel) rfl ?_
  dsimp only
  refine am_Rq.ial (k := 82) (show decode (am_by 107) 223 = .ok (.iaload, 1) by decide +kernel) (am_ss (am_ss (am_ss (am_ss (am_ss (am_ss (am_ss (am_ss hS2)))))))) (by omega) (by omega) ?_
  refine am_Rq.blk (is := [(.iconst 1, 1), (.isub, 1)]) (q := (226, [some (.ref 238), some (.int (nI k)), some (.int (nI n)), some (.int (nI cl)), some (.int (nI ln)), some (.int (nI 1)), some (.int (nI (83 + (7 * (s 82)))))], [.int ((nI ((va_up (va_up (va_up (va_up (va_up (va_up (va_up (va_up s (82) ((s 82) + 1)) ((83 + (7 * (s 82))) + 0) (k)) ((83 + (7 * (s 82))) + 1) (n)) ((83 + (7 * (s 82))) + 2) (cl)) ((83 + (7 * (s 82))) + 3) (ln)) ((83 + (7 * (s 82))) + 4) ((va_up (va_up (va_up (va_up (va_up s (82) ((s 82) + 1)) ((83 + (7 * (s 82))) + 0) (k)) ((83 + (7 * (s 82))) + 1) (n)) ((83 + (7 * (s 82))) + 2) (cl)) ((83 + (7 * (s 82))) + 3) (ln)) 81)) ((83 + (7 * (s 82))) + 5) (0)) ((83 + (7 * (s 82))) + 6) (0)) 82)) - (nI 1))])) (by decide +kernel) rfl ?_
  dsimp only
  refine am_Rq.ret (v := some (.int ((nI ((va_up (va_up (va_up (va_up (va_up (va_up (va_up (va_up s (82) ((s 82) + 1)) ((83 + (7 * (s 82))) + 0) (k)) ((83 + (7 * (s 82))) + 1) (n)) ((83 + (7 * (s 82))) + 2) (cl)) ((83 + (7 * (s 82))) + 3) (ln)) ((83 + (7 * (s 82))) + 4) ((va_up (va_up (va_up (va_up (va_up s (82) ((s 82) + 1)) ((83 + (7 * (s 82))) + 0) (k)) ((83 + (7 * (s 82))) + 1) (n)) ((83 + (7 * (s 82))) + 2) (cl)) ((83 + (7 * (s 82))) + 3) (ln)) 81)) ((83 + (7 * (s 82))) + 5) (0)) ((83 + (7 * (s 82))) + 6) (0)) 82)) - (nI 1)))) (show decode (am_by 107) 226 = .ok (.ireturn, 1) by decide +kernel) rfl rfl ?_
  refine ⟨_, rfl, ?_, ((am_sn (by decide)).trans ((am_sn (by decide)).trans ((am_sn (by decide)).trans ((am_sn (by decide)).trans ((am_sn (by decide)).trans ((am_sn (by decide)).trans ((am_sn (by decide)).trans ((am_sn (by decide)).trans hM2)))))))), (am_ss (am_ss (am_ss (am_ss (am_ss (am_ss (am_ss (am_ss hS2)))))))), ⟨f1, ((am_sn (by decide)).trans ((am_sn (by decide)).trans ((am_sn (by decide)).trans ((am_sn (by decide)).trans ((am_sn (by decide)).trans ((am_sn (by decide)).trans ((am_sn (by decide)).trans ((am_sn (by decide)).trans hF2)))))))), hF3, hF4⟩, ((((((((hfr.set ⟨by decide, by decide⟩ hS2 (by simp [am_ia_len])).set ⟨by decide, by decide⟩ (am_ss hS2) (by simp [am_ia_len])).set ⟨by decide, by decide⟩ (am_ss (am_ss hS2)) (by simp [am_ia_len])).set ⟨by decide, by decide⟩ (am_ss (am_ss (am_ss hS2))) (by simp [am_ia_len])).set ⟨by decide, by decide⟩ (am_ss (am_ss (am_ss (am_ss hS2)))) (by simp [am_ia_len])).set ⟨by decide, by decide⟩ (am_ss (am_ss (am_ss (am_ss (am_ss hS2))))) (by simp [am_ia_len])).set ⟨by decide, by decide⟩ (am_ss (am_ss (am_ss (am_ss (am_ss (am_ss hS2)))))) (by simp [am_ia_len])).set ⟨by decide, by decide⟩ (am_ss (am_ss (am_ss (am_ss (am_ss (am_ss (am_ss hS2))))))) (by simp [am_ia_len]))⟩
  repeat rw [va_up_ne _ _ (by omega)]
  rw [va_up_self, nm_isub (by omega), Nat.add_sub_cancel]
theorem m_exercise {th kn co : Nat} (hM : hp[238]? = some (7, [.int (nI th), .ref 239, .ref 240, .int (nI kn), .ref 241, .ref 242, .ref 243, .ref 244, .long (lN co), .ref 245])) {s : Nat → Nat} (hS : hp[239]? = some (100, am_ia (fun i => nI (s i)) 160)) {f : Nat → Int32} (hF : hp[240]? = some (100, am_ia f 1280)) (hkn : kn ≤ 8) {g n : Nat} (hg : g < s 82) (h82 : s 82 ≤ 10) (h1 : 1 ≤ n) (hm : s 81 < 2 ^ 31) (hf : s (83 + 7 * g + 4) ≤ s 81) (hSh : s (83 + 7 * g + 1) ≤ 2000) (hN : s (83 + 7 * g + 3) ≤ 60) (hC : s (83 + 7 * g + 2) ≤ 60) (hE : s (83 + 7 * g + 5) ≤ 1) (hX : s (83 + 7 * g + 6) ≤ 2000) (hH : s (83 + 7 * g + 0) ≤ 7) (hi : m_iss s 0 ≤ 20000) (ho : s (83 + 7 * g + 6) + n ≤ c_vg s g) (h20 : m_iss s 0 + n ≤ 20000) : am_Rq (d + 2) 111 0 (am_en [.ref 238, .int (nI g), .int (nI n)] 5) [] hp (am_Ret fun hp1 v => v = some (.int (nI (c_vg s g - s (83 + 7 * g + 6) - n))) ∧ m_Chg hp f kn co s (va_up (va_up s (83 + 7 * g + 6) (s (83 + 7 * g + 6) + n)) (40 + s (83 + 7 * g + 0)) (s (40 + s (83 + 7 * g + 0)) + n)) hp1) := by
  show am_Rq _ 111 0 [some (.ref 238), some (.int (nI g)), some (.int (nI n)), none, none] [] _ _
  have hv : c_vg s g ≤ 2000 := Nat.le_trans (g_v_le _ _ _ _ _) hSh
  refine am_Rq.blk (is := [(.aload_n 0, 1), (.iload_n 1, 1)]) (q := (2, [some (.ref 238), some (.int (nI g)), some (.int (nI n)), none, none], [.int (nI g), .ref 238])) (by decide +kernel) rfl ?_
  dsimp only
  refine am_Rq.callV (show decode (am_by 111) 2 = .ok (.invokevirtual 87, 3) by decide +kernel) rfl [.int (nI g)] [] rfl rfl (Nat.le_of_ble_eq_true rfl) rfl hM rfl (m_isGrant hM hS (nI g)) ?_
  rintro hq _ ⟨e1, rfl⟩
  rw [e1]
  clear e1 hq
  show am_Rq _ 111 5 [some (.ref 238), some (.int (nI g)), some (.int (nI n)), none, none] [.int (nI (am_b (rg_r (nI 0) (nI (s 82) - nI 1) (nI g))))] _ _
  refine am_Rq.blk (is := [(.istore_n 3, 1), (.iload_n 3, 1)]) (q := (7, [some (.ref 238), some (.int (nI g)), some (.int (nI n)), some (.int (nI (am_b (rg_r (nI 0) (nI (s 82) - nI 1) (nI g))))), none], [.int (nI (am_b (rg_r (nI 0) (nI (s 82) - nI 1) (nI g))))])) (by decide +kernel) rfl ?_
  dsimp only
  refine am_Rq.if1F (show decode (am_by 111) 7 = .ok (.ifCond .eq 42, 3) by decide +kernel) (by decide) (by rw [am_b_eq, rg_lt hg (by omega)]; rfl) ?_
  refine am_Rq.blk (is := [(.iload_n 2, 1), (.iconst 1, 1)]) (q := (12, [some (.ref 238), some (.int (nI g)), some (.int (nI n)), some (.int (nI (am_b (rg_r (nI 0) (nI (s 82) - nI 1) (nI g))))), none], [.int (nI 1), .int (nI n)])) (by decide +kernel) rfl ?_
  dsimp only
  refine am_Rq.if2F (show decode (am_by 111) 12 = .ok (.if_icmp .lt 37, 3) by decide +kernel) (by decide) (by rw [nm_lt (by omega) (by omega)]; exact decide_eq_false (by omega)) ?_
  refine am_Rq.blk (is := [(.aload_n 0, 1), (.iload_n 1, 1)]) (q := (17, [some (.ref 238), some (.int (nI g)), some (.int (nI n)), some (.int (nI (am_b (rg_r (nI 0) (nI (s 82) - nI 1) (nI g))))), none], [.int (nI g), .ref 238])) (by decide +kernel) rfl ?_
  dsimp only
  refine am_Rq.callV (show decode (am_by 111) 17 = .ok (.invokevirtual 84, 3) by decide +kernel) rfl [.int (nI g)] [] rfl rfl (Nat.le_of_ble_eq_true rfl) rfl hM rfl (m_vestedOf hM hS (by omega) hm hf hSh hN hC hE) ?_
  rintro hq _ ⟨e1, rfl⟩
  rw [e1]
  clear e1 hq
  show am_Rq _ 111 20 [some (.ref 238), some (.int (nI g)), some (.int (nI n)), some (.int (nI (am_b (rg_r (nI 0) (nI (s 82) - nI 1) (nI g))))), none] [.int (nI (c_vg s g))] _ _
  refine am_Rq.blk (is := [(.aload_n 0, 1), (.iload_n 1, 1), (.bipush 6, 2)]) (q := (24, [some (.ref 238), some (.int (nI g)), some (.int (nI n)), some (.int (nI (am_b (rg_r (nI 0) (nI (s 82) - nI 1) (nI g))))), none], [.int (nI 6), .int (nI g), .ref 238, .int (nI (c_vg s g))])) (by decide +kernel) rfl ?_
  dsimp only
  refine am_Rq.callV (show decode (am_by 111) 24 = .ok (.invokevirtual 77, 3) by decide +kernel) rfl [.int (nI g), .int (nI 6)] [.int (nI (c_vg s g))] rfl rfl (Nat.le_of_ble_eq_true rfl) rfl hM rfl (m_grantOf hM hS (by omega) (by omega)) ?_
  rintro hq _ ⟨e1, rfl⟩
  rw [e1]
  clear e1 hq
  show am_Rq _ 111 27 [some (.ref 238), some (.int (nI g)), some (.int (nI n)), some (.int (nI (am_b (rg_r (nI 0) (nI (s 82) - nI 1) (nI g))))), none] [.int (nI (s (83 + 7 * g + 6))), .int (nI (c_vg s g))] _ _
  refine am_Rq.blk (is := [(.isub, 1)]) (q := (28, [some (.ref 238), some (.int (nI g)), some (.int (nI n)), some (.int (nI (am_b (rg_r (nI 0) (nI (s 82) - nI 1) (nI g))))), none], [.int ((nI (c_vg s g)) - (nI (s (83 + 7 * g + 6))))])) (by decide +kernel) rfl ?_
  dsimp only
  rw [show (nI (c_vg s g)) - (nI (s (83 + 7 * g + 6))) = nI ((c_vg s g) - (s (83 + 7 * g + 6))) from nm_isub (by omega)]
  refine am_Rq.blk (is := [(.iload_n 2, 1)]) (q := (29, [some (.ref 238), some (.int (nI g)), some (.int (nI n)), some (.int (nI (am_b (rg_r (nI 0) (nI (s 82) - nI 1) (nI g))))), none], [.int (nI n), .int (nI ((c_vg s g) - (s (83 + 7 * g + 6))))])) (by decide +kernel) rfl ?_
  dsimp only
  refine am_Rq.if2F (show decode (am_by 111) 29 = .ok (.if_icmp .lt 20, 3) by decide +kernel) (by decide) (by rw [nm_lt (by omega) (by omega)]; exact decide_eq_false (by omega)) ?_
  refine am_Rq.blk (is := [(.aload_n 0, 1), (.iconst 0, 1)]) (q := (34, [some (.ref 238), some (.int (nI g)), some (.int (nI n)), some (.int (nI (am_b (rg_r (nI 0) (nI (s 82) - nI 1) (nI g))))), none], [.int (nI 0), .ref 238])) (by decide +kernel) rfl ?_
  dsimp only
  refine am_Rq.callV (show decode (am_by 111) 34 = .ok (.invokevirtual 49, 3) by decide +kernel) rfl [.int (nI 0)] [] rfl rfl (Nat.le_of_ble_eq_true rfl) rfl hM rfl (m_issued hM hS (c := 0) (by omega)) ?_
  rintro hq _ ⟨e1, rfl⟩
  rw [e1]
  clear e1 hq
  show am_Rq _ 111 37 [some (.ref 238), some (.int (nI g)), some (.int (nI n)), some (.int (nI (am_b (rg_r (nI 0) (nI (s 82) - nI 1) (nI g))))), none] [.int (nI (m_iss s 0))] _ _
  refine am_Rq.blk (is := [(.iload_n 2, 1), (.iadd, 1)]) (q := (39, [some (.ref 238), some (.int (nI g)), some (.int (nI n)), some (.int (nI (am_b (rg_r (nI 0) (nI (s 82) - nI 1) (nI g))))), none], [.int ((nI (m_iss s 0)) + (nI n))])) (by decide +kernel) rfl ?_
  dsimp only
  rw [show (nI (m_iss s 0)) + (nI n) = nI ((m_iss s 0) + n) from nI_add _ _]
  refine am_Rq.blk (is := [(.sipush 20000, 3)]) (q := (42, [some (.ref 238), some (.int (nI g)), some (.int (nI n)), some (.int (nI (am_b (rg_r (nI 0) (nI (s 82) - nI 1) (nI g))))), none], [.int (nI 20000), .int (nI ((m_iss s 0) + n))])) (by decide +kernel) rfl ?_
  dsimp only
  refine am_Rq.if2F (show decode (am_by 111) 42 = .ok (.if_icmp .gt 7, 3) by decide +kernel) (by decide) (by rw [nm_gt (by omega) (by omega)]; exact decide_eq_false (by omega)) ?_
  refine am_Rq.blk (is := [(.iconst 1, 1), (.goto 4, 3)]) (q := (50, [some (.ref 238), some (.int (nI g)), some (.int (nI n)), some (.int (nI (am_b (rg_r (nI 0) (nI (s 82) - nI 1) (nI g))))), none], [.int (nI 1)])) (by decide +kernel) rfl ?_
  dsimp only
  refine am_Rq.blk (is := [(.istore 4, 2), (.aload_n 0, 1), (.iload_n 3, 1)]) (q := (54, [some (.ref 238), some (.int (nI g)), some (.int (nI n)), some (.int (nI (am_b (rg_r (nI 0) (nI (s 82) - nI 1) (nI g))))), some (.int (nI 1))], [.int (nI (am_b (rg_r (nI 0) (nI (s 82) - nI 1) (nI g)))), .ref 238])) (by decide +kernel) rfl ?_
  dsimp only
  refine am_Rq.if1T (t := 61) (show decode (am_by 111) 54 = .ok (.ifCond .ne 7, 3) by decide +kernel) (by decide) (by rw [am_b_ne, rg_lt hg (by omega)]) ?_
  refine am_Rq.blk (is := [(.iconst 0, 1), (.iload_n 2, 1), (.iconst 1, 1)]) (q := (64, [some (.ref 238), some (.int (nI g)), some (.int (nI n)), some (.int (nI (am_b (rg_r (nI 0) (nI (s 82) - nI 1) (nI g))))), some (.int (nI 1))], [.int (nI 1), .int (nI n), .int (nI 0), .ref 238])) (by decide +kernel) rfl ?_
  dsimp only
  refine am_Rq.if2T (t := 71) (show decode (am_by 111) 64 = .ok (.if_icmp .ge 7, 3) by decide +kernel) (by decide) (by rw [nm_ge (by omega) (by omega)]; exact decide_eq_true (by omega)) ?_
  refine am_Rq.blk (is := [(.iconst 0, 1), (.iload 4, 2)]) (q := (74, [some (.ref 238), some (.int (nI g)), some (.int (nI n)), some (.int (nI (am_b (rg_r (nI 0) (nI (s 82) - nI 1) (nI g))))), some (.int (nI 1))], [.int (nI 1), .int (nI 0), .int (nI 0), .ref 238])) (by decide +kernel) rfl ?_
  dsimp only
  refine am_Rq.if1T (t := 81) (show decode (am_by 111) 74 = .ok (.ifCond .ne 7, 3) by decide +kernel) (by decide) (rfl) ?_
  refine am_Rq.blk (is := [(.iconst 0, 1)]) (q := (82, [some (.ref 238), some (.int (nI g)), some (.int (nI n)), some (.int (nI (am_b (rg_r (nI 0) (nI (s 82) - nI 1) (nI g))))), some (.int (nI 1))], [.int (nI 0), .int (nI 0), .int (nI 0), .ref 238])) (by decide +kernel) rfl ?_
  dsimp only
  refine am_Rq.callV (show decode (am_by 111) 82 = .ok (.invokevirtual 57, 3) by decide +kernel) rfl [.int (nI (am_b false)), .int (nI (am_b false)), .int (nI (am_b false))] [] rfl rfl (Nat.le_of_ble_eq_true rfl) rfl hM rfl (m_refused hM false false false) ?_
  rintro _ _ ⟨rfl, rfl⟩
  have hM1 := am_ss (c' := (7, m_ob 0 kn co)) hM
  have hS1 := (am_sn (c' := (7, m_ob 0 kn co)) (show 238 ≠ 239 by decide)).trans hS
  show am_Rq _ 111 85 [some (.ref 238), some (.int (nI g)), some (.int (nI n)), some (.int (nI (am_b (rg_r (nI 0) (nI (s 82) - nI 1) (nI g))))), some (.int (nI 1))] [.int (nI (am_b false))] _ _
  refine am_Rq.if1T (t := 90) (show decode (am_by 111) 85 = .ok (.ifCond .eq 5, 3) by decide +kernel) (by decide) (rfl) ?_
  refine am_Rq.blk (is := [(.aload_n 0, 1)]) (q := (91, [some (.ref 238), some (.int (nI g)), some (.int (nI n)), some (.int (nI (am_b (rg_r (nI 0) (nI (s 82) - nI 1) (nI g))))), some (.int (nI 1))], [.ref 238])) (by decide +kernel) rfl ?_
  dsimp only
  have hF1 := (am_sn (c' := (7, m_ob 0 kn co)) (show 238 ≠ 240 by decide)).trans hF
  refine am_Rq.callV (show decode (am_by 111) 91 = .ok (.invokevirtual 61, 3) by decide +kernel) rfl [] [] rfl rfl (Nat.le_of_ble_eq_true rfl) rfl hM1 rfl (m_remember hM1 hS1 hF1 hkn) ?_
  rintro hp2 _ ⟨rfl, hM2, ⟨f1, hF2, hF3, hF4⟩, hf2⟩
  have hS2 := (hf2.2.2 239 (fun q => by omega)).trans hS1
  have hfr : am_fr (fun x => 238 ≤ x ∧ x < 241) hp hp2 := ((am_fr.rf (A := fun x => 238 ≤ x ∧ x < 241)).set (c' := (7, m_ob 0 kn co)) ⟨by decide, by decide⟩ hM rfl).trans (hf2.mono (A' := fun x => 238 ≤ x ∧ x < 241) (fun x q => by rcases q with q | q <;> subst q <;> exact ⟨by decide, by decide⟩))
  show am_Rq _ 111 94 [some (.ref 238), some (.int (nI g)), some (.int (nI n)), some (.int (nI (am_b (rg_r (nI 0) (nI (s 82) - nI 1) (nI g))))), some (.int (nI 1))] [] _ _
  refine am_Rq.blk (is := [(.aload_n 0, 1)]) (q := (95, [some (.ref 238), some (.int (nI g)), some (.int (nI n)), some (.int (nI (am_b (rg_r (nI 0) (nI (s 82) - nI 1) (nI g))))), some (.int (nI 1))], [.ref 238])) (by decide +kernel) rfl ?_
  dsimp only
  refine am_Rq.getf (v := .ref 239) (show decode (am_by 111) 95 = .ok (.getfield 7, 3) by decide +kernel) rfl hM2 rfl ?_
  refine am_Rq.blk (is := [(.bipush 83, 2), (.bipush 7, 2), (.iload_n 1, 1), (.imul, 1)]) (q := (104, [some (.ref 238), some (.int (nI g)), some (.int (nI n)), some (.int (nI (am_b (rg_r (nI 0) (nI (s 82) - nI 1) (nI g))))), some (.int (nI 1))], [.int ((nI 7) * (nI g)), .int (nI 83), .ref 239])) (by decide +kernel) rfl ?_
  dsimp only
  rw [show (nI 7) * (nI g) = nI (7 * g) from nm_imul _ _]
  refine am_Rq.blk (is := [(.iadd, 1)]) (q := (105, [some (.ref 238), some (.int (nI g)), some (.int (nI n)), some (.int (nI (am_b (rg_r (nI 0) (nI (s 82) - nI 1) (nI g))))), some (.int (nI 1))], [.int ((nI 83) + (nI (7 * g))), .ref 239])) (by decide +kernel) rfl ?_
  dsimp only
  rw [show (nI 83) + (nI (7 * g)) = nI (83 + (7 * g)) from nI_add _ _]
  refine am_Rq.blk (is := [(.bipush 6, 2), (.iadd, 1)]) (q := (108, [some (.ref 238), some (.int (nI g)), some (.int (nI n)), some (.int (nI (am_b (rg_r (nI 0) (nI (s 82) - nI 1) (nI g))))), some (.int (nI 1))], [.int ((nI (83 + (7 * g))) + (nI 6)), .ref 239])) (by decide +kernel) rfl ?_
  dsimp only
  rw [show (nI (83 + (7 * g))) + (nI 6) = nI ((83 + (7 * g)) + 6) from nI_add _ _]
  refine am_Rq.blk (is := [(.dup2, 1)]) (q := (109, [some (.ref 238), some (.int (nI g)), some (.int (nI n)), some (.int (nI (am_b (rg_r (nI 0) (nI (s 82) - nI 1) (nI g))))), some (.int (nI 1))], [.int (nI ((83 + (7 * g)) + 6)), .ref 239, .int (nI ((83 + (7 * g)) + 6)), .ref 239])) (by decide +kernel) rfl ?_
  dsimp only
  refine am_Rq.ial (k := (83 + (7 * g)) + 6) (show decode (am_by 111) 109 = .ok (.iaload, 1) by decide +kernel) hS2 (by omega) (by omega) ?_
  refine am_Rq.blk (is := [(.iload_n 2, 1), (.iadd, 1)]) (q := (112, [some (.ref 238), some (.int (nI g)), some (.int (nI n)), some (.int (nI (am_b (rg_r (nI 0) (nI (s 82) - nI 1) (nI g))))), some (.int (nI 1))], [.int ((nI (s ((83 + (7 * g)) + 6))) + (nI n)), .int (nI ((83 + (7 * g)) + 6)), .ref 239])) (by decide +kernel) rfl ?_
  dsimp only
  rw [show (nI (s ((83 + (7 * g)) + 6))) + (nI n) = nI ((s ((83 + (7 * g)) + 6)) + n) from nI_add _ _]
  refine am_Rq.nas (s := s) (k := (83 + (7 * g)) + 6) (v := (s ((83 + (7 * g)) + 6)) + n) (show decode (am_by 111) 112 = .ok (.iastore, 1) by decide +kernel) hS2 (by omega) (by omega) (by omega) ?_
  have hc1_238 := (am_sn (c' := (100, (am_ia (fun j9 => nI ((va_up s ((83 + (7 * g)) + 6) ((s ((83 + (7 * g)) + 6)) + n)) j9)) 160))) (show 239 ≠ 238 by omega)).trans hM2
  have hc1_239 := am_ss (c' := (100, (am_ia (fun j9 => nI ((va_up s ((83 + (7 * g)) + 6) ((s ((83 + (7 * g)) + 6)) + n)) j9)) 160))) hS2
  have hc1_240 := (am_sn (c' := (100, (am_ia (fun j9 => nI ((va_up s ((83 + (7 * g)) + 6) ((s ((83 + (7 * g)) + 6)) + n)) j9)) 160))) (show 239 ≠ 240 by omega)).trans hF2
  have hf1 := (am_fr.rf (A := fun q => q = 239)).set (c' := (100, (am_ia (fun j9 => nI ((va_up s ((83 + (7 * g)) + 6) ((s ((83 + (7 * g)) + 6)) + n)) j9)) 160))) rfl hS2 (by simp [am_ia_len, am_la_len])
  generalize hze1 : (List.set _ 239 _ : am_H) = hz1 at hf1 hc1_238 hc1_239 hc1_240 ⊢
  clear hze1
  refine am_Rq.blk (is := [(.aload_n 0, 1)]) (q := (114, [some (.ref 238), some (.int (nI g)), some (.int (nI n)), some (.int (nI (am_b (rg_r (nI 0) (nI (s 82) - nI 1) (nI g))))), some (.int (nI 1))], [.ref 238])) (by decide +kernel) rfl ?_
  dsimp only
  refine am_Rq.getf (v := .ref 239) (show decode (am_by 111) 114 = .ok (.getfield 7, 3) by decide +kernel) rfl hc1_238 rfl ?_
  refine am_Rq.blk (is := [(.bipush 40, 2), (.aload_n 0, 1), (.iload_n 1, 1), (.iconst 0, 1)]) (q := (122, [some (.ref 238), some (.int (nI g)), some (.int (nI n)), some (.int (nI (am_b (rg_r (nI 0) (nI (s 82) - nI 1) (nI g))))), some (.int (nI 1))], [.int (nI 0), .int (nI g), .ref 238, .int (nI 40), .ref 239])) (by decide +kernel) rfl ?_
  dsimp only
  refine am_Rq.callV (show decode (am_by 111) 122 = .ok (.invokevirtual 77, 3) by decide +kernel) rfl [.int (nI g), .int (nI 0)] [.int (nI 40), .ref 239] rfl rfl (Nat.le_of_ble_eq_true rfl) rfl hc1_238 rfl (m_grantOf (s := va_up s (83 + 7 * g + 6) (s (83 + 7 * g + 6) + n)) hc1_238 hc1_239 (show g < 10 by omega) (show 0 < 7 by omega)) ?_
  rintro hq _ ⟨e1, rfl⟩
  rw [e1]
  clear e1 hq
  rw [va_up_ne _ _ (show 83 + 7 * g + 0 ≠ 83 + 7 * g + 6 by omega)]
  show am_Rq _ 111 125 [some (.ref 238), some (.int (nI g)), some (.int (nI n)), some (.int (nI (am_b (rg_r (nI 0) (nI (s 82) - nI 1) (nI g))))), some (.int (nI 1))] [.int (nI (s (83 + 7 * g + 0))), .int (nI 40), .ref 239] _ _
  refine am_Rq.blk (is := [(.iadd, 1)]) (q := (126, [some (.ref 238), some (.int (nI g)), some (.int (nI n)), some (.int (nI (am_b (rg_r (nI 0) (nI (s 82) - nI 1) (nI g))))), some (.int (nI 1))], [.int ((nI 40) + (nI (s (83 + 7 * g + 0)))), .ref 239])) (by decide +kernel) rfl ?_
  dsimp only
  rw [show (nI 40) + (nI (s (83 + 7 * g + 0))) = nI (40 + (s (83 + 7 * g + 0))) from nI_add _ _]
  refine am_Rq.blk (is := [(.dup2, 1)]) (q := (127, [some (.ref 238), some (.int (nI g)), some (.int (nI n)), some (.int (nI (am_b (rg_r (nI 0) (nI (s 82) - nI 1) (nI g))))), some (.int (nI 1))], [.int (nI (40 + (s (83 + 7 * g + 0)))), .ref 239, .int (nI (40 + (s (83 + 7 * g + 0)))), .ref 239])) (by decide +kernel) rfl ?_
  dsimp only
  refine am_Rq.ial (k := 40 + (s (83 + 7 * g + 0))) (show decode (am_by 111) 127 = .ok (.iaload, 1) by decide +kernel) hc1_239 (by omega) (by omega) ?_
  rw [va_up_ne _ _ (show 40 + s (83 + 7 * g + 0) ≠ 83 + 7 * g + 6 by omega)]
  refine am_Rq.blk (is := [(.iload_n 2, 1), (.iadd, 1)]) (q := (130, [some (.ref 238), some (.int (nI g)), some (.int (nI n)), some (.int (nI (am_b (rg_r (nI 0) (nI (s 82) - nI 1) (nI g))))), some (.int (nI 1))], [.int ((nI (s (40 + s (83 + 7 * g + 0)))) + (nI n)), .int (nI (40 + (s (83 + 7 * g + 0)))), .ref 239])) (by decide +kernel) rfl ?_
  dsimp only
  rw [show (nI (s (40 + s (83 + 7 * g + 0)))) + (nI n) = nI ((s (40 + s (83 + 7 * g + 0))) + n) from nI_add _ _]
  refine am_Rq.nas (s := (va_up s ((83 + (7 * g)) + 6) ((s ((83 + (7 * g)) + 6)) + n))) (k := 40 + (s (83 + 7 * g + 0))) (v := (s (40 + s (83 + 7 * g + 0))) + n) (show decode (am_by 111) 130 = .ok (.iastore, 1) by decide +kernel) hc1_239 (by omega) (by omega) (by omega) ?_
  have hc2_238 := (am_sn (c' := (100, (am_ia (fun j9 => nI ((va_up (va_up s ((83 + (7 * g)) + 6) ((s ((83 + (7 * g)) + 6)) + n)) (40 + (s (83 + 7 * g + 0))) ((s (40 + s (83 + 7 * g + 0))) + n)) j9)) 160))) (show 239 ≠ 238 by omega)).trans hc1_238
  have hc2_239 := am_ss (c' := (100, (am_ia (fun j9 => nI ((va_up (va_up s ((83 + (7 * g)) + 6) ((s ((83 + (7 * g)) + 6)) + n)) (40 + (s (83 + 7 * g + 0))) ((s (40 + s (83 + 7 * g + 0))) + n)) j9)) 160))) hc1_239
  have hc2_240 := (am_sn (c' := (100, (am_ia (fun j9 => nI ((va_up (va_up s ((83 + (7 * g)) + 6) ((s ((83 + (7 * g)) + 6)) + n)) (40 + (s (83 + 7 * g + 0))) ((s (40 + s (83 + 7 * g + 0))) + n)) j9)) 160))) (show 239 ≠ 240 by omega)).trans hc1_240
  have hf2 := (am_fr.rf (A := fun q => q = 239)).set (c' := (100, (am_ia (fun j9 => nI ((va_up (va_up s ((83 + (7 * g)) + 6) ((s ((83 + (7 * g)) + 6)) + n)) (40 + (s (83 + 7 * g + 0))) ((s (40 + s (83 + 7 * g + 0))) + n)) j9)) 160))) rfl hc1_239 (by simp [am_ia_len, am_la_len])
  generalize hze2 : (List.set _ 239 _ : am_H) = hz2 at hf2 hc2_238 hc2_239 hc2_240 ⊢
  clear hze2
  refine am_Rq.blk (is := [(.aload_n 0, 1), (.iload_n 1, 1)]) (q := (133, [some (.ref 238), some (.int (nI g)), some (.int (nI n)), some (.int (nI (am_b (rg_r (nI 0) (nI (s 82) - nI 1) (nI g))))), some (.int (nI 1))], [.int (nI g), .ref 238])) (by decide +kernel) rfl ?_
  dsimp only
  have er : ∀ m, m < 6 → (va_up (va_up s (83 + 7 * g + 6) (s (83 + 7 * g + 6) + n)) (40 + s (83 + 7 * g + 0)) (s (40 + s (83 + 7 * g + 0)) + n)) (83 + 7 * g + m) = s (83 + 7 * g + m) := fun m hm => by
    rw [va_up_ne _ _ (by omega), va_up_ne _ _ (by omega)]
  have e81 : (va_up (va_up s (83 + 7 * g + 6) (s (83 + 7 * g + 6) + n)) (40 + s (83 + 7 * g + 0)) (s (40 + s (83 + 7 * g + 0)) + n)) 81 = s 81 := by rw [va_up_ne _ _ (by omega), va_up_ne _ _ (by omega)]
  have e6 : (va_up (va_up s (83 + 7 * g + 6) (s (83 + 7 * g + 6) + n)) (40 + s (83 + 7 * g + 0)) (s (40 + s (83 + 7 * g + 0)) + n)) (83 + 7 * g + 6) = s (83 + 7 * g + 6) + n := by rw [va_up_ne _ _ (by omega), va_up_self]
  have ev : c_vg (va_up (va_up s (83 + 7 * g + 6) (s (83 + 7 * g + 6) + n)) (40 + s (83 + 7 * g + 0)) (s (40 + s (83 + 7 * g + 0)) + n)) g = c_vg s g := by
    unfold c_vg
    rw [er 1 (by omega), er 2 (by omega), er 3 (by omega), er 5 (by omega), er 4 (by omega), e81]
  refine am_Rq.callV (show decode (am_by 111) 133 = .ok (.invokevirtual 84, 3) by decide +kernel) rfl [.int (nI g)] [] rfl rfl (Nat.le_of_ble_eq_true rfl) rfl hc2_238 rfl (m_vestedOf (s := va_up (va_up s (83 + 7 * g + 6) (s (83 + 7 * g + 6) + n)) (40 + s (83 + 7 * g + 0)) (s (40 + s (83 + 7 * g + 0)) + n)) hc2_238 hc2_239 (show g < 10 by omega) (by rw [e81]; exact hm) (by rw [er 4 (by omega), e81]; exact hf) (by rw [er 1 (by omega)]; exact hSh) (by rw [er 3 (by omega)]; exact hN) (by rw [er 2 (by omega)]; exact hC) (by rw [er 5 (by omega)]; exact hE)) ?_
  rintro hq _ ⟨e1, rfl⟩
  rw [e1]
  clear e1 hq
  rw [ev]
  show am_Rq _ 111 136 [some (.ref 238), some (.int (nI g)), some (.int (nI n)), some (.int (nI (am_b (rg_r (nI 0) (nI (s 82) - nI 1) (nI g))))), some (.int (nI 1))] [.int (nI (c_vg s g))] _ _
  refine am_Rq.blk (is := [(.aload_n 0, 1), (.iload_n 1, 1), (.bipush 6, 2)]) (q := (140, [some (.ref 238), some (.int (nI g)), some (.int (nI n)), some (.int (nI (am_b (rg_r (nI 0) (nI (s 82) - nI 1) (nI g))))), some (.int (nI 1))], [.int (nI 6), .int (nI g), .ref 238, .int (nI (c_vg s g))])) (by decide +kernel) rfl ?_
  dsimp only
  refine am_Rq.callV (show decode (am_by 111) 140 = .ok (.invokevirtual 77, 3) by decide +kernel) rfl [.int (nI g), .int (nI 6)] [.int (nI (c_vg s g))] rfl rfl (Nat.le_of_ble_eq_true rfl) rfl hc2_238 rfl (m_grantOf (s := va_up (va_up s (83 + 7 * g + 6) (s (83 + 7 * g + 6) + n)) (40 + s (83 + 7 * g + 0)) (s (40 + s (83 + 7 * g + 0)) + n)) hc2_238 hc2_239 (show g < 10 by omega) (show 6 < 7 by omega)) ?_
  rintro hq _ ⟨e1, rfl⟩
  rw [e1]
  clear e1 hq
  rw [e6]
  show am_Rq _ 111 143 [some (.ref 238), some (.int (nI g)), some (.int (nI n)), some (.int (nI (am_b (rg_r (nI 0) (nI (s 82) - nI 1) (nI g))))), some (.int (nI 1))] [.int (nI (s (83 + 7 * g + 6) + n)), .int (nI (c_vg s g))] _ _
  refine am_Rq.blk (is := [(.isub, 1)]) (q := (144, [some (.ref 238), some (.int (nI g)), some (.int (nI n)), some (.int (nI (am_b (rg_r (nI 0) (nI (s 82) - nI 1) (nI g))))), some (.int (nI 1))], [.int ((nI (c_vg s g)) - (nI (s (83 + 7 * g + 6) + n)))])) (by decide +kernel) rfl ?_
  dsimp only
  rw [show (nI (c_vg s g)) - (nI (s (83 + 7 * g + 6) + n)) = nI ((c_vg s g) - (s (83 + 7 * g + 6) + n)) from nm_isub (by omega)]
  refine am_Rq.ret (v := some (.int (nI ((c_vg s g) - (s (83 + 7 * g + 6) + n))))) (show decode (am_by 111) 144 = .ok (.ireturn, 1) by decide +kernel) rfl rfl ?_
  exact ⟨_, rfl, by rw [Nat.sub_sub], hc2_238, hc2_239, ⟨f1, hc2_240, hF3, hF4⟩, ((hfr.trans (hf1.mono (A' := fun x => 238 ≤ x ∧ x < 241) (fun x q => by have q : x = _ := q; omega))).trans (hf2.mono (A' := fun x => 238 ≤ x ∧ x < 241) (fun x q => by have q : x = _ := q; omega)))⟩
theorem m_leave {th kn co : Nat} (hM : hp[238]? = some (7, [.int (nI th), .ref 239, .ref 240, .int (nI kn), .ref 241, .ref 242, .ref 243, .ref 244, .long (lN co), .ref 245])) {s : Nat → Nat} (hS : hp[239]? = some (100, am_ia (fun i => nI (s i)) 160)) {f : Nat → Int32} (hF : hp[240]? = some (100, am_ia f 1280)) (hkn : kn ≤ 8) (h82 : s 82 ≤ 10) {k : Nat} (hk : k < 8) (hm : s 81 < 2 ^ 31) (hg : ∀ g, g < s 82 → s (83 + 7 * g) ≤ 7 ∧ s (83 + 7 * g + 1) ≤ 2000 ∧ s (83 + 7 * g + 2) ≤ 60 ∧ s (83 + 7 * g + 3) ≤ 60 ∧ s (83 + 7 * g + 4) ≤ s 81 ∧ s (83 + 7 * g + 5) ≤ 1) : am_Rq (d + 2) 109 0 (am_en [.ref 238, .int (nI k)] 5) [] hp (am_Ret fun hp1 v => v = some (.int (nI (sp_sm (fun g => if s (83 + 7 * g) = k ∧ c_vg s g < s (83 + 7 * g + 1) then 1 else 0) (s 82)))) ∧ m_Chg hp f kn co s (c_eg s k (s 82)) hp1) := by
  show am_Rq _ 109 0 [some (.ref 238), some (.int (nI k)), none, none, none] [] _ _
  refine am_Rq.blk (is := [(.aload_n 0, 1), (.iload_n 1, 1)]) (q := (2, [some (.ref 238), some (.int (nI k)), none, none, none], [.int (nI k), .ref 238])) (by decide +kernel) rfl ?_
  dsimp only
  refine am_Rq.callS (show decode (am_by 109) 2 = .ok (.invokestatic 68, 3) by decide +kernel) rfl [.int (nI k)] [.ref 238] rfl rfl (Nat.le_of_ble_eq_true rfl) rfl rfl (m_isHolder (nI k)) ?_
  rintro hq _ ⟨e1, rfl⟩
  rw [e1]
  clear e1 hq
  show am_Rq _ 109 5 [some (.ref 238), some (.int (nI k)), none, none, none] [.int (nI (am_b (rg_r (nI 0) (nI 7) (nI k)))), .ref 238] _ _
  refine am_Rq.if1T (t := 12) (show decode (am_by 109) 5 = .ok (.ifCond .ne 7, 3) by decide +kernel) (by decide) (by rw [am_b_ne, rg_le (by omega) (show k ≤ 7 by omega) (by omega)]) ?_
  refine am_Rq.blk (is := [(.iconst 0, 1), (.iconst 0, 1), (.iconst 0, 1)]) (q := (15, [some (.ref 238), some (.int (nI k)), none, none, none], [.int (nI 0), .int (nI 0), .int (nI 0), .ref 238])) (by decide +kernel) rfl ?_
  dsimp only
  refine am_Rq.callV (show decode (am_by 109) 15 = .ok (.invokevirtual 57, 3) by decide +kernel) rfl [.int (nI (am_b false)), .int (nI (am_b false)), .int (nI (am_b false))] [] rfl rfl (Nat.le_of_ble_eq_true rfl) rfl hM rfl (m_refused hM false false false) ?_
  rintro _ _ ⟨rfl, rfl⟩
  have hM1 := am_ss (c' := (7, m_ob 0 kn co)) hM
  have hS1 := (am_sn (c' := (7, m_ob 0 kn co)) (show 238 ≠ 239 by decide)).trans hS
  show am_Rq _ 109 18 [some (.ref 238), some (.int (nI k)), none, none, none] [.int (nI (am_b false))] _ _
  refine am_Rq.if1T (t := 23) (show decode (am_by 109) 18 = .ok (.ifCond .eq 5, 3) by decide +kernel) (by decide) (rfl) ?_
  refine am_Rq.blk (is := [(.aload_n 0, 1)]) (q := (24, [some (.ref 238), some (.int (nI k)), none, none, none], [.ref 238])) (by decide +kernel) rfl ?_
  dsimp only
  have hF1 := (am_sn (c' := (7, m_ob 0 kn co)) (show 238 ≠ 240 by decide)).trans hF
  refine am_Rq.callV (show decode (am_by 109) 24 = .ok (.invokevirtual 61, 3) by decide +kernel) rfl [] [] rfl rfl (Nat.le_of_ble_eq_true rfl) rfl hM1 rfl (m_remember hM1 hS1 hF1 hkn) ?_
  rintro hp2 _ ⟨rfl, hM2, ⟨f1, hF2, hF3, hF4⟩, hf2⟩
  have hS2 := (hf2.2.2 239 (fun q => by omega)).trans hS1
  have hfr : am_fr (fun x => 238 ≤ x ∧ x < 241) hp hp2 := ((am_fr.rf (A := fun x => 238 ≤ x ∧ x < 241)).set (c' := (7, m_ob 0 kn co)) ⟨by decide, by decide⟩ hM rfl).trans (hf2.mono (A' := fun x => 238 ≤ x ∧ x < 241) (fun x q => by rcases q with q | q <;> subst q <;> exact ⟨by decide, by decide⟩))
  show am_Rq _ 109 27 [some (.ref 238), some (.int (nI k)), none, none, none] [] _ _
  refine am_Rq.blk (is := [(.iconst 0, 1), (.istore_n 2, 1), (.iconst 0, 1), (.istore_n 3, 1)]) (q := (31, [some (.ref 238), some (.int (nI k)), some (.int (nI 0)), some (.int (nI 0)), none], [])) (by decide +kernel) rfl ?_
  dsimp only
  have he0 : (fun j9 => nI (c_eg s k 0 j9)) = fun j9 => nI (s j9) := by
    funext q
    unfold c_eg
    rw [if_neg (by omega)]
  refine am_for (n := (s 82)) (fun i lo hp => ∃ z4 : Option Value, lo = [some (.ref 238), some (.int (nI k)), some (.int (nI (sp_sm (fun g => if s (83 + 7 * g) = k ∧ c_vg s g < s (83 + 7 * g + 1) then 1 else 0) i))), some (.int (nI i)), z4] ∧ hp[239]? = some (100, am_ia (fun j9 => nI (c_eg s k i j9)) 160) ∧ hp[238]? = some (7, [.int (nI 0), .ref 239, .ref 240, .int (nI (m_kn kn + 1)), .ref 241, .ref 242, .ref 243, .ref 244, .long (lN co), .ref 245]) ∧ hp[240]? = some (100, am_ia f1 1280) ∧ am_fr (fun x => 238 ≤ x ∧ x < 241) hp2 hp) ?_ ?_ (i := 0) (by omega) ⟨_, rfl, by rw [he0]; exact hS2, hM2, hF2, am_fr.rf⟩
  · rintro i lo hp hi ⟨z4, rfl, hA, hB8, hC0, hf0⟩ ih
    obtain ⟨g0, g1, g2, g3, g4, g5⟩ := hg i hi
    refine am_Rq.blk (is := [(.iload_n 3, 1), (.aload_n 0, 1)]) (q := (33, [some (.ref 238), some (.int (nI k)), some (.int (nI (sp_sm (fun g => if s (83 + 7 * g) = k ∧ c_vg s g < s (83 + 7 * g + 1) then 1 else 0) i))), some (.int (nI i)), z4], [.ref 238, .int (nI i)])) (by decide +kernel) rfl ?_
    dsimp only
    refine am_Rq.getf (v := .ref 239) (show decode (am_by 109) 33 = .ok (.getfield 7, 3) by decide +kernel) rfl hB8 rfl ?_
    refine am_Rq.blk (is := [(.bipush 82, 2)]) (q := (38, [some (.ref 238), some (.int (nI k)), some (.int (nI (sp_sm (fun g => if s (83 + 7 * g) = k ∧ c_vg s g < s (83 + 7 * g + 1) then 1 else 0) i))), some (.int (nI i)), z4], [.int (nI 82), .ref 239, .int (nI i)])) (by decide +kernel) rfl ?_
    dsimp only
    refine am_Rq.ial (k := 82) (show decode (am_by 109) 38 = .ok (.iaload, 1) by decide +kernel) hA (by omega) (by omega) ?_
    rw [show c_eg s k i 82 = s 82 by unfold c_eg; rw [if_neg (by omega)]]
    refine am_Rq.if2F (show decode (am_by 109) 39 = .ok (.if_icmp .ge 85, 3) by decide +kernel) (by decide) (by rw [nm_ge (by omega) (by omega)]; exact decide_eq_false (by omega)) ?_
    have er : ∀ m, m < 7 → c_eg s k i (83 + 7 * i + m) = s (83 + 7 * i + m) := fun m hm => c_eg_row (Nat.le_refl _) hm
    have e81 : c_eg s k i 81 = s 81 := by unfold c_eg; rw [if_neg (by omega)]
    have ev : c_vg (c_eg s k i) i = c_vg s i := by
      unfold c_vg
      rw [er 1 (by omega), er 2 (by omega), er 3 (by omega), er 5 (by omega), er 4 (by omega), e81]
    have hv : c_vg s i ≤ 2000 := Nat.le_trans (g_v_le _ _ _ _ _) g1
    refine am_Rq.blk (is := [(.aload_n 0, 1), (.iload_n 3, 1), (.iconst 0, 1)]) (q := (45, [some (.ref 238), some (.int (nI k)), some (.int (nI (sp_sm (fun g => if s (83 + 7 * g) = k ∧ c_vg s g < s (83 + 7 * g + 1) then 1 else 0) i))), some (.int (nI i)), z4], [.int (nI 0), .int (nI i), .ref 238])) (by decide +kernel) rfl ?_
    dsimp only
    refine am_Rq.callV (show decode (am_by 109) 45 = .ok (.invokevirtual 77, 3) by decide +kernel) rfl [.int (nI i), .int (nI 0)] [] rfl rfl (Nat.le_of_ble_eq_true rfl) rfl hB8 rfl (m_grantOf (s := c_eg s k i) hB8 hA (show i < 10 by omega) (show 0 < 7 by omega)) ?_
    rintro hq _ ⟨e1, rfl⟩
    rw [e1]
    clear e1 hq
    rw [er 0 (by omega), Nat.add_zero]
    show am_Rq _ 109 48 [some (.ref 238), some (.int (nI k)), some (.int (nI (sp_sm (fun g => if s (83 + 7 * g) = k ∧ c_vg s g < s (83 + 7 * g + 1) then 1 else 0) i))), some (.int (nI i)), z4] [.int (nI (s (83 + 7 * i)))] _ _
    refine am_Rq.blk (is := [(.iload_n 1, 1)]) (q := (49, [some (.ref 238), some (.int (nI k)), some (.int (nI (sp_sm (fun g => if s (83 + 7 * g) = k ∧ c_vg s g < s (83 + 7 * g + 1) then 1 else 0) i))), some (.int (nI i)), z4], [.int (nI k), .int (nI (s (83 + 7 * i)))])) (by decide +kernel) rfl ?_
    dsimp only
    refine am_Rq.if2 (t := 118) (show decode (am_by 109) 49 = .ok (.if_icmp .ne 69, 3) by decide +kernel) (by decide) (fun h1 => ?_) (fun h1 => ?_)
    ·
      rw [nm_ne (by omega) (by omega)] at h1
      have h1 := of_decide_eq_true h1
      refine am_Rq.blk (is := [(.iinc 3 1, 3)]) (q := (121, [some (.ref 238), some (.int (nI k)), some (.int (nI (sp_sm (fun g => if s (83 + 7 * g) = k ∧ c_vg s g < s (83 + 7 * g + 1) then 1 else 0) i))), some (.int ((nI i) + (nI 1))), z4], [])) (by decide +kernel) rfl ?_
      dsimp only
      rw [show (nI i) + (nI 1) = nI (i + 1) from nI_add _ _]
      refine am_Rq.blk (is := [(.goto (-90), 3)]) (q := (31, [some (.ref 238), some (.int (nI k)), some (.int (nI (sp_sm (fun g => if s (83 + 7 * g) = k ∧ c_vg s g < s (83 + 7 * g + 1) then 1 else 0) i))), some (.int (nI (i + 1))), z4], [])) (by decide +kernel) rfl ?_
      dsimp only
      have es : sp_sm (fun g => if s (83 + 7 * g) = k ∧ c_vg s g < s (83 + 7 * g + 1) then 1 else 0) (i + 1) = sp_sm (fun g => if s (83 + 7 * g) = k ∧ c_vg s g < s (83 + 7 * g + 1) then 1 else 0) i := by
        simp only [sp_sm]
        rw [if_neg (by omega), Nat.add_zero]
      have en : c_eg s k (i + 1) = c_eg s k i := funext (fun q => c_eg_no (by omega) q)
      refine ih _ _ ⟨_, by rw [es], ?_, hB8, hC0, hf0⟩
      rw [en]
      exact hA
    ·
      rw [nm_ne (by omega) (by omega)] at h1
      have h1 := of_decide_eq_false h1
      refine am_Rq.blk (is := [(.aload_n 0, 1), (.iload_n 3, 1), (.iconst 5, 1)]) (q := (55, [some (.ref 238), some (.int (nI k)), some (.int (nI (sp_sm (fun g => if s (83 + 7 * g) = k ∧ c_vg s g < s (83 + 7 * g + 1) then 1 else 0) i))), some (.int (nI i)), z4], [.int (nI 5), .int (nI i), .ref 238])) (by decide +kernel) rfl ?_
      dsimp only
      refine am_Rq.callV (show decode (am_by 109) 55 = .ok (.invokevirtual 77, 3) by decide +kernel) rfl [.int (nI i), .int (nI 5)] [] rfl rfl (Nat.le_of_ble_eq_true rfl) rfl hB8 rfl (m_grantOf (s := c_eg s k i) hB8 hA (show i < 10 by omega) (show 5 < 7 by omega)) ?_
      rintro hq _ ⟨e1, rfl⟩
      rw [e1]
      clear e1 hq
      rw [er 5 (by omega)]
      show am_Rq _ 109 58 [some (.ref 238), some (.int (nI k)), some (.int (nI (sp_sm (fun g => if s (83 + 7 * g) = k ∧ c_vg s g < s (83 + 7 * g + 1) then 1 else 0) i))), some (.int (nI i)), z4] [.int (nI (s (83 + 7 * i + 5)))] _ _
      refine am_Rq.if1 (t := 118) (show decode (am_by 109) 58 = .ok (.ifCond .ne 60, 3) by decide +kernel) (by decide) (fun h5 => ?_) (fun h5 => ?_)
      ·
        rw [nm_ne0 (by omega)] at h5
        have h5 := of_decide_eq_true h5
        refine am_Rq.blk (is := [(.iinc 3 1, 3)]) (q := (121, [some (.ref 238), some (.int (nI k)), some (.int (nI (sp_sm (fun g => if s (83 + 7 * g) = k ∧ c_vg s g < s (83 + 7 * g + 1) then 1 else 0) i))), some (.int ((nI i) + (nI 1))), z4], [])) (by decide +kernel) rfl ?_
        dsimp only
        rw [show (nI i) + (nI 1) = nI (i + 1) from nI_add _ _]
        refine am_Rq.blk (is := [(.goto (-90), 3)]) (q := (31, [some (.ref 238), some (.int (nI k)), some (.int (nI (sp_sm (fun g => if s (83 + 7 * g) = k ∧ c_vg s g < s (83 + 7 * g + 1) then 1 else 0) i))), some (.int (nI (i + 1))), z4], [])) (by decide +kernel) rfl ?_
        dsimp only
        have e5 : s (83 + 7 * i + 5) = 1 := by omega
        have evv : c_vg s i = s (83 + 7 * i + 1) := by
          unfold c_vg g_v
          rw [if_pos (by omega)]
        have es : sp_sm (fun g => if s (83 + 7 * g) = k ∧ c_vg s g < s (83 + 7 * g + 1) then 1 else 0) (i + 1) = sp_sm (fun g => if s (83 + 7 * g) = k ∧ c_vg s g < s (83 + 7 * g + 1) then 1 else 0) i := by
          simp only [sp_sm]
          rw [if_neg (by omega), Nat.add_zero]
        have en : c_eg s k (i + 1) = c_eg s k i := funext (fun q => by
          rw [c_eg_yes (by omega)]
          by_cases q5 : q = 83 + 7 * i + 5
          · subst q5
            rw [va_up_self, er 5 (by omega), e5]
          · rw [va_up_ne _ _ q5]
            by_cases q1 : q = 83 + 7 * i + 1
            · subst q1
              rw [va_up_self, er 1 (by omega), evv]
            · rw [va_up_ne _ _ q1])
        refine ih _ _ ⟨_, by rw [es], ?_, hB8, hC0, hf0⟩
        rw [en]
        exact hA
      ·
        rw [nm_ne0 (by omega)] at h5
        have h5 := of_decide_eq_false h5
        refine am_Rq.blk (is := [(.aload_n 0, 1), (.iload_n 3, 1)]) (q := (63, [some (.ref 238), some (.int (nI k)), some (.int (nI (sp_sm (fun g => if s (83 + 7 * g) = k ∧ c_vg s g < s (83 + 7 * g + 1) then 1 else 0) i))), some (.int (nI i)), z4], [.int (nI i), .ref 238])) (by decide +kernel) rfl ?_
        dsimp only
        refine am_Rq.callV (show decode (am_by 109) 63 = .ok (.invokevirtual 84, 3) by decide +kernel) rfl [.int (nI i)] [] rfl rfl (Nat.le_of_ble_eq_true rfl) rfl hB8 rfl (m_vestedOf (s := c_eg s k i) hB8 hA (show i < 10 by omega) (by rw [e81]; exact hm) (by rw [er 4 (by omega), e81]; exact g4) (by rw [er 1 (by omega)]; exact g1) (by rw [er 3 (by omega)]; exact g3) (by rw [er 2 (by omega)]; exact g2) (by rw [er 5 (by omega)]; exact g5)) ?_
        rintro hq _ ⟨e1, rfl⟩
        rw [e1]
        clear e1 hq
        rw [ev]
        show am_Rq _ 109 66 [some (.ref 238), some (.int (nI k)), some (.int (nI (sp_sm (fun g => if s (83 + 7 * g) = k ∧ c_vg s g < s (83 + 7 * g + 1) then 1 else 0) i))), some (.int (nI i)), z4] [.int (nI (c_vg s i))] _ _
        refine am_Rq.blk (is := [(.istore 4, 2), (.iload 4, 2), (.aload_n 0, 1), (.iload_n 3, 1), (.iconst 1, 1)]) (q := (73, [some (.ref 238), some (.int (nI k)), some (.int (nI (sp_sm (fun g => if s (83 + 7 * g) = k ∧ c_vg s g < s (83 + 7 * g + 1) then 1 else 0) i))), some (.int (nI i)), some (.int (nI (c_vg s i)))], [.int (nI 1), .int (nI i), .ref 238, .int (nI (c_vg s i))])) (by decide +kernel) rfl ?_
        dsimp only
        refine am_Rq.callV (show decode (am_by 109) 73 = .ok (.invokevirtual 77, 3) by decide +kernel) rfl [.int (nI i), .int (nI 1)] [.int (nI (c_vg s i))] rfl rfl (Nat.le_of_ble_eq_true rfl) rfl hB8 rfl (m_grantOf (s := c_eg s k i) hB8 hA (show i < 10 by omega) (show 1 < 7 by omega)) ?_
        rintro hq _ ⟨e1, rfl⟩
        rw [e1]
        clear e1 hq
        rw [er 1 (by omega)]
        show am_Rq _ 109 76 [some (.ref 238), some (.int (nI k)), some (.int (nI (sp_sm (fun g => if s (83 + 7 * g) = k ∧ c_vg s g < s (83 + 7 * g + 1) then 1 else 0) i))), some (.int (nI i)), some (.int (nI (c_vg s i)))] [.int (nI (s (83 + 7 * i + 1))), .int (nI (c_vg s i))] _ _
        refine am_Rq.if2 (t := 85) (show decode (am_by 109) 76 = .ok (.if_icmp .ge 9, 3) by decide +kernel) (by decide) (fun h7 => ?_) (fun h7 => ?_)
        ·
          rw [nm_ge (by omega) (by omega)] at h7
          have h7 := of_decide_eq_true h7
          refine am_Rq.blk (is := [(.iload_n 2, 1), (.istore_n 2, 1), (.aload_n 0, 1)]) (q := (88, [some (.ref 238), some (.int (nI k)), some (.int (nI (sp_sm (fun g => if s (83 + 7 * g) = k ∧ c_vg s g < s (83 + 7 * g + 1) then 1 else 0) i))), some (.int (nI i)), some (.int (nI (c_vg s i)))], [.ref 238])) (by decide +kernel) rfl ?_
          dsimp only
          refine am_Rq.getf (v := .ref 239) (show decode (am_by 109) 88 = .ok (.getfield 7, 3) by decide +kernel) rfl hB8 rfl ?_
          refine am_Rq.blk (is := [(.bipush 83, 2), (.bipush 7, 2), (.iload_n 3, 1), (.imul, 1)]) (q := (97, [some (.ref 238), some (.int (nI k)), some (.int (nI (sp_sm (fun g => if s (83 + 7 * g) = k ∧ c_vg s g < s (83 + 7 * g + 1) then 1 else 0) i))), some (.int (nI i)), some (.int (nI (c_vg s i)))], [.int ((nI 7) * (nI i)), .int (nI 83), .ref 239])) (by decide +kernel) rfl ?_
          dsimp only
          rw [show (nI 7) * (nI i) = nI (7 * i) from nm_imul _ _]
          refine am_Rq.blk (is := [(.iadd, 1)]) (q := (98, [some (.ref 238), some (.int (nI k)), some (.int (nI (sp_sm (fun g => if s (83 + 7 * g) = k ∧ c_vg s g < s (83 + 7 * g + 1) then 1 else 0) i))), some (.int (nI i)), some (.int (nI (c_vg s i)))], [.int ((nI 83) + (nI (7 * i))), .ref 239])) (by decide +kernel) rfl ?_
          dsimp only
          rw [show (nI 83) + (nI (7 * i)) = nI (83 + (7 * i)) from nI_add _ _]
          refine am_Rq.blk (is := [(.iconst 1, 1), (.iadd, 1)]) (q := (100, [some (.ref 238), some (.int (nI k)), some (.int (nI (sp_sm (fun g => if s (83 + 7 * g) = k ∧ c_vg s g < s (83 + 7 * g + 1) then 1 else 0) i))), some (.int (nI i)), some (.int (nI (c_vg s i)))], [.int ((nI (83 + (7 * i))) + (nI 1)), .ref 239])) (by decide +kernel) rfl ?_
          dsimp only
          rw [show (nI (83 + (7 * i))) + (nI 1) = nI ((83 + (7 * i)) + 1) from nI_add _ _]
          refine am_Rq.blk (is := [(.iload 4, 2)]) (q := (102, [some (.ref 238), some (.int (nI k)), some (.int (nI (sp_sm (fun g => if s (83 + 7 * g) = k ∧ c_vg s g < s (83 + 7 * g + 1) then 1 else 0) i))), some (.int (nI i)), some (.int (nI (c_vg s i)))], [.int (nI (c_vg s i)), .int (nI ((83 + (7 * i)) + 1)), .ref 239])) (by decide +kernel) rfl ?_
          dsimp only
          refine am_Rq.nas (s := c_eg s k i) (k := (83 + (7 * i)) + 1) (v := c_vg s i) (show decode (am_by 109) 102 = .ok (.iastore, 1) by decide +kernel) hA (by omega) (by omega) (by omega) ?_
          have hc1_238 := (am_sn (c' := (100, (am_ia (fun j9 => nI ((va_up (c_eg s k i) ((83 + (7 * i)) + 1) (c_vg s i)) j9)) 160))) (show 239 ≠ 238 by omega)).trans hB8
          have hc1_239 := am_ss (c' := (100, (am_ia (fun j9 => nI ((va_up (c_eg s k i) ((83 + (7 * i)) + 1) (c_vg s i)) j9)) 160))) hA
          have hc1_240 := (am_sn (c' := (100, (am_ia (fun j9 => nI ((va_up (c_eg s k i) ((83 + (7 * i)) + 1) (c_vg s i)) j9)) 160))) (show 239 ≠ 240 by omega)).trans hC0
          have hf1 := (am_fr.rf (A := fun q => q = 239)).set (c' := (100, (am_ia (fun j9 => nI ((va_up (c_eg s k i) ((83 + (7 * i)) + 1) (c_vg s i)) j9)) 160))) rfl hA (by simp [am_ia_len, am_la_len])
          generalize hze1 : (List.set _ 239 _ : am_H) = hz1 at hf1 hc1_238 hc1_239 hc1_240 ⊢
          clear hze1
          refine am_Rq.blk (is := [(.aload_n 0, 1)]) (q := (104, [some (.ref 238), some (.int (nI k)), some (.int (nI (sp_sm (fun g => if s (83 + 7 * g) = k ∧ c_vg s g < s (83 + 7 * g + 1) then 1 else 0) i))), some (.int (nI i)), some (.int (nI (c_vg s i)))], [.ref 238])) (by decide +kernel) rfl ?_
          dsimp only
          refine am_Rq.getf (v := .ref 239) (show decode (am_by 109) 104 = .ok (.getfield 7, 3) by decide +kernel) rfl hc1_238 rfl ?_
          refine am_Rq.blk (is := [(.bipush 83, 2), (.bipush 7, 2), (.iload_n 3, 1), (.imul, 1)]) (q := (113, [some (.ref 238), some (.int (nI k)), some (.int (nI (sp_sm (fun g => if s (83 + 7 * g) = k ∧ c_vg s g < s (83 + 7 * g + 1) then 1 else 0) i))), some (.int (nI i)), some (.int (nI (c_vg s i)))], [.int ((nI 7) * (nI i)), .int (nI 83), .ref 239])) (by decide +kernel) rfl ?_
          dsimp only
          rw [show (nI 7) * (nI i) = nI (7 * i) from nm_imul _ _]
          refine am_Rq.blk (is := [(.iadd, 1)]) (q := (114, [some (.ref 238), some (.int (nI k)), some (.int (nI (sp_sm (fun g => if s (83 + 7 * g) = k ∧ c_vg s g < s (83 + 7 * g + 1) then 1 else 0) i))), some (.int (nI i)), some (.int (nI (c_vg s i)))], [.int ((nI 83) + (nI (7 * i))), .ref 239])) (by decide +kernel) rfl ?_
          dsimp only
          rw [show (nI 83) + (nI (7 * i)) = nI (83 + (7 * i)) from nI_add _ _]
          refine am_Rq.blk (is := [(.iconst 5, 1), (.iadd, 1)]) (q := (116, [some (.ref 238), some (.int (nI k)), some (.int (nI (sp_sm (fun g => if s (83 + 7 * g) = k ∧ c_vg s g < s (83 + 7 * g + 1) then 1 else 0) i))), some (.int (nI i)), some (.int (nI (c_vg s i)))], [.int ((nI (83 + (7 * i))) + (nI 5)), .ref 239])) (by decide +kernel) rfl ?_
          dsimp only
          rw [show (nI (83 + (7 * i))) + (nI 5) = nI ((83 + (7 * i)) + 5) from nI_add _ _]
          refine am_Rq.blk (is := [(.iconst 1, 1)]) (q := (117, [some (.ref 238), some (.int (nI k)), some (.int (nI (sp_sm (fun g => if s (83 + 7 * g) = k ∧ c_vg s g < s (83 + 7 * g + 1) then 1 else 0) i))), some (.int (nI i)), some (.int (nI (c_vg s i)))], [.int (nI 1), .int (nI ((83 + (7 * i)) + 5)), .ref 239])) (by decide +kernel) rfl ?_
          dsimp only
          refine am_Rq.nas (s := (va_up (c_eg s k i) ((83 + (7 * i)) + 1) (c_vg s i))) (k := (83 + (7 * i)) + 5) (v := 1) (show decode (am_by 109) 117 = .ok (.iastore, 1) by decide +kernel) hc1_239 (by omega) (by omega) (by omega) ?_
          have hc2_238 := (am_sn (c' := (100, (am_ia (fun j9 => nI ((va_up (va_up (c_eg s k i) ((83 + (7 * i)) + 1) (c_vg s i)) ((83 + (7 * i)) + 5) (1)) j9)) 160))) (show 239 ≠ 238 by omega)).trans hc1_238
          have hc2_239 := am_ss (c' := (100, (am_ia (fun j9 => nI ((va_up (va_up (c_eg s k i) ((83 + (7 * i)) + 1) (c_vg s i)) ((83 + (7 * i)) + 5) (1)) j9)) 160))) hc1_239
          have hc2_240 := (am_sn (c' := (100, (am_ia (fun j9 => nI ((va_up (va_up (c_eg s k i) ((83 + (7 * i)) + 1) (c_vg s i)) ((83 + (7 * i)) + 5) (1)) j9)) 160))) (show 239 ≠ 240 by omega)).trans hc1_240
          have hf2 := (am_fr.rf (A := fun q => q = 239)).set (c' := (100, (am_ia (fun j9 => nI ((va_up (va_up (c_eg s k i) ((83 + (7 * i)) + 1) (c_vg s i)) ((83 + (7 * i)) + 5) (1)) j9)) 160))) rfl hc1_239 (by simp [am_ia_len, am_la_len])
          generalize hze2 : (List.set _ 239 _ : am_H) = hz2 at hf2 hc2_238 hc2_239 hc2_240 ⊢
          clear hze2
          refine am_Rq.blk (is := [(.iinc 3 1, 3)]) (q := (121, [some (.ref 238), some (.int (nI k)), some (.int (nI (sp_sm (fun g => if s (83 + 7 * g) = k ∧ c_vg s g < s (83 + 7 * g + 1) then 1 else 0) i))), some (.int ((nI i) + (nI 1))), some (.int (nI (c_vg s i)))], [])) (by decide +kernel) rfl ?_
          dsimp only
          rw [show (nI i) + (nI 1) = nI (i + 1) from nI_add _ _]
          refine am_Rq.blk (is := [(.goto (-90), 3)]) (q := (31, [some (.ref 238), some (.int (nI k)), some (.int (nI (sp_sm (fun g => if s (83 + 7 * g) = k ∧ c_vg s g < s (83 + 7 * g + 1) then 1 else 0) i))), some (.int (nI (i + 1))), some (.int (nI (c_vg s i)))], [])) (by decide +kernel) rfl ?_
          dsimp only
          have es : sp_sm (fun g => if s (83 + 7 * g) = k ∧ c_vg s g < s (83 + 7 * g + 1) then 1 else 0) (i + 1) = sp_sm (fun g => if s (83 + 7 * g) = k ∧ c_vg s g < s (83 + 7 * g + 1) then 1 else 0) i := by
            simp only [sp_sm]
            rw [if_neg (by omega), Nat.add_zero]
          have en : c_eg s k (i + 1) = va_up (va_up (c_eg s k i) (83 + 7 * i + 1) (c_vg s i)) (83 + 7 * i + 5) 1 := funext (fun q => c_eg_yes (by omega) q)
          refine ih _ _ ⟨_, by rw [es], ?_, hc2_238, hc2_240, ((hf0.trans (hf1.mono (A' := fun x => 238 ≤ x ∧ x < 241) (fun x q => by have q : x = _ := q; omega))).trans (hf2.mono (A' := fun x => 238 ≤ x ∧ x < 241) (fun x q => by have q : x = _ := q; omega)))⟩
          rw [en]
          exact hc2_239
        ·
          rw [nm_ge (by omega) (by omega)] at h7
          have h7 := of_decide_eq_false h7
          refine am_Rq.blk (is := [(.iload_n 2, 1), (.iconst 1, 1), (.iadd, 1)]) (q := (82, [some (.ref 238), some (.int (nI k)), some (.int (nI (sp_sm (fun g => if s (83 + 7 * g) = k ∧ c_vg s g < s (83 + 7 * g + 1) then 1 else 0) i))), some (.int (nI i)), some (.int (nI (c_vg s i)))], [.int ((nI (sp_sm (fun g => if s (83 + 7 * g) = k ∧ c_vg s g < s (83 + 7 * g + 1) then 1 else 0) i)) + (nI 1))])) (by decide +kernel) rfl ?_
          dsimp only
          rw [show (nI (sp_sm (fun g => if s (83 + 7 * g) = k ∧ c_vg s g < s (83 + 7 * g + 1) then 1 else 0) i)) + (nI 1) = nI ((sp_sm (fun g => if s (83 + 7 * g) = k ∧ c_vg s g < s (83 + 7 * g + 1) then 1 else 0) i) + 1) from nI_add _ _]
          refine am_Rq.blk (is := [(.goto 4, 3)]) (q := (86, [some (.ref 238), some (.int (nI k)), some (.int (nI (sp_sm (fun g => if s (83 + 7 * g) = k ∧ c_vg s g < s (83 + 7 * g + 1) then 1 else 0) i))), some (.int (nI i)), some (.int (nI (c_vg s i)))], [.int (nI ((sp_sm (fun g => if s (83 + 7 * g) = k ∧ c_vg s g < s (83 + 7 * g + 1) then 1 else 0) i) + 1))])) (by decide +kernel) rfl ?_
          dsimp only
          refine am_Rq.blk (is := [(.istore_n 2, 1), (.aload_n 0, 1)]) (q := (88, [some (.ref 238), some (.int (nI k)), some (.int (nI ((sp_sm (fun g => if s (83 + 7 * g) = k ∧ c_vg s g < s (83 + 7 * g + 1) then 1 else 0) i) + 1))), some (.int (nI i)), some (.int (nI (c_vg s i)))], [.ref 238])) (by decide +kernel) rfl ?_
          dsimp only
          refine am_Rq.getf (v := .ref 239) (show decode (am_by 109) 88 = .ok (.getfield 7, 3) by decide +kernel) rfl hB8 rfl ?_
          refine am_Rq.blk (is := [(.bipush 83, 2), (.bipush 7, 2), (.iload_n 3, 1), (.imul, 1)]) (q := (97, [some (.ref 238), some (.int (nI k)), some (.int (nI ((sp_sm (fun g => if s (83 + 7 * g) = k ∧ c_vg s g < s (83 + 7 * g + 1) then 1 else 0) i) + 1))), some (.int (nI i)), some (.int (nI (c_vg s i)))], [.int ((nI 7) * (nI i)), .int (nI 83), .ref 239])) (by decide +kernel) rfl ?_
          dsimp only
          rw [show (nI 7) * (nI i) = nI (7 * i) from nm_imul _ _]
          refine am_Rq.blk (is := [(.iadd, 1)]) (q := (98, [some (.ref 238), some (.int (nI k)), some (.int (nI ((sp_sm (fun g => if s (83 + 7 * g) = k ∧ c_vg s g < s (83 + 7 * g + 1) then 1 else 0) i) + 1))), some (.int (nI i)), some (.int (nI (c_vg s i)))], [.int ((nI 83) + (nI (7 * i))), .ref 239])) (by decide +kernel) rfl ?_
          dsimp only
          rw [show (nI 83) + (nI (7 * i)) = nI (83 + (7 * i)) from nI_add _ _]
          refine am_Rq.blk (is := [(.iconst 1, 1), (.iadd, 1)]) (q := (100, [some (.ref 238), some (.int (nI k)), some (.int (nI ((sp_sm (fun g => if s (83 + 7 * g) = k ∧ c_vg s g < s (83 + 7 * g + 1) then 1 else 0) i) + 1))), some (.int (nI i)), some (.int (nI (c_vg s i)))], [.int ((nI (83 + (7 * i))) + (nI 1)), .ref 239])) (by decide +kernel) rfl ?_
          dsimp only
          rw [show (nI (83 + (7 * i))) + (nI 1) = nI ((83 + (7 * i)) + 1) from nI_add _ _]
          refine am_Rq.blk (is := [(.iload 4, 2)]) (q := (102, [some (.ref 238), some (.int (nI k)), some (.int (nI ((sp_sm (fun g => if s (83 + 7 * g) = k ∧ c_vg s g < s (83 + 7 * g + 1) then 1 else 0) i) + 1))), some (.int (nI i)), some (.int (nI (c_vg s i)))], [.int (nI (c_vg s i)), .int (nI ((83 + (7 * i)) + 1)), .ref 239])) (by decide +kernel) rfl ?_
          dsimp only
          refine am_Rq.nas (s := c_eg s k i) (k := (83 + (7 * i)) + 1) (v := c_vg s i) (show decode (am_by 109) 102 = .ok (.iastore, 1) by decide +kernel) hA (by omega) (by omega) (by omega) ?_
          have hc3_238 := (am_sn (c' := (100, (am_ia (fun j9 => nI ((va_up (c_eg s k i) ((83 + (7 * i)) + 1) (c_vg s i)) j9)) 160))) (show 239 ≠ 238 by omega)).trans hB8
          have hc3_239 := am_ss (c' := (100, (am_ia (fun j9 => nI ((va_up (c_eg s k i) ((83 + (7 * i)) + 1) (c_vg s i)) j9)) 160))) hA
          have hc3_240 := (am_sn (c' := (100, (am_ia (fun j9 => nI ((va_up (c_eg s k i) ((83 + (7 * i)) + 1) (c_vg s i)) j9)) 160))) (show 239 ≠ 240 by omega)).trans hC0
          have hf3 := (am_fr.rf (A := fun q => q = 239)).set (c' := (100, (am_ia (fun j9 => nI ((va_up (c_eg s k i) ((83 + (7 * i)) + 1) (c_vg s i)) j9)) 160))) rfl hA (by simp [am_ia_len, am_la_len])
          generalize hze3 : (List.set _ 239 _ : am_H) = hz3 at hf3 hc3_238 hc3_239 hc3_240 ⊢
          clear hze3
          refine am_Rq.blk (is := [(.aload_n 0, 1)]) (q := (104, [some (.ref 238), some (.int (nI k)), some (.int (nI ((sp_sm (fun g => if s (83 + 7 * g) = k ∧ c_vg s g < s (83 + 7 * g + 1) then 1 else 0) i) + 1))), some (.int (nI i)), some (.int (nI (c_vg s i)))], [.ref 238])) (by decide +kernel) rfl ?_
          dsimp only
          refine am_Rq.getf (v := .ref 239) (show decode (am_by 109) 104 = .ok (.getfield 7, 3) by decide +kernel) rfl hc3_238 rfl ?_
          refine am_Rq.blk (is := [(.bipush 83, 2), (.bipush 7, 2), (.iload_n 3, 1), (.imul, 1)]) (q := (113, [some (.ref 238), some (.int (nI k)), some (.int (nI ((sp_sm (fun g => if s (83 + 7 * g) = k ∧ c_vg s g < s (83 + 7 * g + 1) then 1 else 0) i) + 1))), some (.int (nI i)), some (.int (nI (c_vg s i)))], [.int ((nI 7) * (nI i)), .int (nI 83), .ref 239])) (by decide +kernel) rfl ?_
          dsimp only
          rw [show (nI 7) * (nI i) = nI (7 * i) from nm_imul _ _]
          refine am_Rq.blk (is := [(.iadd, 1)]) (q := (114, [some (.ref 238), some (.int (nI k)), some (.int (nI ((sp_sm (fun g => if s (83 + 7 * g) = k ∧ c_vg s g < s (83 + 7 * g + 1) then 1 else 0) i) + 1))), some (.int (nI i)), some (.int (nI (c_vg s i)))], [.int ((nI 83) + (nI (7 * i))), .ref 239])) (by decide +kernel) rfl ?_
          dsimp only
          rw [show (nI 83) + (nI (7 * i)) = nI (83 + (7 * i)) from nI_add _ _]
          refine am_Rq.blk (is := [(.iconst 5, 1), (.iadd, 1)]) (q := (116, [some (.ref 238), some (.int (nI k)), some (.int (nI ((sp_sm (fun g => if s (83 + 7 * g) = k ∧ c_vg s g < s (83 + 7 * g + 1) then 1 else 0) i) + 1))), some (.int (nI i)), some (.int (nI (c_vg s i)))], [.int ((nI (83 + (7 * i))) + (nI 5)), .ref 239])) (by decide +kernel) rfl ?_
          dsimp only
          rw [show (nI (83 + (7 * i))) + (nI 5) = nI ((83 + (7 * i)) + 5) from nI_add _ _]
          refine am_Rq.blk (is := [(.iconst 1, 1)]) (q := (117, [some (.ref 238), some (.int (nI k)), some (.int (nI ((sp_sm (fun g => if s (83 + 7 * g) = k ∧ c_vg s g < s (83 + 7 * g + 1) then 1 else 0) i) + 1))), some (.int (nI i)), some (.int (nI (c_vg s i)))], [.int (nI 1), .int (nI ((83 + (7 * i)) + 5)), .ref 239])) (by decide +kernel) rfl ?_
          dsimp only
          refine am_Rq.nas (s := (va_up (c_eg s k i) ((83 + (7 * i)) + 1) (c_vg s i))) (k := (83 + (7 * i)) + 5) (v := 1) (show decode (am_by 109) 117 = .ok (.iastore, 1) by decide +kernel) hc3_239 (by omega) (by omega) (by omega) ?_
          have hc4_238 := (am_sn (c' := (100, (am_ia (fun j9 => nI ((va_up (va_up (c_eg s k i) ((83 + (7 * i)) + 1) (c_vg s i)) ((83 + (7 * i)) + 5) (1)) j9)) 160))) (show 239 ≠ 238 by omega)).trans hc3_238
          have hc4_239 := am_ss (c' := (100, (am_ia (fun j9 => nI ((va_up (va_up (c_eg s k i) ((83 + (7 * i)) + 1) (c_vg s i)) ((83 + (7 * i)) + 5) (1)) j9)) 160))) hc3_239
          have hc4_240 := (am_sn (c' := (100, (am_ia (fun j9 => nI ((va_up (va_up (c_eg s k i) ((83 + (7 * i)) + 1) (c_vg s i)) ((83 + (7 * i)) + 5) (1)) j9)) 160))) (show 239 ≠ 240 by omega)).trans hc3_240
          have hf4 := (am_fr.rf (A := fun q => q = 239)).set (c' := (100, (am_ia (fun j9 => nI ((va_up (va_up (c_eg s k i) ((83 + (7 * i)) + 1) (c_vg s i)) ((83 + (7 * i)) + 5) (1)) j9)) 160))) rfl hc3_239 (by simp [am_ia_len, am_la_len])
          generalize hze4 : (List.set _ 239 _ : am_H) = hz4 at hf4 hc4_238 hc4_239 hc4_240 ⊢
          clear hze4
          refine am_Rq.blk (is := [(.iinc 3 1, 3)]) (q := (121, [some (.ref 238), some (.int (nI k)), some (.int (nI ((sp_sm (fun g => if s (83 + 7 * g) = k ∧ c_vg s g < s (83 + 7 * g + 1) then 1 else 0) i) + 1))), some (.int ((nI i) + (nI 1))), some (.int (nI (c_vg s i)))], [])) (by decide +kernel) rfl ?_
          dsimp only
          rw [show (nI i) + (nI 1) = nI (i + 1) from nI_add _ _]
          refine am_Rq.blk (is := [(.goto (-90), 3)]) (q := (31, [some (.ref 238), some (.int (nI k)), some (.int (nI ((sp_sm (fun g => if s (83 + 7 * g) = k ∧ c_vg s g < s (83 + 7 * g + 1) then 1 else 0) i) + 1))), some (.int (nI (i + 1))), some (.int (nI (c_vg s i)))], [])) (by decide +kernel) rfl ?_
          dsimp only
          have es : sp_sm (fun g => if s (83 + 7 * g) = k ∧ c_vg s g < s (83 + 7 * g + 1) then 1 else 0) (i + 1) = sp_sm (fun g => if s (83 + 7 * g) = k ∧ c_vg s g < s (83 + 7 * g + 1) then 1 else 0) i + 1 := by
            simp only [sp_sm]
            rw [if_pos (by omega)]
          have en : c_eg s k (i + 1) = va_up (va_up (c_eg s k i) (83 + 7 * i + 1) (c_vg s i)) (83 + 7 * i + 5) 1 := funext (fun q => c_eg_yes (by omega) q)
          refine ih _ _ ⟨_, by rw [es], ?_, hc4_238, hc4_240, ((hf0.trans (hf3.mono (A' := fun x => 238 ≤ x ∧ x < 241) (fun x q => by have q : x = _ := q; omega))).trans (hf4.mono (A' := fun x => 238 ≤ x ∧ x < 241) (fun x q => by have q : x = _ := q; omega)))⟩
          rw [en]
          exact hc4_239
  · rintro lo hp ⟨z4, rfl, hA, hB8, hC0, hf0⟩
    refine am_Rq.blk (is := [(.iload_n 3, 1), (.aload_n 0, 1)]) (q := (33, [some (.ref 238), some (.int (nI k)), some (.int (nI (sp_sm (fun g => if s (83 + 7 * g) = k ∧ c_vg s g < s (83 + 7 * g + 1) then 1 else 0) (s 82)))), some (.int (nI (s 82))), z4], [.ref 238, .int (nI (s 82))])) (by decide +kernel) rfl ?_
    dsimp only
    refine am_Rq.getf (v := .ref 239) (show decode (am_by 109) 33 = .ok (.getfield 7, 3) by decide +kernel) rfl hB8 rfl ?_
    refine am_Rq.blk (is := [(.bipush 82, 2)]) (q := (38, [some (.ref 238), some (.int (nI k)), some (.int (nI (sp_sm (fun g => if s (83 + 7 * g) = k ∧ c_vg s g < s (83 + 7 * g + 1) then 1 else 0) (s 82)))), some (.int (nI (s 82))), z4], [.int (nI 82), .ref 239, .int (nI (s 82))])) (by decide +kernel) rfl ?_
    dsimp only
    refine am_Rq.ial (k := 82) (show decode (am_by 109) 38 = .ok (.iaload, 1) by decide +kernel) hA (by omega) (by omega) ?_
    rw [show c_eg s k (s 82) 82 = s 82 by unfold c_eg; rw [if_neg (by omega)]]
    refine am_Rq.if2T (t := 124) (show decode (am_by 109) 39 = .ok (.if_icmp .ge 85, 3) by decide +kernel) (by decide) (by rw [nm_ge (by omega) (by omega)]; exact decide_eq_true (by omega)) ?_
    refine am_Rq.blk (is := [(.iload_n 2, 1)]) (q := (125, [some (.ref 238), some (.int (nI k)), some (.int (nI (sp_sm (fun g => if s (83 + 7 * g) = k ∧ c_vg s g < s (83 + 7 * g + 1) then 1 else 0) (s 82)))), some (.int (nI (s 82))), z4], [.int (nI (sp_sm (fun g => if s (83 + 7 * g) = k ∧ c_vg s g < s (83 + 7 * g + 1) then 1 else 0) (s 82)))])) (by decide +kernel) rfl ?_
    dsimp only
    refine am_Rq.ret (v := some (.int (nI (sp_sm (fun g => if s (83 + 7 * g) = k ∧ c_vg s g < s (83 + 7 * g + 1) then 1 else 0) (s 82))))) (show decode (am_by 109) 125 = .ok (.ireturn, 1) by decide +kernel) rfl rfl ?_
    exact ⟨_, rfl, rfl, hB8, hA, ⟨f1, hC0, hF3, hF4⟩, hfr.trans hf0⟩
end M12
