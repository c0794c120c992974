/-! The reference: convert (rows by prog/m10.py). -/
section M10
variable {d : Nat} {hp : am_H}
theorem m_convert {th kn co : Nat} (hM : hp[238]? = some (7, [.int (nI th), .ref 239, .ref 240, .int (nI kn), .ref 241, .ref 242, .ref 243, .ref 244, .long (lN co), .ref 245])) {s : Nat → Nat} (hS : hp[239]? = some (100, am_ia (fun i => nI (s i)) 160)) {f : Nat → Int32} (hF : hp[240]? = some (100, am_ia f 1280)) (hkn : kn ≤ 8) (hb : m_bd s) {c k n : Nat} (h1c : 1 ≤ c) (hc : c ≤ s 0) (hk : k < 8) (h1 : 1 ≤ n) (hn : n ≤ s (40 + 8 * c + k)) (hn2 : s (40 + 8 * c + k) ≤ 20000) (h20 : m_iss s 0 + m_cv s c n ≤ 20000) : am_Rq (d + 3) 103 0 (am_en [.ref 238, .int (nI c), .int (nI k), .int (nI n)] 7) [] hp (am_Ret fun hp1 v => v = some (.int (nI (m_cv s c n))) ∧ m_Chg hp f kn co s (va_up (va_up s (40 + 8 * c + k) (s (40 + 8 * c + k) - n)) (40 + k) ((va_up s (40 + 8 * c + k) (s (40 + 8 * c + k) - n)) (40 + k) + m_cv s c n)) hp1) := by
  show am_Rq _ 103 0 [some (.ref 238), some (.int (nI c)), some (.int (nI k)), some (.int (nI n)), none, none, none] [] _ _
  have hs0 := hb.1
  have hi0 := hb.2.1 0 (by omega)
  refine am_Rq.blk (is := [(.aload_n 0, 1), (.iload_n 1, 1)]) (q := (2, [some (.ref 238), some (.int (nI c)), some (.int (nI k)), some (.int (nI n)), none, none, none], [.int (nI c), .ref 238])) (by decide +kernel) rfl ?_
  dsimp only
  refine am_Rq.callV (show decode (am_by 103) 2 = .ok (.invokevirtual 64, 3) by decide +kernel) rfl [.int (nI c)] [] rfl rfl (Nat.le_of_ble_eq_true rfl) rfl hM rfl (m_isClass hM hS (nI c)) ?_
  rintro hq _ ⟨e1, rfl⟩
  rw [e1]
  clear e1 hq
  show am_Rq _ 103 5 [some (.ref 238), some (.int (nI c)), some (.int (nI k)), some (.int (nI n)), none, none, none] [.int (nI (am_b (rg_r (nI 0) (nI (s 0)) (nI c))))] _ _
  refine am_Rq.if1F (show decode (am_by 103) 5 = .ok (.ifCond .eq 18, 3) by decide +kernel) (by decide) (by rw [am_b_eq, rg_le (by omega) hc (by omega)]; rfl) ?_
  refine am_Rq.blk (is := [(.iload_n 1, 1)]) (q := (9, [some (.ref 238), some (.int (nI c)), some (.int (nI k)), some (.int (nI n)), none, none, none], [.int (nI c)])) (by decide +kernel) rfl ?_
  dsimp only
  refine am_Rq.if1F (show decode (am_by 103) 9 = .ok (.ifCond .le 14, 3) by decide +kernel) (by decide) (by rw [nm_le0 (by omega)]; exact decide_eq_false (by omega)) ?_
  refine am_Rq.blk (is := [(.iload_n 2, 1)]) (q := (13, [some (.ref 238), some (.int (nI c)), some (.int (nI k)), some (.int (nI n)), none, none, none], [.int (nI k)])) (by decide +kernel) rfl ?_
  dsimp only
  refine am_Rq.callS (show decode (am_by 103) 13 = .ok (.invokestatic 68, 3) by decide +kernel) rfl [.int (nI k)] [] rfl rfl (Nat.le_of_ble_eq_true rfl) rfl rfl (m_isHolder (nI k)) ?_
  rintro hq _ ⟨e1, rfl⟩
  rw [e1]
  clear e1 hq
  show am_Rq _ 103 16 [some (.ref 238), some (.int (nI c)), some (.int (nI k)), some (.int (nI n)), none, none, none] [.int (nI (am_b (rg_r (nI 0) (nI 7) (nI k))))] _ _
  refine am_Rq.if1F (show decode (am_by 103) 16 = .ok (.ifCond .eq 7, 3) by decide +kernel) (by decide) (by rw [am_b_eq, rg_le (by omega) (show k ≤ 7 by omega) (by omega)]; rfl) ?_
  refine am_Rq.blk (is := [(.iconst 1, 1), (.goto 4, 3)]) (q := (24, [some (.ref 238), some (.int (nI c)), some (.int (nI k)), some (.int (nI n)), none, none, none], [.int (nI 1)])) (by decide +kernel) rfl ?_
  dsimp only
  refine am_Rq.blk (is := [(.istore 4, 2), (.iload 4, 2)]) (q := (28, [some (.ref 238), some (.int (nI c)), some (.int (nI k)), some (.int (nI n)), some (.int (nI 1)), none, none], [.int (nI 1)])) (by decide +kernel) rfl ?_
  dsimp only
  refine am_Rq.if1F (show decode (am_by 103) 28 = .ok (.ifCond .eq 30, 3) by decide +kernel) (by decide) (rfl) ?_
  refine am_Rq.blk (is := [(.iload_n 3, 1), (.iconst 1, 1)]) (q := (33, [some (.ref 238), some (.int (nI c)), some (.int (nI k)), some (.int (nI n)), some (.int (nI 1)), none, none], [.int (nI 1), .int (nI n)])) (by decide +kernel) rfl ?_
  dsimp only
  refine am_Rq.if2F (show decode (am_by 103) 33 = .ok (.if_icmp .lt 25, 3) by decide +kernel) (by decide) (by rw [nm_lt (by omega) (by omega)]; exact decide_eq_false (by omega)) ?_
  refine am_Rq.blk (is := [(.aload_n 0, 1)]) (q := (37, [some (.ref 238), some (.int (nI c)), some (.int (nI k)), some (.int (nI n)), some (.int (nI 1)), none, none], [.ref 238])) (by decide +kernel) rfl ?_
  dsimp only
  refine am_Rq.getf (v := .ref 239) (show decode (am_by 103) 37 = .ok (.getfield 7, 3) by decide +kernel) rfl hM rfl ?_
  refine am_Rq.blk (is := [(.bipush 40, 2), (.bipush 8, 2), (.iload_n 1, 1), (.imul, 1)]) (q := (46, [some (.ref 238), some (.int (nI c)), some (.int (nI k)), some (.int (nI n)), some (.int (nI 1)), none, none], [.int ((nI 8) * (nI c)), .int (nI 40), .ref 239])) (by decide +kernel) rfl ?_
  dsimp only
  rw [show (nI 8) * (nI c) = nI (8 * c) from nm_imul _ _]
  refine am_Rq.blk (is := [(.iadd, 1)]) (q := (47, [some (.ref 238), some (.int (nI c)), some (.int (nI k)), some (.int (nI n)), some (.int (nI 1)), none, none], [.int ((nI 40) + (nI (8 * c))), .ref 239])) (by decide +kernel) rfl ?_
  dsimp only
  rw [show (nI 40) + (nI (8 * c)) = nI (40 + (8 * c)) from nI_add _ _]
  refine am_Rq.blk (is := [(.iload_n 2, 1), (.iadd, 1)]) (q := (49, [some (.ref 238), some (.int (nI c)), some (.int (nI k)), some (.int (nI n)), some (.int (nI 1)), none, none], [.int ((nI (40 + (8 * c))) + (nI k)), .ref 239])) (by decide +kernel) rfl ?_
  dsimp only
  rw [show (nI (40 + (8 * c))) + (nI k) = nI ((40 + (8 * c)) + k) from nI_add _ _]
  refine am_Rq.ial (k := (40 + (8 * c)) + k) (show decode (am_by 103) 49 = .ok (.iaload, 1) by decide +kernel) hS (by omega) (by omega) ?_
  refine am_Rq.blk (is := [(.iload_n 3, 1)]) (q := (51, [some (.ref 238), some (.int (nI c)), some (.int (nI k)), some (.int (nI n)), some (.int (nI 1)), none, none], [.int (nI n), .int (nI (s ((40 + (8 * c)) + k)))])) (by decide +kernel) rfl ?_
  dsimp only
  refine am_Rq.if2F (show decode (am_by 103) 51 = .ok (.if_icmp .lt 7, 3) by decide +kernel) (by decide) (by rw [nm_lt (by omega) (by omega)]; exact decide_eq_false (by omega)) ?_
  refine am_Rq.blk (is := [(.iconst 1, 1), (.goto 4, 3)]) (q := (59, [some (.ref 238), some (.int (nI c)), some (.int (nI k)), some (.int (nI n)), some (.int (nI 1)), none, none], [.int (nI 1)])) (by decide +kernel) rfl ?_
  dsimp only
  refine am_Rq.blk (is := [(.istore 5, 2), (.aload_n 0, 1), (.iload 4, 2)]) (q := (64, [some (.ref 238), some (.int (nI c)), some (.int (nI k)), some (.int (nI n)), some (.int (nI 1)), some (.int (nI 1)), none], [.int (nI 1), .ref 238])) (by decide +kernel) rfl ?_
  dsimp only
  refine am_Rq.if1T (t := 71) (show decode (am_by 103) 64 = .ok (.ifCond .ne 7, 3) by decide +kernel) (by decide) (rfl) ?_
  refine am_Rq.blk (is := [(.iconst 0, 1), (.iload_n 3, 1), (.iconst 1, 1)]) (q := (74, [some (.ref 238), some (.int (nI c)), some (.int (nI k)), some (.int (nI n)), some (.int (nI 1)), some (.int (nI 1)), none], [.int (nI 1), .int (nI n), .int (nI 0), .ref 238])) (by decide +kernel) rfl ?_
  dsimp only
  refine am_Rq.if2T (t := 81) (show decode (am_by 103) 74 = .ok (.if_icmp .ge 7, 3) by decide +kernel) (by decide) (by rw [nm_ge (by omega) (by omega)]; exact decide_eq_true (by omega)) ?_
  refine am_Rq.blk (is := [(.iconst 0, 1), (.iload 5, 2)]) (q := (84, [some (.ref 238), some (.int (nI c)), some (.int (nI k)), some (.int (nI n)), some (.int (nI 1)), some (.int (nI 1)), none], [.int (nI 1), .int (nI 0), .int (nI 0), .ref 238])) (by decide +kernel) rfl ?_
  dsimp only
  refine am_Rq.if1F (show decode (am_by 103) 84 = .ok (.ifCond .eq 23, 3) by decide +kernel) (by decide) (rfl) ?_
  refine am_Rq.blk (is := [(.aload_n 0, 1), (.iconst 0, 1)]) (q := (89, [some (.ref 238), some (.int (nI c)), some (.int (nI k)), some (.int (nI n)), some (.int (nI 1)), some (.int (nI 1)), none], [.int (nI 0), .ref 238, .int (nI 0), .int (nI 0), .ref 238])) (by decide +kernel) rfl ?_
  dsimp only
  refine am_Rq.callV (show decode (am_by 103) 89 = .ok (.invokevirtual 49, 3) by decide +kernel) rfl [.int (nI 0)] [.int (nI 0), .int (nI 0), .ref 238] rfl rfl (Nat.le_of_ble_eq_true rfl) rfl hM rfl (m_issued hM hS (by omega)) ?_
  rintro hq _ ⟨e1, rfl⟩
  rw [e1]
  clear e1 hq
  show am_Rq _ 103 92 [some (.ref 238), some (.int (nI c)), some (.int (nI k)), some (.int (nI n)), some (.int (nI 1)), some (.int (nI 1)), none] [.int (nI (m_iss s 0)), .int (nI 0), .int (nI 0), .ref 238] _ _
  refine am_Rq.blk (is := [(.i2l, 1)]) (q := (93, [some (.ref 238), some (.int (nI c)), some (.int (nI k)), some (.int (nI n)), some (.int (nI 1)), some (.int (nI 1)), none], [.long ((nI (m_iss s 0)).toInt64), .int (nI 0), .int (nI 0), .ref 238])) (by decide +kernel) rfl ?_
  dsimp only
  rw [show (nI (m_iss s 0)).toInt64 = lN (m_iss s 0) from nm_l (by omega)]
  refine am_Rq.blk (is := [(.aload_n 0, 1), (.iload_n 1, 1), (.iload_n 3, 1)]) (q := (96, [some (.ref 238), some (.int (nI c)), some (.int (nI k)), some (.int (nI n)), some (.int (nI 1)), some (.int (nI 1)), none], [.int (nI n), .int (nI c), .ref 238, .long (lN (m_iss s 0)), .int (nI 0), .int (nI 0), .ref 238])) (by decide +kernel) rfl ?_
  dsimp only
  refine am_Rq.callV (show decode (am_by 103) 96 = .ok (.invokevirtual 53, 3) by decide +kernel) rfl [.int (nI c), .int (nI n)] [.long (lN (m_iss s 0)), .int (nI 0), .int (nI 0), .ref 238] rfl rfl (Nat.le_of_ble_eq_true rfl) rfl hM rfl (m_convC hM hS hb hc (by omega)) ?_
  rintro hq _ ⟨e1, rfl⟩
  rw [e1]
  clear e1 hq
  show am_Rq _ 103 99 [some (.ref 238), some (.int (nI c)), some (.int (nI k)), some (.int (nI n)), some (.int (nI 1)), some (.int (nI 1)), none] [.long (lN (m_cv s c n)), .long (lN (m_iss s 0)), .int (nI 0), .int (nI 0), .ref 238] _ _
  refine am_Rq.blk (is := [(.ladd, 1)]) (q := (100, [some (.ref 238), some (.int (nI c)), some (.int (nI k)), some (.int (nI n)), some (.int (nI 1)), some (.int (nI 1)), none], [.long ((lN (m_iss s 0)) + (lN (m_cv s c n))), .int (nI 0), .int (nI 0), .ref 238])) (by decide +kernel) rfl ?_
  dsimp only
  rw [show (lN (m_iss s 0)) + (lN (m_cv s c n)) = lN ((m_iss s 0) + (m_cv s c n)) from lN_add _ _]
  refine am_Rq.blk (is := [(.ldc2_w 75, 3), (.lcmp, 1)]) (q := (104, [some (.ref 238), some (.int (nI c)), some (.int (nI k)), some (.int (nI n)), some (.int (nI 1)), some (.int (nI 1)), none], [.int (lg_cmp (lN ((m_iss s 0) + (m_cv s c n))) (lN 20000)), .int (nI 0), .int (nI 0), .ref 238])) (by decide +kernel) rfl ?_
  dsimp only
  refine am_Rq.if1T (t := 111) (show decode (am_by 103) 104 = .ok (.ifCond .le 7, 3) by decide +kernel) (by decide) (by rw [nm_cle]; exact decide_eq_true (by rw [nm_lle (by omega) (by omega)]; omega)) ?_
  refine am_Rq.blk (is := [(.iconst 0, 1)]) (q := (112, [some (.ref 238), some (.int (nI c)), some (.int (nI k)), some (.int (nI n)), some (.int (nI 1)), some (.int (nI 1)), none], [.int (nI 0), .int (nI 0), .int (nI 0), .ref 238])) (by decide +kernel) rfl ?_
  dsimp only
  refine am_Rq.callV (show decode (am_by 103) 112 = .ok (.invokevirtual 57, 3) by decide +kernel) rfl [.int (nI (am_b false)), .int (nI (am_b false)), .int (nI (am_b false))] [] rfl rfl (Nat.le_of_ble_eq_true rfl) rfl hM rfl (m_refused hM false false false) ?_
  rintro _ _ ⟨rfl, rfl⟩
  have hM1 := am_ss (c' := (7, m_ob 0 kn co)) hM
  have hS1 := (am_sn (c' := (7, m_ob 0 kn co)) (show 238 ≠ 239 by decide)).trans hS
  show am_Rq _ 103 115 [some (.ref 238), some (.int (nI c)), some (.int (nI k)), some (.int (nI n)), some (.int (nI 1)), some (.int (nI 1)), none] [.int (nI (am_b false))] _ _
  refine am_Rq.if1T (t := 120) (show decode (am_by 103) 115 = .ok (.ifCond .eq 5, 3) by decide +kernel) (by decide) (rfl) ?_
  refine am_Rq.blk (is := [(.aload_n 0, 1)]) (q := (121, [some (.ref 238), some (.int (nI c)), some (.int (nI k)), some (.int (nI n)), some (.int (nI 1)), some (.int (nI 1)), none], [.ref 238])) (by decide +kernel) rfl ?_
  dsimp only
  have hF1 := (am_sn (c' := (7, m_ob 0 kn co)) (show 238 ≠ 240 by decide)).trans hF
  refine am_Rq.callV (show decode (am_by 103) 121 = .ok (.invokevirtual 61, 3) by decide +kernel) rfl [] [] rfl rfl (Nat.le_of_ble_eq_true rfl) rfl hM1 rfl (m_remember hM1 hS1 hF1 hkn) ?_
  rintro hp2 _ ⟨rfl, hM2, ⟨f1, hF2, hF3, hF4⟩, hf2⟩
  have hS2 := (hf2.2.2 239 (fun q => by omega)).trans hS1
  have hfr : am_fr (fun x => 238 ≤ x ∧ x < 241) hp hp2 := ((am_fr.rf (A := fun x => 238 ≤ x ∧ x < 241)).set (c' := (7, m_ob 0 kn co)) ⟨by decide, by decide⟩ hM rfl).trans (hf2.mono (A' := fun x => 238 ≤ x ∧ x < 241) (fun x q => by rcases q with q | q <;> subst q <;> exact ⟨by decide, by decide⟩))
  show am_Rq _ 103 124 [some (.ref 238), some (.int (nI c)), some (.int (nI k)), some (.int (nI n)), some (.int (nI 1)), some (.int (nI 1)), none] [] _ _
  refine am_Rq.blk (is := [(.aload_n 0, 1), (.iload_n 1, 1), (.iload_n 3, 1)]) (q := (127, [some (.ref 238), some (.int (nI c)), some (.int (nI k)), some (.int (nI n)), some (.int (nI 1)), some (.int (nI 1)), none], [.int (nI n), .int (nI c), .ref 238])) (by decide +kernel) rfl ?_
  dsimp only
  refine am_Rq.callV (show decode (am_by 103) 127 = .ok (.invokevirtual 53, 3) by decide +kernel) rfl [.int (nI c), .int (nI n)] [] rfl rfl (Nat.le_of_ble_eq_true rfl) rfl hM2 rfl (m_convC hM2 hS2 hb hc (by omega)) ?_
  rintro hq _ ⟨e1, rfl⟩
  rw [e1]
  clear e1 hq
  show am_Rq _ 103 130 [some (.ref 238), some (.int (nI c)), some (.int (nI k)), some (.int (nI n)), some (.int (nI 1)), some (.int (nI 1)), none] [.long (lN (m_cv s c n))] _ _
  refine am_Rq.blk (is := [(.l2i, 1)]) (q := (131, [some (.ref 238), some (.int (nI c)), some (.int (nI k)), some (.int (nI n)), some (.int (nI 1)), some (.int (nI 1)), none], [.int ((lN (m_cv s c n)).toInt32)])) (by decide +kernel) rfl ?_
  dsimp only
  rw [show (lN (m_cv s c n)).toInt32 = nI (m_cv s c n) from nm_i _]
  refine am_Rq.blk (is := [(.istore 6, 2), (.aload_n 0, 1)]) (q := (134, [some (.ref 238), some (.int (nI c)), some (.int (nI k)), some (.int (nI n)), some (.int (nI 1)), some (.int (nI 1)), some (.int (nI (m_cv s c n)))], [.ref 238])) (by decide +kernel) rfl ?_
  dsimp only
  refine am_Rq.getf (v := .ref 239) (show decode (am_by 103) 134 = .ok (.getfield 7, 3) by decide +kernel) rfl hM2 rfl ?_
  refine am_Rq.blk (is := [(.bipush 40, 2), (.bipush 8, 2), (.iload_n 1, 1), (.imul, 1)]) (q := (143, [some (.ref 238), some (.int (nI c)), some (.int (nI k)), some (.int (nI n)), some (.int (nI 1)), some (.int (nI 1)), some (.int (nI (m_cv s c n)))], [.int ((nI 8) * (nI c)), .int (nI 40), .ref 239])) (by decide +kernel) rfl ?_
  dsimp only
  rw [show (nI 8) * (nI c) = nI (8 * c) from nm_imul _ _]
  refine am_Rq.blk (is := [(.iadd, 1)]) (q := (144, [some (.ref 238), some (.int (nI c)), some (.int (nI k)), some (.int (nI n)), some (.int (nI 1)), some (.int (nI 1)), some (.int (nI (m_cv s c n)))], [.int ((nI 40) + (nI (8 * c))), .ref 239])) (by decide +kernel) rfl ?_
  dsimp only
  rw [show (nI 40) + (nI (8 * c)) = nI (40 + (8 * c)) from nI_add _ _]
  refine am_Rq.blk (is := [(.iload_n 2, 1), (.iadd, 1)]) (q := (146, [some (.ref 238), some (.int (nI c)), some (.int (nI k)), some (.int (nI n)), some (.int (nI 1)), some (.int (nI 1)), some (.int (nI (m_cv s c n)))], [.int ((nI (40 + (8 * c))) + (nI k)), .ref 239])) (by decide +kernel) rfl ?_
  dsimp only
  rw [show (nI (40 + (8 * c))) + (nI k) = nI ((40 + (8 * c)) + k) from nI_add _ _]
  refine am_Rq.blk (is := [(.dup2, 1)]) (q := (147, [some (.ref 238), some (.int (nI c)), some (.int (nI k)), some (.int (nI n)), some (.int (nI 1)), some (.int (nI 1)), some (.int (nI (m_cv s c n)))], [.int (nI ((40 + (8 * c)) + k)), .ref 239, .int (nI ((40 + (8 * c)) + k)), .ref 239])) (by decide +kernel) rfl ?_
  dsimp only
  refine am_Rq.ial (k := (40 + (8 * c)) + k) (show decode (am_by 103) 147 = .ok (.iaload, 1) by decide +kernel) hS2 (by omega) (by omega) ?_
  refine am_Rq.blk (is := [(.iload_n 3, 1), (.isub, 1)]) (q := (150, [some (.ref 238), some (.int (nI c)), some (.int (nI k)), some (.int (nI n)), some (.int (nI 1)), some (.int (nI 1)), some (.int (nI (m_cv s c n)))], [.int ((nI (s ((40 + (8 * c)) + k))) - (nI n)), .int (nI ((40 + (8 * c)) + k)), .ref 239])) (by decide +kernel) rfl ?_
  dsimp only
  rw [show (nI (s ((40 + (8 * c)) + k))) - (nI n) = nI ((s ((40 + (8 * c)) + k)) - n) from nm_isub (by omega)]
  refine am_Rq.nas (s := s) (k := (40 + (8 * c)) + k) (v := (s ((40 + (8 * c)) + k)) - n) (show decode (am_by 103) 150 = .ok (.iastore, 1) by decide +kernel) hS2 (by omega) (by omega) (by omega) ?_
  refine am_Rq.blk (is := [(.aload_n 0, 1)]) (q := (152, [some (.ref 238), some (.int (nI c)), some (.int (nI k)), some (.int (nI n)), some (.int (nI 1)), some (.int (nI 1)), some (.int (nI (m_cv s c n)))], [.ref 238])) (by decide +kernel) rfl ?_
  dsimp only
  refine am_Rq.getf (v := .ref 239) (show decode (am_by 103) 152 = .ok (.getfield 7, 3) by decide +kernel) rfl ((am_sn (by decide)).trans hM2) rfl ?_
  refine am_Rq.blk (is := [(.bipush 40, 2), (.iload_n 2, 1), (.iadd, 1)]) (q := (159, [some (.ref 238), some (.int (nI c)), some (.int (nI k)), some (.int (nI n)), some (.int (nI 1)), some (.int (nI 1)), some (.int (nI (m_cv s c n)))], [.int ((nI 40) + (nI k)), .ref 239])) (by decide +kernel) rfl ?_
  dsimp only
  rw [show (nI 40) + (nI k) = nI (40 + k) from nI_add _ _]
  refine am_Rq.blk (is := [(.dup2, 1)]) (q := (160, [some (.ref 238), some (.int (nI c)), some (.int (nI k)), some (.int (nI n)), some (.int (nI 1)), some (.int (nI 1)), some (.int (nI (m_cv s c n)))], [.int (nI (40 + k)), .ref 239, .int (nI (40 + k)), .ref 239])) (by decide +kernel) rfl ?_
  dsimp only
  refine am_Rq.ial (k := 40 + k) (show decode (am_by 103) 160 = .ok (.iaload, 1) by decide +kernel) (am_ss hS2) (by omega) (by omega) ?_
  refine am_Rq.blk (is := [(.iload 6, 2), (.iadd, 1)]) (q := (164, [some (.ref 238), some (.int (nI c)), some (.int (nI k)), some (.int (nI n)), some (.int (nI 1)), some (.int (nI 1)), some (.int (nI (m_cv s c n)))], [.int ((nI ((va_up s ((40 + (8 * c)) + k) ((s ((40 + (8 * c)) + k)) - n)) (40 + k))) + (nI (m_cv s c n))), .int (nI (40 + k)), .ref 239])) (by decide +kernel) rfl ?_
  dsimp only
  rw [show (nI ((va_up s ((40 + (8 * c)) + k) ((s ((40 + (8 * c)) + k)) - n)) (40 + k))) + (nI (m_cv s c n)) = nI (((va_up s ((40 + (8 * c)) + k) ((s ((40 + (8 * c)) + k)) - n)) (40 + k)) + (m_cv s c n)) from nI_add _ _]
  refine am_Rq.nas (s := (va_up s ((40 + (8 * c)) + k) ((s ((40 + (8 * c)) + k)) - n))) (k := 40 + k) (v := ((va_up s ((40 + (8 * c)) + k) ((s ((40 + (8 * c)) + k)) - n)) (40 + k)) + (m_cv s c n)) (show decode (am_by 103) 164 = .ok (.iastore, 1) by decide +kernel) (am_ss hS2) (by omega) (by omega) (by omega) ?_
  refine am_Rq.blk (is := [(.iload 6, 2)]) (q := (167, [some (.ref 238), some (.int (nI c)), some (.int (nI k)), some (.int (nI n)), some (.int (nI 1)), some (.int (nI 1)), some (.int (nI (m_cv s c n)))], [.int (nI (m_cv s c n))])) (by decide +kernel) rfl ?_
  dsimp only
  refine am_Rq.ret (v := some (.int (nI (m_cv s c n)))) (show decode (am_by 103) 167 = .ok (.ireturn, 1) by decide +kernel) rfl rfl ?_
  exact ⟨_, rfl, rfl, ((am_sn (by decide)).trans ((am_sn (by decide)).trans hM2)), (am_ss (am_ss hS2)), ⟨f1, ((am_sn (by decide)).trans ((am_sn (by decide)).trans hF2)), hF3, hF4⟩, ((hfr.set ⟨by decide, by decide⟩ hS2 (by simp [am_ia_len])).set ⟨by decide, by decide⟩ (am_ss hS2) (by simp [am_ia_len]))⟩
end M10
