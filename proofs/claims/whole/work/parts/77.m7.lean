/-! The reference: granted, transfer (rows by prog/m7.py). -/
section M7
variable {d : Nat} {hp : am_H}
theorem m_granted {th kn co : Nat} (hM : hp[238]? = some (7, [.int (nI th), .ref 239, .ref 240, .int (nI kn), .ref 241, .ref 242, .ref 243, .ref 244, .long (lN co), .ref 245])) {s : Nat → Nat} (hS : hp[239]? = some (100, am_ia (fun i => nI (s i)) 160)) (h82 : s 82 ≤ 10) : am_Rq (d + 2) 114 0 (am_en [.ref 238] 1) [] hp (am_Ret fun hp1 v => hp1 = hp.set 238 (7, m_ob 0 kn co) ∧ v = some (.int (nI (sp_sm (fun g => s (83 + 7 * g + 1)) (s 82))))) := by
  show am_Rq _ 114 0 [some (.ref 238)] [] _ _
  refine am_Rq.blk (is := [(.aload_n 0, 1), (.iconst 0, 1)]) (q := (2, [some (.ref 238)], [.int (nI 0), .ref 238])) (by decide +kernel) rfl ?_
  dsimp only
  refine am_Rq.putf (show decode (am_by 114) 2 = .ok (.putfield 36, 3) by decide +kernel) rfl hM (Nat.le_of_ble_eq_true rfl) rfl (Or.inl rfl) (by omega) ?_
  have hc1_238 := am_ss (c' := (7, [.int (nI 0), .ref 239, .ref 240, .int (nI kn), .ref 241, .ref 242, .ref 243, .ref 244, .long (lN co), .ref 245])) hM
  have hc1_239 := (am_sn (c' := (7, [.int (nI 0), .ref 239, .ref 240, .int (nI kn), .ref 241, .ref 242, .ref 243, .ref 244, .long (lN co), .ref 245])) (show 238 ≠ 239 by omega)).trans hS
  have hf1 := (am_fr.rf (A := fun q => q = 238)).set (c' := (7, [.int (nI 0), .ref 239, .ref 240, .int (nI kn), .ref 241, .ref 242, .ref 243, .ref 244, .long (lN co), .ref 245])) rfl hM rfl
  refine am_Rq.blk (is := [(.aload_n 0, 1)]) (q := (6, [some (.ref 238)], [.ref 238])) (by decide +kernel) rfl ?_
  dsimp only
  refine am_Rq.callV (show decode (am_by 114) 6 = .ok (.invokevirtual 80, 3) by decide +kernel) rfl [] [] rfl rfl (Nat.le_of_ble_eq_true rfl) rfl hc1_238 rfl (m_grantedNow hc1_238 hc1_239 h82) ?_
  rintro hq _ ⟨e1, rfl⟩
  rw [e1]
  clear e1 hq
  show am_Rq _ 114 9 [some (.ref 238)] [.int (nI (sp_sm (fun g => s (83 + 7 * g + 1)) (s 82)))] _ _
  refine am_Rq.ret (v := some (.int (nI (sp_sm (fun g => s (83 + 7 * g + 1)) (s 82))))) (show decode (am_by 114) 9 = .ok (.ireturn, 1) by decide +kernel) rfl rfl ?_
  exact ⟨_, rfl, rfl, rfl⟩
theorem m_transfer {th kn co : Nat} (hM : hp[238]? = some (7, [.int (nI th), .ref 239, .ref 240, .int (nI kn), .ref 241, .ref 242, .ref 243, .ref 244, .long (lN co), .ref 245])) {s : Nat → Nat} (hS : hp[239]? = some (100, am_ia (fun i => nI (s i)) 160)) {f : Nat → Int32} (hF : hp[240]? = some (100, am_ia f 1280)) (hkn : kn ≤ 8) {c fr to : Nat} (hc : c ≤ s 0) (hc5 : c < 5) (h0 : s 0 < 2 ^ 31) (hf : fr < 8) (ht : to < 8) (hB : ∀ i, 40 ≤ i → i < 80 → s i < 2 ^ 31) {n : Nat} (hft : fr ≠ to) (h1 : 1 ≤ n) (hn : n ≤ s (40 + 8 * c + fr)) : am_Rq (d + 2) 102 0 (am_en [.ref 238, .int (nI c), .int (nI fr), .int (nI to), .int (nI n)] 6) [] hp (am_Ret fun hp1 v => v = some (.int (nI ((va_up (va_up s (40 + 8 * c + fr) (s (40 + 8 * c + fr) - n)) (40 + 8 * c + to) ((va_up s (40 + 8 * c + fr) (s (40 + 8 * c + fr) - n)) (40 + 8 * c + to) + n)) (40 + 8 * c + to)))) ∧ m_Chg hp f kn co s (va_up (va_up s (40 + 8 * c + fr) (s (40 + 8 * c + fr) - n)) (40 + 8 * c + to) ((va_up s (40 + 8 * c + fr) (s (40 + 8 * c + fr) - n)) (40 + 8 * c + to) + n)) hp1) := by
  show am_Rq _ 102 0 [some (.ref 238), some (.int (nI c)), some (.int (nI fr)), some (.int (nI to)), some (.int (nI n)), none] [] _ _
  have hnB := hB (40 + 8 * c + fr) (by omega) (by omega)
  refine am_Rq.blk (is := [(.aload_n 0, 1), (.iload_n 1, 1)]) (q := (2, [some (.ref 238), some (.int (nI c)), some (.int (nI fr)), some (.int (nI to)), some (.int (nI n)), none], [.int (nI c), .ref 238])) (by decide +kernel) rfl ?_
  dsimp only
  refine am_Rq.callV (show decode (am_by 102) 2 = .ok (.invokevirtual 64, 3) by decide +kernel) rfl [.int (nI c)] [] rfl rfl (Nat.le_of_ble_eq_true rfl) rfl hM rfl (m_isClass hM hS (nI c)) ?_
  rintro hq _ ⟨e1, rfl⟩
  rw [e1]
  clear e1 hq
  show am_Rq _ 102 5 [some (.ref 238), some (.int (nI c)), some (.int (nI fr)), some (.int (nI to)), some (.int (nI n)), none] [.int (nI (am_b (rg_r (nI 0) (nI (s 0)) (nI c))))] _ _
  refine am_Rq.if1F (show decode (am_by 102) 5 = .ok (.ifCond .eq 21, 3) by decide +kernel) (by decide) (by rw [am_b_eq, rg_le (by omega) hc h0]; rfl) ?_
  refine am_Rq.blk (is := [(.iload_n 2, 1)]) (q := (9, [some (.ref 238), some (.int (nI c)), some (.int (nI fr)), some (.int (nI to)), some (.int (nI n)), none], [.int (nI fr)])) (by decide +kernel) rfl ?_
  dsimp only
  refine am_Rq.callS (show decode (am_by 102) 9 = .ok (.invokestatic 68, 3) by decide +kernel) rfl [.int (nI fr)] [] rfl rfl (Nat.le_of_ble_eq_true rfl) rfl rfl (m_isHolder (nI fr)) ?_
  rintro hq _ ⟨e1, rfl⟩
  rw [e1]
  clear e1 hq
  show am_Rq _ 102 12 [some (.ref 238), some (.int (nI c)), some (.int (nI fr)), some (.int (nI to)), some (.int (nI n)), none] [.int (nI (am_b (rg_r (nI 0) (nI 7) (nI fr))))] _ _
  refine am_Rq.if1F (show decode (am_by 102) 12 = .ok (.ifCond .eq 14, 3) by decide +kernel) (by decide) (by rw [am_b_eq, rg_le (by omega) (show fr ≤ 7 by omega) (by omega)]; rfl) ?_
  refine am_Rq.blk (is := [(.iload_n 3, 1)]) (q := (16, [some (.ref 238), some (.int (nI c)), some (.int (nI fr)), some (.int (nI to)), some (.int (nI n)), none], [.int (nI to)])) (by decide +kernel) rfl ?_
  dsimp only
  refine am_Rq.callS (show decode (am_by 102) 16 = .ok (.invokestatic 68, 3) by decide +kernel) rfl [.int (nI to)] [] rfl rfl (Nat.le_of_ble_eq_true rfl) rfl rfl (m_isHolder (nI to)) ?_
  rintro hq _ ⟨e1, rfl⟩
  rw [e1]
  clear e1 hq
  show am_Rq _ 102 19 [some (.ref 238), some (.int (nI c)), some (.int (nI fr)), some (.int (nI to)), some (.int (nI n)), none] [.int (nI (am_b (rg_r (nI 0) (nI 7) (nI to))))] _ _
  refine am_Rq.if1F (show decode (am_by 102) 19 = .ok (.ifCond .eq 7, 3) by decide +kernel) (by decide) (by rw [am_b_eq, rg_le (by omega) (show to ≤ 7 by omega) (by omega)]; rfl) ?_
  refine am_Rq.blk (is := [(.iconst 1, 1), (.goto 4, 3)]) (q := (27, [some (.ref 238), some (.int (nI c)), some (.int (nI fr)), some (.int (nI to)), some (.int (nI n)), none], [.int (nI 1)])) (by decide +kernel) rfl ?_
  dsimp only
  refine am_Rq.blk (is := [(.istore 5, 2), (.aload_n 0, 1), (.iload 5, 2)]) (q := (32, [some (.ref 238), some (.int (nI c)), some (.int (nI fr)), some (.int (nI to)), some (.int (nI n)), some (.int (nI 1))], [.int (nI 1), .ref 238])) (by decide +kernel) rfl ?_
  dsimp only
  refine am_Rq.if1T (t := 39) (show decode (am_by 102) 32 = .ok (.ifCond .ne 7, 3) by decide +kernel) (by decide) (rfl) ?_
  refine am_Rq.blk (is := [(.iconst 0, 1), (.iload_n 2, 1), (.iload_n 3, 1)]) (q := (42, [some (.ref 238), some (.int (nI c)), some (.int (nI fr)), some (.int (nI to)), some (.int (nI n)), some (.int (nI 1))], [.int (nI to), .int (nI fr), .int (nI 0), .ref 238])) (by decide +kernel) rfl ?_
  dsimp only
  refine am_Rq.if2F (show decode (am_by 102) 42 = .ok (.if_icmp .eq 9, 3) by decide +kernel) (by decide) (by rw [nm_eq (by omega) (by omega)]; exact decide_eq_false (by omega)) ?_
  refine am_Rq.blk (is := [(.iload 4, 2), (.iconst 1, 1)]) (q := (48, [some (.ref 238), some (.int (nI c)), some (.int (nI fr)), some (.int (nI to)), some (.int (nI n)), some (.int (nI 1))], [.int (nI 1), .int (nI n), .int (nI 0), .ref 238])) (by decide +kernel) rfl ?_
  dsimp only
  refine am_Rq.if2T (t := 55) (show decode (am_by 102) 48 = .ok (.if_icmp .ge 7, 3) by decide +kernel) (by decide) (by rw [nm_ge (by omega) (by omega)]; exact decide_eq_true (by omega)) ?_
  refine am_Rq.blk (is := [(.iconst 0, 1), (.iload 5, 2)]) (q := (58, [some (.ref 238), some (.int (nI c)), some (.int (nI fr)), some (.int (nI to)), some (.int (nI n)), some (.int (nI 1))], [.int (nI 1), .int (nI 0), .int (nI 0), .ref 238])) (by decide +kernel) rfl ?_
  dsimp only
  refine am_Rq.if1F (show decode (am_by 102) 58 = .ok (.ifCond .eq 26, 3) by decide +kernel) (by decide) (rfl) ?_
  refine am_Rq.blk (is := [(.aload_n 0, 1)]) (q := (62, [some (.ref 238), some (.int (nI c)), some (.int (nI fr)), some (.int (nI to)), some (.int (nI n)), some (.int (nI 1))], [.ref 238, .int (nI 0), .int (nI 0), .ref 238])) (by decide +kernel) rfl ?_
  dsimp only
  refine am_Rq.getf (v := .ref 239) (show decode (am_by 102) 62 = .ok (.getfield 7, 3) by decide +kernel) rfl hM rfl ?_
  refine am_Rq.blk (is := [(.bipush 40, 2), (.bipush 8, 2), (.iload_n 1, 1), (.imul, 1)]) (q := (71, [some (.ref 238), some (.int (nI c)), some (.int (nI fr)), some (.int (nI to)), some (.int (nI n)), some (.int (nI 1))], [.int ((nI 8) * (nI c)), .int (nI 40), .ref 239, .int (nI 0), .int (nI 0), .ref 238])) (by decide +kernel) rfl ?_
  dsimp only
  rw [show (nI 8) * (nI c) = nI (8 * c) from nm_imul _ _]
  refine am_Rq.blk (is := [(.iadd, 1)]) (q := (72, [some (.ref 238), some (.int (nI c)), some (.int (nI fr)), some (.int (nI to)), some (.int (nI n)), some (.int (nI 1))], [.int ((nI 40) + (nI (8 * c))), .ref 239, .int (nI 0), .int (nI 0), .ref 238])) (by decide +kernel) rfl ?_
  dsimp only
  rw [show (nI 40) + (nI (8 * c)) = nI (40 + (8 * c)) from nI_add _ _]
  refine am_Rq.blk (is := [(.iload_n 2, 1), (.iadd, 1)]) (q := (74, [some (.ref 238), some (.int (nI c)), some (.int (nI fr)), some (.int (nI to)), some (.int (nI n)), some (.int (nI 1))], [.int ((nI (40 + (8 * c))) + (nI fr)), .ref 239, .int (nI 0), .int (nI 0), .ref 238])) (by decide +kernel) rfl ?_
  dsimp only
  rw [show (nI (40 + (8 * c))) + (nI fr) = nI ((40 + (8 * c)) + fr) from nI_add _ _]
  refine am_Rq.ial (k := (40 + (8 * c)) + fr) (show decode (am_by 102) 74 = .ok (.iaload, 1) by decide +kernel) hS (by omega) (by omega) ?_
  refine am_Rq.blk (is := [(.iload 4, 2)]) (q := (77, [some (.ref 238), some (.int (nI c)), some (.int (nI fr)), some (.int (nI to)), some (.int (nI n)), some (.int (nI 1))], [.int (nI n), .int (nI (s ((40 + (8 * c)) + fr))), .int (nI 0), .int (nI 0), .ref 238])) (by decide +kernel) rfl ?_
  dsimp only
  refine am_Rq.if2T (t := 84) (show decode (am_by 102) 77 = .ok (.if_icmp .ge 7, 3) by decide +kernel) (by decide) (by rw [nm_ge (by omega) (by omega)]; exact decide_eq_true (by omega)) ?_
  refine am_Rq.blk (is := [(.iconst 0, 1)]) (q := (85, [some (.ref 238), some (.int (nI c)), some (.int (nI fr)), some (.int (nI to)), some (.int (nI n)), some (.int (nI 1))], [.int (nI 0), .int (nI 0), .int (nI 0), .ref 238])) (by decide +kernel) rfl ?_
  dsimp only
  refine am_Rq.callV (show decode (am_by 102) 85 = .ok (.invokevirtual 57, 3) by decide +kernel) rfl [.int (nI (am_b false)), .int (nI (am_b false)), .int (nI (am_b false))] [] rfl rfl (Nat.le_of_ble_eq_true rfl) rfl hM rfl (m_refused hM false false false) ?_
  rintro _ _ ⟨rfl, rfl⟩
  have hM1 := am_ss (c' := (7, m_ob 0 kn co)) hM
  have hS1 := (am_sn (c' := (7, m_ob 0 kn co)) (show 238 ≠ 239 by decide)).trans hS
  show am_Rq _ 102 88 [some (.ref 238), some (.int (nI c)), some (.int (nI fr)), some (.int (nI to)), some (.int (nI n)), some (.int (nI 1))] [.int (nI (am_b false))] _ _
  refine am_Rq.if1T (t := 93) (show decode (am_by 102) 88 = .ok (.ifCond .eq 5, 3) by decide +kernel) (by decide) (rfl) ?_
  refine am_Rq.blk (is := [(.aload_n 0, 1)]) (q := (94, [some (.ref 238), some (.int (nI c)), some (.int (nI fr)), some (.int (nI to)), some (.int (nI n)), some (.int (nI 1))], [.ref 238])) (by decide +kernel) rfl ?_
  dsimp only
  have hF1 := (am_sn (c' := (7, m_ob 0 kn co)) (show 238 ≠ 240 by decide)).trans hF
  refine am_Rq.callV (show decode (am_by 102) 94 = .ok (.invokevirtual 61, 3) by decide +kernel) rfl [] [] rfl rfl (Nat.le_of_ble_eq_true rfl) rfl hM1 rfl (m_remember hM1 hS1 hF1 hkn) ?_
  rintro hp2 _ ⟨rfl, hM2, ⟨f1, hF2, hF3, hF4⟩, hf2⟩
  have hS2 := (hf2.2.2 239 (fun q => by omega)).trans hS1
  have hfr : am_fr (fun x => 238 ≤ x ∧ x < 241) hp hp2 := ((am_fr.rf (A := fun x => 238 ≤ x ∧ x < 241)).set (c' := (7, m_ob 0 kn co)) ⟨by decide, by decide⟩ hM rfl).trans (hf2.mono (A' := fun x => 238 ≤ x ∧ x < 241) (fun x q => by rcases q with q | q <;> subst q <;> exact ⟨by decide, by decide⟩))
  show am_Rq _ 102 97 [some (.ref 238), some (.int (nI c)), some (.int (nI fr)), some (.int (nI to)), some (.int (nI n)), some (.int (nI 1))] [] _ _
  refine am_Rq.blk (is := [(.aload_n 0, 1)]) (q := (98, [some (.ref 238), some (.int (nI c)), some (.int (nI fr)), some (.int (nI to)), some (.int (nI n)), some (.int (nI 1))], [.ref 238])) (by decide +kernel) rfl ?_
  dsimp only
  refine am_Rq.getf (v := .ref 239) (show decode (am_by 102) 98 = .ok (.getfield 7, 3) by decide +kernel) rfl hM2 rfl ?_
  refine am_Rq.blk (is := [(.bipush 40, 2), (.bipush 8, 2), (.iload_n 1, 1), (.imul, 1)]) (q := (107, [some (.ref 238), some (.int (nI c)), some (.int (nI fr)), some (.int (nI to)), some (.int (nI n)), some (.int (nI 1))], [.int ((nI 8) * (nI c)), .int (nI 40), .ref 239])) (by decide +kernel) rfl ?_
  dsimp only
  rw [show (nI 8) * (nI c) = nI (8 * c) from nm_imul _ _]
  refine am_Rq.blk (is := [(.iadd, 1)]) (q := (108, [some (.ref 238), some (.int (nI c)), some (.int (nI fr)), some (.int (nI to)), some (.int (nI n)), some (.int (nI 1))], [.int ((nI 40) + (nI (8 * c))), .ref 239])) (by decide +kernel) rfl ?_
  dsimp only
  rw [show (nI 40) + (nI (8 * c)) = nI (40 + (8 * c)) from nI_add _ _]
  refine am_Rq.blk (is := [(.iload_n 2, 1), (.iadd, 1)]) (q := (110, [some (.ref 238), some (.int (nI c)), some (.int (nI fr)), some (.int (nI to)), some (.int (nI n)), some (.int (nI 1))], [.int ((nI (40 + (8 * c))) + (nI fr)), .ref 239])) (by decide +kernel) rfl ?_
  dsimp only
  rw [show (nI (40 + (8 * c))) + (nI fr) = nI ((40 + (8 * c)) + fr) from nI_add _ _]
  refine am_Rq.blk (is := [(.dup2, 1)]) (q := (111, [some (.ref 238), some (.int (nI c)), some (.int (nI fr)), some (.int (nI to)), some (.int (nI n)), some (.int (nI 1))], [.int (nI ((40 + (8 * c)) + fr)), .ref 239, .int (nI ((40 + (8 * c)) + fr)), .ref 239])) (by decide +kernel) rfl ?_
  dsimp only
  refine am_Rq.ial (k := (40 + (8 * c)) + fr) (show decode (am_by 102) 111 = .ok (.iaload, 1) by decide +kernel) hS2 (by omega) (by omega) ?_
  refine am_Rq.blk (is := [(.iload 4, 2), (.isub, 1)]) (q := (115, [some (.ref 238), some (.int (nI c)), some (.int (nI fr)), some (.int (nI to)), some (.int (nI n)), some (.int (nI 1))], [.int ((nI (s ((40 + (8 * c)) + fr))) - (nI n)), .int (nI ((40 + (8 * c)) + fr)), .ref 239])) (by decide +kernel) rfl ?_
  dsimp only
  rw [show (nI (s ((40 + (8 * c)) + fr))) - (nI n) = nI ((s ((40 + (8 * c)) + fr)) - n) from nm_isub (by omega)]
  refine am_Rq.nas (s := s) (k := (40 + (8 * c)) + fr) (v := (s ((40 + (8 * c)) + fr)) - n) (show decode (am_by 102) 115 = .ok (.iastore, 1) by decide +kernel) hS2 (by omega) (by omega) (by omega) ?_
  refine am_Rq.blk (is := [(.aload_n 0, 1)]) (q := (117, [some (.ref 238), some (.int (nI c)), some (.int (nI fr)), some (.int (nI to)), some (.int (nI n)), some (.int (nI 1))], [.ref 238])) (by decide +kernel) rfl ?_
  dsimp only
  refine am_Rq.getf (v := .ref 239) (show decode (am_by 102) 117 = .ok (.getfield 7, 3) by decide +kernel) rfl ((am_sn (by decide)).trans hM2) rfl ?_
  refine am_Rq.blk (is := [(.bipush 40, 2), (.bipush 8, 2), (.iload_n 1, 1), (.imul, 1)]) (q := (126, [some (.ref 238), some (.int (nI c)), some (.int (nI fr)), some (.int (nI to)), some (.int (nI n)), some (.int (nI 1))], [.int ((nI 8) * (nI c)), .int (nI 40), .ref 239])) (by decide +kernel) rfl ?_
  dsimp only
  rw [show (nI 8) * (nI c) = nI (8 * c) from nm_imul _ _]
  refine am_Rq.blk (is := [(.iadd, 1)]) (q := (127, [some (.ref 238), some (.int (nI c)), some (.int (nI fr)), some (.int (nI to)), some (.int (nI n)), some (.int (nI 1))], [.int ((nI 40) + (nI (8 * c))), .ref 239])) (by decide +kernel) rfl ?_
  dsimp only
  rw [show (nI 40) + (nI (8 * c)) = nI (40 + (8 * c)) from nI_add _ _]
  refine am_Rq.blk (is := [(.iload_n 3, 1), (.iadd, 1)]) (q := (129, [some (.ref 238), some (.int (nI c)), some (.int (nI fr)), some (.int (nI to)), some (.int (nI n)), some (.int (nI 1))], [.int ((nI (40 + (8 * c))) + (nI to)), .ref 239])) (by decide +kernel) rfl ?_
  dsimp only
  rw [show (nI (40 + (8 * c))) + (nI to) = nI ((40 + (8 * c)) + to) from nI_add _ _]
  refine am_Rq.blk (is := [(.dup2, 1)]) (q := (130, [some (.ref 238), some (.int (nI c)), some (.int (nI fr)), some (.int (nI to)), some (.int (nI n)), some (.int (nI 1))], [.int (nI ((40 + (8 * c)) + to)), .ref 239, .int (nI ((40 + (8 * c)) + to)), .ref 239])) (by decide +kernel) rfl ?_
  dsimp only
  refine am_Rq.ial (k := (40 + (8 * c)) + to) (show decode (am_by 102) 130 = .ok (.iaload, 1) by decide +kernel) (am_ss hS2) (by omega) (by omega) ?_
  refine am_Rq.blk (is := [(.iload 4, 2), (.iadd, 1)]) (q := (134, [some (.ref 238), some (.int (nI c)), some (.int (nI fr)), some (.int (nI to)), some (.int (nI n)), some (.int (nI 1))], [.int ((nI ((va_up s ((40 + (8 * c)) + fr) ((s ((40 + (8 * c)) + fr)) - n)) ((40 + (8 * c)) + to))) + (nI n)), .int (nI ((40 + (8 * c)) + to)), .ref 239])) (by decide +kernel) rfl ?_
  dsimp only
  rw [show (nI ((va_up s ((40 + (8 * c)) + fr) ((s ((40 + (8 * c)) + fr)) - n)) ((40 + (8 * c)) + to))) + (nI n) = nI (((va_up s ((40 + (8 * c)) + fr) ((s ((40 + (8 * c)) + fr)) - n)) ((40 + (8 * c)) + to)) + n) from nI_add _ _]
  refine am_Rq.nas (s := (va_up s ((40 + (8 * c)) + fr) ((s ((40 + (8 * c)) + fr)) - n))) (k := (40 + (8 * c)) + to) (v := ((va_up s ((40 + (8 * c)) + fr) ((s ((40 + (8 * c)) + fr)) - n)) ((40 + (8 * c)) + to)) + n) (show decode (am_by 102) 134 = .ok (.iastore, 1) by decide +kernel) (am_ss hS2) (by omega) (by omega) (by omega) ?_
  refine am_Rq.blk (is := [(.aload_n 0, 1)]) (q := (136, [some (.ref 238), some (.int (nI c)), some (.int (nI fr)), some (.int (nI to)), some (.int (nI n)), some (.int (nI 1))], [.ref 238])) (by decide +kernel) rfl ?_
  dsimp only
  refine am_Rq.getf (v := .ref 239) (show decode (am_by 102) 136 = .ok (.getfield 7, 3) by decide +kernel) rfl ((am_sn (by decide)).trans ((am_sn (by decide)).trans hM2)) rfl ?_
  refine am_Rq.blk (is := [(.bipush 40, 2), (.bipush 8, 2), (.iload_n 1, 1), (.imul, 1)]) (q := (145, [some (.ref 238), some (.int (nI c)), some (.int (nI fr)), some (.int (nI to)), some (.int (nI n)), some (.int (nI 1))], [.int ((nI 8) * (nI c)), .int (nI 40), .ref 239])) (by decide +kernel) rfl ?_
  dsimp only
  rw [show (nI 8) * (nI c) = nI (8 * c) from nm_imul _ _]
  refine am_Rq.blk (is := [(.iadd, 1)]) (q := (146, [some (.ref 238), some (.int (nI c)), some (.int (nI fr)), some (.int (nI to)), some (.int (nI n)), some (.int (nI 1))], [.int ((nI 40) + (nI (8 * c))), .ref 239])) (by decide +kernel) rfl ?_
  dsimp only
  rw [show (nI 40) + (nI (8 * c)) = nI (40 + (8 * c)) from nI_add _ _]
  refine am_Rq.blk (is := [(.iload_n 3, 1), (.iadd, 1)]) (q := (148, [some (.ref 238), some (.int (nI c)), some (.int (nI fr)), some (.int (nI to)), some (.int (nI n)), some (.int (nI 1))], [.int ((nI (40 + (8 * c))) + (nI to)), .ref 239])) (by decide +kernel) rfl ?_
  dsimp only
  rw [show (nI (40 + (8 * c))) + (nI to) = nI ((40 + (8 * c)) + to) from nI_add _ _]
  refine am_Rq.ial (k := (40 + (8 * c)) + to) (show decode (am_by 102) 148 = .ok (.iaload, 1) by decide +kernel) (am_ss (am_ss hS2)) (by omega) (by omega) ?_
  refine am_Rq.ret (v := some (.int (nI ((va_up (va_up s ((40 + (8 * c)) + fr) ((s ((40 + (8 * c)) + fr)) - n)) ((40 + (8 * c)) + to) (((va_up s ((40 + (8 * c)) + fr) ((s ((40 + (8 * c)) + fr)) - n)) ((40 + (8 * c)) + to)) + n)) ((40 + (8 * c)) + to))))) (show decode (am_by 102) 149 = .ok (.ireturn, 1) by decide +kernel) rfl rfl ?_
  exact ⟨_, rfl, rfl, ((am_sn (by decide)).trans ((am_sn (by decide)).trans hM2)), (am_ss (am_ss hS2)), ⟨f1, ((am_sn (by decide)).trans ((am_sn (by decide)).trans hF2)), hF3, hF4⟩, ((hfr.set ⟨by decide, by decide⟩ hS2 (by simp [am_ia_len])).set ⟨by decide, by decide⟩ (am_ss hS2) (by simp [am_ia_len]))⟩
end M7
