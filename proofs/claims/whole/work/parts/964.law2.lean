/-! The law as a whole (rows by prog/law3.py). -/
theorem s_ok0 : s_ok 0 (fun _ => 0) := by
  refine ⟨Nat.zero_le _, fun c c1 c2 => ?_, fun c hc => ?_, fun g hg => ⟨Nat.zero_le _, Nat.zero_le _, Nat.zero_le _, Nat.zero_le _, Nat.zero_le _, Nat.zero_le _, Nat.zero_le _⟩, Nat.zero_le _, Nat.zero_le _, Nat.zero_le _⟩
  · have c2 : c ≤ 0 := c2
    omega
  · have e : m_iss (fun _ => 0) c = 0 := sp_sm_zero (fun _ _ => rfl)
    rw [e]
    exact ⟨by omega, fun _ => by omega, fun _ => rfl⟩
theorem ap_k {hp : am_H} {x : am_C} {a : Nat} (h : a < hp.length) : (hp ++ [x])[a]? = hp[a]? := List.getElem?_append_left h
theorem r_and31 (x : Int32) : ∃ m : Nat, m < 32 ∧ x &&& nI 31 = nI m := by
  refine ⟨(x &&& nI 31).toBitVec.toNat, ?_, ?_⟩
  · rw [Int32.toBitVec_and, BitVec.toNat_and]
    have h : (nI 31).toBitVec.toNat = 31 := by decide
    rw [h]
    exact Nat.lt_succ_of_le Nat.and_le_right
  · rw [← Int32.toBitVec_inj]
    show (x &&& nI 31).toBitVec = BitVec.ofNat 32 (x &&& nI 31).toBitVec.toNat
    rw [BitVec.ofNat_toNat, BitVec.setWidth_eq]
section L964
theorem l_loop {L : Nat} {xs : Nat → Int32} (hL : L ≤ 3584) {hp : am_H} (h : l_St L xs hp 0) {z5 z6 : Option Value} : am_Rq 9 0 23 [some (.ref 0), some (.ref 2), some (.ref 238), some (.ref 246), some (.int (nI (7 * 0))), z5, z6] [] hp (am_Ret fun hp1 v => v = some (.int 1) ∧ hp1.length ≤ 601026 ∧ am_tot hp1 ≤ 7293034 + (L + 16)) := by
  refine am_for (n := L / 7) (fun n lo hp => ∃ z5 z6 : Option Value, lo = [some (.ref 0), some (.ref 2), some (.ref 238), some (.ref 246), some (.int (nI (7 * n))), z5, z6] ∧ l_St L xs hp n) ?_ ?_ (i := 0) (by omega) ⟨_, _, rfl, h⟩
  · rintro n lo hp hi ⟨z5, z6, rfl, h⟩ ih
    have ih2 : ∀ hp1 z5 z6, l_St L xs hp1 (n + 1) → am_Rq 9 0 23 [some (.ref 0), some (.ref 2), some (.ref 238), some (.ref 246), some (.int (nI (7 * (n + 1)))), z5, z6] [] hp1 (am_Ret fun hp1 v => v = some (.int 1) ∧ hp1.length ≤ 601026 ∧ am_tot hp1 ≤ 7293034 + (L + 16)) := fun hp1 z5 z6 h1 => ih _ _ ⟨z5, z6, rfl, h1⟩
    have hn : 7 * n + 7 ≤ L := by omega
    have h9 := h
    obtain ⟨s, f, kn, nx, ks, hs, th, h0, -⟩ := h9
    refine am_Rq.blk (is := [(.iload 4, 2), (.aload_n 0, 1)]) (q := (26, [some (.ref 0), some (.ref 2), some (.ref 238), some (.ref 246), some (.int (nI (7 * n))), z5, z6], [.ref 0, .int (nI (7 * n))])) (by decide +kernel) rfl ?_
    dsimp only
    refine am_Rq.alen (show decode (am_by 0) 26 = .ok (.arraylength, 1) by decide +kernel) h0 (by decide) ?_
    rw [am_ia_len]
    refine am_Rq.blk (is := [(.bipush 7, 2), (.isub, 1)]) (q := (30, [some (.ref 0), some (.ref 2), some (.ref 238), some (.ref 246), some (.int (nI (7 * n))), z5, z6], [.int ((nI L) - (nI 7)), .int (nI (7 * n))])) (by decide +kernel) rfl ?_
    dsimp only
    refine am_Rq.if2F (show decode (am_by 0) 30 = .ok (.if_icmp .gt 1400, 3) by decide +kernel) (by decide) (by exact decide_eq_false (by rw [nm_subLt (by omega) (by omega) (by omega)]; omega)) ?_
    refine am_Rq.blk (is := [(.aload_n 0, 1), (.iload 4, 2)]) (q := (36, [some (.ref 0), some (.ref 2), some (.ref 238), some (.ref 246), some (.int (nI (7 * n))), z5, z6], [.int (nI (7 * n)), .ref 0])) (by decide +kernel) rfl ?_
    dsimp only
    refine am_Rq.ial (k := 7 * n) (show decode (am_by 0) 36 = .ok (.iaload, 1) by decide +kernel) h0 (by omega) (by omega) ?_
    refine am_Rq.blk (is := [(.bipush 31, 2), (.iand, 1)]) (q := (40, [some (.ref 0), some (.ref 2), some (.ref 238), some (.ref 246), some (.int (nI (7 * n))), z5, z6], [.int ((xs (7 * n)) &&& (nI 31))])) (by decide +kernel) rfl ?_
    dsimp only
    obtain ⟨m, hm, em⟩ := r_and31 (xs (7 * n))
    rw [em]
    have hms : m = 0 ∨ m = 1 ∨ m = 2 ∨ m = 3 ∨ m = 4 ∨ m = 5 ∨ m = 6 ∨ m = 7 ∨ m = 8 ∨ m = 9 ∨ m = 10 ∨ m = 11 ∨ m = 12 ∨ m = 13 ∨ m = 14 ∨ m = 15 ∨ m = 16 ∨ m = 17 ∨ m = 18 ∨ m = 19 ∨ 20 ≤ m := by omega
    rcases hms with rfl | rfl | rfl | rfl | rfl | rfl | rfl | rfl | rfl | rfl | rfl | rfl | rfl | rfl | rfl | rfl | rfl | rfl | rfl | rfl | hm2
    · exact am_Rq.tsw (t := 136) (show decode (am_by 0) 40 = .ok (.tableswitch 1384 0 19 #[96, 214, 306, 398, 478, 534, 626, 682, 738, 806, 862, 875, 943, 999, 1012, 1068, 1124, 1204, 1272, 1340], 96) by decide +kernel) rfl (fun _ _ => rfl) (l_preferred hL hn h ih2)
    · exact am_Rq.tsw (t := 254) (show decode (am_by 0) 40 = .ok (.tableswitch 1384 0 19 #[96, 214, 306, 398, 478, 534, 626, 682, 738, 806, 862, 875, 943, 999, 1012, 1068, 1124, 1204, 1272, 1340], 96) by decide +kernel) rfl (fun _ _ => rfl) (l_issue hL hn h ih2)
    · exact am_Rq.tsw (t := 346) (show decode (am_by 0) 40 = .ok (.tableswitch 1384 0 19 #[96, 214, 306, 398, 478, 534, 626, 682, 738, 806, 862, 875, 943, 999, 1012, 1068, 1124, 1204, 1272, 1340], 96) by decide +kernel) rfl (fun _ _ => rfl) (l_transfer hL hn h ih2)
    · exact am_Rq.tsw (t := 438) (show decode (am_by 0) 40 = .ok (.tableswitch 1384 0 19 #[96, 214, 306, 398, 478, 534, 626, 682, 738, 806, 862, 875, 943, 999, 1012, 1068, 1124, 1204, 1272, 1340], 96) by decide +kernel) rfl (fun _ _ => rfl) (l_convert hL hn h ih2)
    · exact am_Rq.tsw (t := 518) (show decode (am_by 0) 40 = .ok (.tableswitch 1384 0 19 #[96, 214, 306, 398, 478, 534, 626, 682, 738, 806, 862, 875, 943, 999, 1012, 1068, 1124, 1204, 1272, 1340], 96) by decide +kernel) rfl (fun _ _ => rfl) (l_pool hL hn h ih2)
    · exact am_Rq.tsw (t := 574) (show decode (am_by 0) 40 = .ok (.tableswitch 1384 0 19 #[96, 214, 306, 398, 478, 534, 626, 682, 738, 806, 862, 875, 943, 999, 1012, 1068, 1124, 1204, 1272, 1340], 96) by decide +kernel) rfl (fun _ _ => rfl) (l_grant hL hn h ih2)
    · exact am_Rq.tsw (t := 666) (show decode (am_by 0) 40 = .ok (.tableswitch 1384 0 19 #[96, 214, 306, 398, 478, 534, 626, 682, 738, 806, 862, 875, 943, 999, 1012, 1068, 1124, 1204, 1272, 1340], 96) by decide +kernel) rfl (fun _ _ => rfl) (l_pass hL hn h ih2)
    · exact am_Rq.tsw (t := 722) (show decode (am_by 0) 40 = .ok (.tableswitch 1384 0 19 #[96, 214, 306, 398, 478, 534, 626, 682, 738, 806, 862, 875, 943, 999, 1012, 1068, 1124, 1204, 1272, 1340], 96) by decide +kernel) rfl (fun _ _ => rfl) (l_leave hL hn h ih2)
    · exact am_Rq.tsw (t := 778) (show decode (am_by 0) 40 = .ok (.tableswitch 1384 0 19 #[96, 214, 306, 398, 478, 534, 626, 682, 738, 806, 862, 875, 943, 999, 1012, 1068, 1124, 1204, 1272, 1340], 96) by decide +kernel) rfl (fun _ _ => rfl) (l_exercise hL hn h ih2)
    · exact am_Rq.tsw (t := 846) (show decode (am_by 0) 40 = .ok (.tableswitch 1384 0 19 #[96, 214, 306, 398, 478, 534, 626, 682, 738, 806, 862, 875, 943, 999, 1012, 1068, 1124, 1204, 1272, 1340], 96) by decide +kernel) rfl (fun _ _ => rfl) (l_vested hL hn h ih2)
    · exact am_Rq.tsw (t := 902) (show decode (am_by 0) 40 = .ok (.tableswitch 1384 0 19 #[96, 214, 306, 398, 478, 534, 626, 682, 738, 806, 862, 875, 943, 999, 1012, 1068, 1124, 1204, 1272, 1340], 96) by decide +kernel) rfl (fun _ _ => rfl) (l_granted hL hn h ih2)
    · exact am_Rq.tsw (t := 915) (show decode (am_by 0) 40 = .ok (.tableswitch 1384 0 19 #[96, 214, 306, 398, 478, 534, 626, 682, 738, 806, 862, 875, 943, 999, 1012, 1068, 1124, 1204, 1272, 1340], 96) by decide +kernel) rfl (fun _ _ => rfl) (l_held hL hn h ih2)
    · exact am_Rq.tsw (t := 983) (show decode (am_by 0) 40 = .ok (.tableswitch 1384 0 19 #[96, 214, 306, 398, 478, 534, 626, 682, 738, 806, 862, 875, 943, 999, 1012, 1068, 1124, 1204, 1272, 1340], 96) by decide +kernel) rfl (fun _ _ => rfl) (l_inIssue hL hn h ih2)
    · exact am_Rq.tsw (t := 1039) (show decode (am_by 0) 40 = .ok (.tableswitch 1384 0 19 #[96, 214, 306, 398, 478, 534, 626, 682, 738, 806, 862, 875, 943, 999, 1012, 1068, 1124, 1204, 1272, 1340], 96) by decide +kernel) rfl (fun _ _ => rfl) (l_asConverted hL hn h ih2)
    · exact am_Rq.tsw (t := 1052) (show decode (am_by 0) 40 = .ok (.tableswitch 1384 0 19 #[96, 214, 306, 398, 478, 534, 626, 682, 738, 806, 862, 875, 943, 999, 1012, 1068, 1124, 1204, 1272, 1340], 96) by decide +kernel) rfl (fun _ _ => rfl) (l_conversion hL hn h ih2)
    · exact am_Rq.tsw (t := 1108) (show decode (am_by 0) 40 = .ok (.tableswitch 1384 0 19 #[96, 214, 306, 398, 478, 534, 626, 682, 738, 806, 862, 875, 943, 999, 1012, 1068, 1124, 1204, 1272, 1340], 96) by decide +kernel) rfl (fun _ _ => rfl) (l_set hL hn h ih2)
    · exact am_Rq.tsw (t := 1164) (show decode (am_by 0) 40 = .ok (.tableswitch 1384 0 19 #[96, 214, 306, 398, 478, 534, 626, 682, 738, 806, 862, 875, 943, 999, 1012, 1068, 1124, 1204, 1272, 1340], 96) by decide +kernel) rfl (fun _ _ => rfl) (l_gets hL hn h ih2)
    · exact am_Rq.tsw (t := 1244) (show decode (am_by 0) 40 = .ok (.tableswitch 1384 0 19 #[96, 214, 306, 398, 478, 534, 626, 682, 738, 806, 862, 875, 943, 999, 1012, 1068, 1124, 1204, 1272, 1340], 96) by decide +kernel) rfl (fun _ _ => rfl) (l_brings hL hn h ih2)
    · exact am_Rq.tsw (t := 1312) (show decode (am_by 0) 40 = .ok (.tableswitch 1384 0 19 #[96, 214, 306, 398, 478, 534, 626, 682, 738, 806, 862, 875, 943, 999, 1012, 1068, 1124, 1204, 1272, 1340], 96) by decide +kernel) rfl (fun _ _ => rfl) (l_flip hL hn h ih2)
    · exact am_Rq.tsw (t := 1380) (show decode (am_by 0) 40 = .ok (.tableswitch 1384 0 19 #[96, 214, 306, 398, 478, 534, 626, 682, 738, 806, 862, 875, 943, 999, 1012, 1068, 1124, 1204, 1272, 1340], 96) by decide +kernel) rfl (fun _ _ => rfl) (l_undo hL hn h ih2)
    · refine am_Rq.tsw (t := 1424) (show decode (am_by 0) 40 = .ok (.tableswitch 1384 0 19 #[96, 214, 306, 398, 478, 534, 626, 682, 738, 806, 862, 875, 943, 999, 1012, 1068, 1124, 1204, 1272, 1340], 96) by decide +kernel) rfl (fun _ _ => ?_) (l_none hL hn h ih2)
      simp only [am_jp]
      rw [nI_toInt (by omega), if_pos (Or.inr (by omega))]
      rfl
  · rintro lo hp ⟨z5, z6, rfl, h⟩
    have h9 := h
    obtain ⟨s, f, kn, nx, ks, hs, th, h0, -, -, -, -, l1, l2, l3⟩ := h9
    refine am_Rq.blk (is := [(.iload 4, 2), (.aload_n 0, 1)]) (q := (26, [some (.ref 0), some (.ref 2), some (.ref 238), some (.ref 246), some (.int (nI (7 * (L / 7)))), z5, z6], [.ref 0, .int (nI (7 * (L / 7)))])) (by decide +kernel) rfl ?_
    dsimp only
    refine am_Rq.alen (show decode (am_by 0) 26 = .ok (.arraylength, 1) by decide +kernel) h0 (by decide) ?_
    rw [am_ia_len]
    refine am_Rq.blk (is := [(.bipush 7, 2), (.isub, 1)]) (q := (30, [some (.ref 0), some (.ref 2), some (.ref 238), some (.ref 246), some (.int (nI (7 * (L / 7)))), z5, z6], [.int ((nI L) - (nI 7)), .int (nI (7 * (L / 7)))])) (by decide +kernel) rfl ?_
    dsimp only
    refine am_Rq.if2T (t := 1430) (show decode (am_by 0) 30 = .ok (.if_icmp .gt 1400, 3) by decide +kernel) (by decide) (by exact decide_eq_true (by rw [nm_subLt (by omega) (by omega) (by omega)]; omega)) ?_
    refine am_Rq.blk (is := [(.iconst 1, 1)]) (q := (1431, [some (.ref 0), some (.ref 2), some (.ref 238), some (.ref 246), some (.int (nI (7 * (L / 7)))), z5, z6], [.int (nI 1)])) (by decide +kernel) rfl ?_
    dsimp only
    refine am_Rq.ret (v := some (.int (nI 1))) (show decode (am_by 0) 1431 = .ok (.ireturn, 1) by decide +kernel) rfl rfl ?_
    exact ⟨_, rfl, rfl, by omega, by omega⟩
theorem l_law {L : Nat} {xs : Nat → Int32} (hL : L ≤ 3584) : am_Rq 9 0 0 (am_en [.ref 0] 7) [] (am_hp0 L xs) (am_Ret fun hp1 v => v = some (.int 1) ∧ hp1.length ≤ 601026 ∧ am_tot hp1 ≤ 7293034 + (L + 16)) := by
  have h0 : (am_hp0 L xs)[0]? = some (100, am_ia xs L) := rfl
  have hT : (am_hp0 L xs)[1]? = some (100, am_ia (fun k => nI (sl_ord k)) 16) := by
    show some _ = _
    rw [show am_sets.map (fun n => Value.int (nI n)) = am_ia (fun k => nI (sl_ord k)) 16 by decide]
  have hN : (am_hp0 L xs).length = 2 := rfl
  have ht := am_hp0_tot L xs
  generalize am_hp0 L xs = hp at h0 hT hN ht ⊢
  show am_Rq _ 0 0 [some (.ref 0), none, none, none, none, none, none] [] _ _
  have hx0 : ex (fun x => False) hp hp 0 0 := ex.rf
  refine am_Rq.new (ci := 0) (show decode (am_by 0) 0 = .ok (.new 8, 3) by decide +kernel) rfl rfl ?_
  skip
  show am_Rq _ _ _ _ (.ref (List.length _) :: _) (_ ++ [(0, [.null, .null, .null])]) _
  rw [hN]
  have hc1_0 := ap_old (x := (0, [.null, .null, .null])) h0
  have hc1_1 := ap_old (x := (0, [.null, .null, .null])) hT
  have hn1 := ap_new (c := (0, [.null, .null, .null])) hN
  have hx1 := hx0.push (0, [.null, .null, .null])
  have hl1 : List.length _ = 3 := ap_len (c := (0, [.null, .null, .null])) hN
  generalize hze1 : (_ ++ [_] : am_H) = hz1 at hn1 hx1 hl1 hc1_0 hc1_1 ⊢
  clear hze1
  refine am_Rq.blk (is := [(.dup, 1)]) (q := (4, [some (.ref 0), none, none, none, none, none, none], [.ref 2, .ref 2])) (by decide +kernel) rfl ?_
  dsimp only
  refine am_Rq.callI (show decode (am_by 0) 4 = .ok (.invokespecial 75, 3) by decide +kernel) rfl [.ref 2] rfl rfl (Nat.le_of_ble_eq_true rfl) rfl rfl (n_ss (d := 5) hc1_1 hn1 hl1) ?_
  rintro hpa _ ⟨rfl, aC, al, aax⟩
  have aa_0 := (aax.2.2 0 (by rw [hl1]; omega) (by omega)).trans hc1_0
  have aay := hx1.trans aax (fun q q1 q2 => by have hxl := hx1.1; omega)
  show am_Rq _ 0 7 [some (.ref 0), none, none, none, none, none, none] [.ref 2] _ _
  refine am_Rq.blk (is := [(.astore_n 1, 1)]) (q := (8, [some (.ref 0), some (.ref 2), none, none, none, none, none], [])) (by decide +kernel) rfl ?_
  dsimp only
  refine am_Rq.new (ci := 7) (show decode (am_by 0) 8 = .ok (.new 76, 3) by decide +kernel) rfl rfl ?_
  skip
  show am_Rq _ _ _ _ (.ref (List.length _) :: _) (_ ++ [(7, [.int (nI 0), .null, .null, .int (nI 0), .null, .null, .null, .null, .long (lN 0), .null])]) _
  rw [al]
  have hc2_0 := ap_old (x := (7, [.int (nI 0), .null, .null, .int (nI 0), .null, .null, .null, .null, .long (lN 0), .null])) aa_0
  have aC2 := aC.kept (fun a a1 a2 => ap_k (x := (7, [.int (nI 0), .null, .null, .int (nI 0), .null, .null, .null, .null, .long (lN 0), .null])) (by omega))
  have hn2 := ap_new (c := (7, [.int (nI 0), .null, .null, .int (nI 0), .null, .null, .null, .null, .long (lN 0), .null])) al
  have hx2 := aay.push (7, [.int (nI 0), .null, .null, .int (nI 0), .null, .null, .null, .null, .long (lN 0), .null])
  have hl2 : List.length _ = 239 := ap_len (c := (7, [.int (nI 0), .null, .null, .int (nI 0), .null, .null, .null, .null, .long (lN 0), .null])) al
  generalize hze2 : (_ ++ [_] : am_H) = hz2 at hn2 hx2 hl2 hc2_0 aC2 ⊢
  clear hze2
  refine am_Rq.blk (is := [(.dup, 1)]) (q := (12, [some (.ref 0), some (.ref 2), none, none, none, none, none], [.ref 238, .ref 238])) (by decide +kernel) rfl ?_
  dsimp only
  refine am_Rq.callI (show decode (am_by 0) 12 = .ok (.invokespecial 78, 3) by decide +kernel) rfl [.ref 238] rfl rfl (Nat.le_of_ble_eq_true rfl) rfl rfl (n_mo (d := 8) hn2 hl2) ?_
  rintro hpb _ ⟨rfl, bM, bl, bbx⟩
  have bb_0 := (bbx.2.2 0 (by rw [hl2]; omega) (by omega)).trans hc2_0
  have bby := hx2.trans bbx (fun q q1 q2 => by have hxl := hx2.1; omega)
  have bC := aC2.kept (fun a a1 a2 => bbx.2.2 a (by rw [hl2]; omega) (by omega))
  show am_Rq _ 0 15 [some (.ref 0), some (.ref 2), none, none, none, none, none] [.ref 238] _ _
  refine am_Rq.blk (is := [(.astore_n 2, 1), (.iconst 1, 1)]) (q := (17, [some (.ref 0), some (.ref 2), some (.ref 238), none, none, none, none], [.int (nI 1)])) (by decide +kernel) rfl ?_
  dsimp only
  refine am_Rq.nwL (n := 1) (show decode (am_by 0) 17 = .ok (.newarray .long, 2) by decide +kernel) (by omega) ?_
  skip
  show am_Rq _ _ _ _ (.ref (List.length _) :: _) (_ ++ [(101, (am_la (fun _ => lN 0) 1))]) _
  rw [bl]
  have hc3_0 := ap_old (x := (101, (am_la (fun _ => lN 0) 1))) bb_0
  have bC3 := bC.kept (fun a a1 a2 => ap_k (x := (101, (am_la (fun _ => lN 0) 1))) (by omega))
  have bM3 := bM.kept (fun a a1 a2 => ap_k (x := (101, (am_la (fun _ => lN 0) 1))) (by omega))
  have hn3 := ap_new (c := (101, (am_la (fun _ => lN 0) 1))) bl
  have hx3 := bby.push (101, (am_la (fun _ => lN 0) 1))
  have hl3 : List.length _ = 247 := ap_len (c := (101, (am_la (fun _ => lN 0) 1))) bl
  generalize hze3 : (_ ++ [_] : am_H) = hz3 at hn3 hx3 hl3 hc3_0 bC3 bM3 ⊢
  clear hze3
  refine am_Rq.blk (is := [(.astore_n 3, 1), (.iconst 0, 1), (.istore 4, 2)]) (q := (23, [some (.ref 0), some (.ref 2), some (.ref 238), some (.ref 246), some (.int (nI 0)), none, none], [])) (by decide +kernel) rfl ?_
  dsimp only
  have hxt := hx3.2.1
  simp only [am_la_len, List.length_cons, List.length_nil] at hxt
  exact l_loop hL ⟨fun _ => 0, fun _ => nI 0, 0, 0, fun _ => t00, fun _ _ => 0, 0, hc3_0, bC3, bM3, ⟨_, hn3⟩, ⟨s_ok0, by omega, by omega, fun i hi => by omega⟩, by rw [hl3]; omega, by rw [hl3]; omega, by rw [hxt, ht]; omega⟩
end L964
