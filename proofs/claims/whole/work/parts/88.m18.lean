/-! The reference's sale: payRest, divide (rows by prog/m18.py). -/
theorem dv_out_5 {P R W M : Nat → Nat} {A : Nat} : dv_out P R W M A 5 = if sp_sm (dv_c P R W M A).2.1 5 = 0 then (dv_c P R W M A).1 else 0 := if_neg (by omega)
section M18
variable {d : Nat} {hp : am_H}
theorem m_payRest {th kn : Nat} (hM : hp[238]? = some (7, [.int (nI th), .ref 239, .ref 240, .int (nI kn), .ref 241, .ref 242, .ref 243, .ref 244, .long (lN 0), .ref 245])) {s : Nat → Nat} (hS : hp[239]? = some (100, am_ia (fun i => nI (s i)) 160)) {K : Nat} (ok : c_ok K (mt s)) (hK : K ≤ 900) {A e : Nat} (hA : A ≤ 2000000000) (he : e < 16) {f1 f2 f3 : Nat → Int64} (h1 : hp[241]? = some (101, am_la f1 8)) (h2 : hp[242]? = some (101, am_la f2 8)) (h3 : hp[243]? = some (101, am_la f3 8)) (h4 : hp[244]? = some (101, am_la (fun c => lN (dv_D (sl_P (mt s) e) (sl_R (mt s)) A 4 c)) 5)) : am_Rq (d + 4) 131 0 (am_en [.ref 238, .long (lN (dv_L (sl_P (mt s) e) (sl_R (mt s)) A 4)), .int (nI e)] 13) [] hp (am_Ret fun hp1 v => v = none ∧ hp1[238]? = some (7, [.int (nI th), .ref 239, .ref 240, .int (nI kn), .ref 241, .ref 242, .ref 243, .ref 244, .long (lN (sl_dv (mt s) A e 5)), .ref 245]) ∧ hp1[244]? = some (101, am_la (fun c => lN (sl_dv (mt s) A e c)) 5) ∧ (∃ f : Nat → Int64, hp1[241]? = some (101, am_la f 8)) ∧ (∃ f : Nat → Int64, hp1[242]? = some (101, am_la f 8)) ∧ (∃ f : Nat → Int64, hp1[243]? = some (101, am_la f 8)) ∧ am_fr (fun x => x = 238 ∨ x = 241 ∨ x = 242 ∨ x = 243 ∨ x = 244) hp hp1) := by
  show am_Rq _ 131 0 [some (.ref 238), some (.long (lN (dv_L (sl_P (mt s) e) (sl_R (mt s)) A 4))), none, some (.int (nI e)), none, none, none, none, none, none, none, none, none] [] _ _
  have hs0 := mt_s0 ok
  have hB := ok.b (by omega)
  refine am_Rq.blk (is := [(.lload_n 1, 1), (.lstore 4, 2), (.lconst 0, 1), (.lstore 6, 2), (.aload_n 0, 1)]) (q := (7, [some (.ref 238), some (.long (lN (dv_L (sl_P (mt s) e) (sl_R (mt s)) A 4))), none, some (.int (nI e)), some (.long (lN (dv_L (sl_P (mt s) e) (sl_R (mt s)) A 4))), none, some (.long (lN 0)), none, none, none, none, none, none], [.ref 238])) (by decide +kernel) rfl ?_
  dsimp only
  refine am_Rq.callV (show decode (am_by 131) 7 = .ok (.invokevirtual 96, 3) by decide +kernel) rfl [] [] rfl rfl (Nat.le_of_ble_eq_true rfl) rfl hM rfl (m_noW hM h1) ?_
  rintro hp1 _ ⟨rfl, hW1, hf1⟩
  have hc1_238 := (hf1.2.2 (238) (fun q => by omega)).trans hM
  have hc1_239 := (hf1.2.2 (239) (fun q => by omega)).trans hS
  have hc1_242 := (hf1.2.2 (242) (fun q => by omega)).trans h2
  have hc1_243 := (hf1.2.2 (243) (fun q => by omega)).trans h3
  have hc1_244 := (hf1.2.2 (244) (fun q => by omega)).trans h4
  show am_Rq _ 131 10 [some (.ref 238), some (.long (lN (dv_L (sl_P (mt s) e) (sl_R (mt s)) A 4))), none, some (.int (nI e)), some (.long (lN (dv_L (sl_P (mt s) e) (sl_R (mt s)) A 4))), none, some (.long (lN 0)), none, none, none, none, none, none] [] _ _
  refine am_Rq.blk (is := [(.iconst 0, 1), (.istore 8, 2)]) (q := (13, [some (.ref 238), some (.long (lN (dv_L (sl_P (mt s) e) (sl_R (mt s)) A 4))), none, some (.int (nI e)), some (.long (lN (dv_L (sl_P (mt s) e) (sl_R (mt s)) A 4))), none, some (.long (lN 0)), none, some (.int (nI 0)), none, none, none, none], [])) (by decide +kernel) rfl ?_
  dsimp only
  have hfT : am_fr (fun x => x = 238 ∨ x = 241 ∨ x = 242 ∨ x = 243 ∨ x = 244) hp _ := (hf1.mono (A' := fun x => x = 238 ∨ x = 241 ∨ x = 242 ∨ x = 243 ∨ x = 244) (fun x q => by omega))
  obtain ⟨hp0, hpe⟩ : ∃ x, x = hp := ⟨_, rfl⟩
  rw [← hpe] at hfT ⊢
  refine am_for (n := (s 0 + 1)) (fun i lo hp => lo = [some (.ref 238), some (.long (lN (dv_L (sl_P (mt s) e) (sl_R (mt s)) A 4))), none, some (.int (nI e)), some (.long (lN (dv_L (sl_P (mt s) e) (sl_R (mt s)) A 4))), none, some (.long (lN (sp_sm (sl_W (mt s) e) i))), none, some (.int (nI i)), none, none, none, none] ∧ (∃ g : Nat → Int64, hp[241]? = some (101, am_la g 8) ∧ ∀ k, k < 8 → g k = lN (if k < i then sl_W (mt s) e k else 0)) ∧ hp[238]? = some (7, [.int (nI th), .ref 239, .ref 240, .int (nI kn), .ref 241, .ref 242, .ref 243, .ref 244, .long (lN 0), .ref 245]) ∧ hp[239]? = some (100, (am_ia (fun i => nI (s i)) 160)) ∧ hp[242]? = some (101, (am_la f2 8)) ∧ hp[243]? = some (101, (am_la f3 8)) ∧ hp[244]? = some (101, (am_la (fun c => lN (dv_D (sl_P (mt s) e) (sl_R (mt s)) A 4 c)) 5)) ∧ am_fr (fun x => x = 238 ∨ x = 241 ∨ x = 242 ∨ x = 243 ∨ x = 244) hp0 hp) ?_ ?_ (i := 0) (by omega) ⟨rfl, ⟨_, hW1, fun k hk => by rw [if_neg (by omega)]⟩, hc1_238, hc1_239, hc1_242, hc1_243, hc1_244, hfT⟩
  · rintro i lo hp hi ⟨rfl, ⟨g, hg, hgx⟩, q8, q9, q2, q3, q4, hfq⟩ ih
    refine am_Rq.blk (is := [(.iload 8, 2), (.aload_n 0, 1)]) (q := (16, [some (.ref 238), some (.long (lN (dv_L (sl_P (mt s) e) (sl_R (mt s)) A 4))), none, some (.int (nI e)), some (.long (lN (dv_L (sl_P (mt s) e) (sl_R (mt s)) A 4))), none, some (.long (lN (sp_sm (sl_W (mt s) e) i))), none, some (.int (nI i)), none, none, none, none], [.ref 238, .int (nI i)])) (by decide +kernel) rfl ?_
    dsimp only
    refine am_Rq.getf (v := .ref 239) (show decode (am_by 131) 16 = .ok (.getfield 7, 3) by decide +kernel) rfl q8 rfl ?_
    refine am_Rq.blk (is := [(.iconst 0, 1)]) (q := (20, [some (.ref 238), some (.long (lN (dv_L (sl_P (mt s) e) (sl_R (mt s)) A 4))), none, some (.int (nI e)), some (.long (lN (dv_L (sl_P (mt s) e) (sl_R (mt s)) A 4))), none, some (.long (lN (sp_sm (sl_W (mt s) e) i))), none, some (.int (nI i)), none, none, none, none], [.int (nI 0), .ref 239, .int (nI i)])) (by decide +kernel) rfl ?_
    dsimp only
    refine am_Rq.ial (k := 0) (show decode (am_by 131) 20 = .ok (.iaload, 1) by decide +kernel) q9 (by omega) (by omega) ?_
    refine am_Rq.if2F (show decode (am_by 131) 21 = .ok (.if_icmp .gt 64, 3) by decide +kernel) (by decide) (by rw [nm_gt (by omega) (by omega)]; exact decide_eq_false (by omega)) ?_
    refine am_Rq.blk (is := [(.iload 8, 2)]) (q := (26, [some (.ref 238), some (.long (lN (dv_L (sl_P (mt s) e) (sl_R (mt s)) A 4))), none, some (.int (nI e)), some (.long (lN (dv_L (sl_P (mt s) e) (sl_R (mt s)) A 4))), none, some (.long (lN (sp_sm (sl_W (mt s) e) i))), none, some (.int (nI i)), none, none, none, none], [.int (nI i)])) (by decide +kernel) rfl ?_
    dsimp only
    refine am_Rq.if1 (t := 48) (show decode (am_by 131) 26 = .ok (.ifCond .eq 22, 3) by decide +kernel) (by decide) (fun h0 => ?_) (fun h0 => ?_)
    ·
      rw [nm_eq0 (by omega)] at h0
      have h0 := of_decide_eq_true h0
      have hsa : sl_as e i = true := by unfold sl_as; rw [decide_eq_true h0]; rfl
      refine am_Rq.blk (is := [(.aload_n 0, 1)]) (q := (49, [some (.ref 238), some (.long (lN (dv_L (sl_P (mt s) e) (sl_R (mt s)) A 4))), none, some (.int (nI e)), some (.long (lN (dv_L (sl_P (mt s) e) (sl_R (mt s)) A 4))), none, some (.long (lN (sp_sm (sl_W (mt s) e) i))), none, some (.int (nI i)), none, none, none, none], [.ref 238])) (by decide +kernel) rfl ?_
      dsimp only
      refine am_Rq.getf (v := .ref 241) (show decode (am_by 131) 49 = .ok (.getfield 16, 3) by decide +kernel) rfl q8 rfl ?_
      refine am_Rq.blk (is := [(.iload 8, 2), (.aload_n 0, 1), (.iload 8, 2), (.aload_n 0, 1), (.iload 8, 2)]) (q := (60, [some (.ref 238), some (.long (lN (dv_L (sl_P (mt s) e) (sl_R (mt s)) A 4))), none, some (.int (nI e)), some (.long (lN (dv_L (sl_P (mt s) e) (sl_R (mt s)) A 4))), none, some (.long (lN (sp_sm (sl_W (mt s) e) i))), none, some (.int (nI i)), none, none, none, none], [.int (nI i), .ref 238, .int (nI i), .ref 238, .int (nI i), .ref 241])) (by decide +kernel) rfl ?_
      dsimp only
      refine am_Rq.callV (show decode (am_by 131) 60 = .ok (.invokevirtual 49, 3) by decide +kernel) rfl [.int (nI i)] [.int (nI i), .ref 238, .int (nI i), .ref 241] rfl rfl (Nat.le_of_ble_eq_true rfl) rfl q8 rfl (m_issT q8 q9 (c := i) (by omega)) ?_
      rintro hq _ ⟨e1, rfl⟩
      rw [e1]
      clear e1 hq
      show am_Rq _ 131 63 [some (.ref 238), some (.long (lN (dv_L (sl_P (mt s) e) (sl_R (mt s)) A 4))), none, some (.int (nI e)), some (.long (lN (dv_L (sl_P (mt s) e) (sl_R (mt s)) A 4))), none, some (.long (lN (sp_sm (sl_W (mt s) e) i))), none, some (.int (nI i)), none, none, none, none] [.int (nI (mt s (8 * i + 7))), .int (nI i), .ref 238, .int (nI i), .ref 241] _ _
      refine am_Rq.callV (show decode (am_by 131) 63 = .ok (.invokevirtual 53, 3) by decide +kernel) rfl [.int (nI i), .int (nI (mt s (8 * i + 7)))] [.int (nI i), .ref 241] rfl rfl (Nat.le_of_ble_eq_true rfl) rfl q8 rfl (m_convT q8 q9 ok hK (show i ≤ s 0 by omega)) ?_
      rintro hq _ ⟨e1, rfl⟩
      rw [e1]
      clear e1 hq
      show am_Rq _ 131 66 [some (.ref 238), some (.long (lN (dv_L (sl_P (mt s) e) (sl_R (mt s)) A 4))), none, some (.int (nI e)), some (.long (lN (dv_L (sl_P (mt s) e) (sl_R (mt s)) A 4))), none, some (.long (lN (sp_sm (sl_W (mt s) e) i))), none, some (.int (nI i)), none, none, none, none] [.long (lN (c_ic (mt s) i)), .int (nI i), .ref 241] _ _
      have hwi : sl_W (mt s) e i = c_ic (mt s) i := by unfold sl_W; rw [if_pos (Or.inl hsa)]
      rw [← hwi]
      show am_Rq _ 131 66 [some (.ref 238), some (.long (lN (dv_L (sl_P (mt s) e) (sl_R (mt s)) A 4))), none, some (.int (nI e)), some (.long (lN (dv_L (sl_P (mt s) e) (sl_R (mt s)) A 4))), none, some (.long (lN (sp_sm (sl_W (mt s) e) i))), none, some (.int (nI i)), none, none, none, none] [.long (lN (sl_W (mt s) e i)), .int (nI i), .ref 241] _ _
      refine am_Rq.las (k := i) (x := lN (sl_W (mt s) e i)) (show decode (am_by 131) 66 = .ok (.lastore, 1) by decide +kernel) hg (by omega) (by omega) (by omega) ?_
      have hc2_238 := (am_sn (c' := (101, (am_la (va_up g i (lN (sl_W (mt s) e i))) 8))) (show 241 ≠ 238 by omega)).trans q8
      have hc2_239 := (am_sn (c' := (101, (am_la (va_up g i (lN (sl_W (mt s) e i))) 8))) (show 241 ≠ 239 by omega)).trans q9
      have hc2_242 := (am_sn (c' := (101, (am_la (va_up g i (lN (sl_W (mt s) e i))) 8))) (show 241 ≠ 242 by omega)).trans q2
      have hc2_243 := (am_sn (c' := (101, (am_la (va_up g i (lN (sl_W (mt s) e i))) 8))) (show 241 ≠ 243 by omega)).trans q3
      have hc2_244 := (am_sn (c' := (101, (am_la (va_up g i (lN (sl_W (mt s) e i))) 8))) (show 241 ≠ 244 by omega)).trans q4
      have hc2_241 := am_ss (c' := (101, (am_la (va_up g i (lN (sl_W (mt s) e i))) 8))) hg
      have hf2 := (am_fr.rf (A := fun q => q = 241)).set (c' := (101, (am_la (va_up g i (lN (sl_W (mt s) e i))) 8))) rfl hg (by simp [am_ia_len, am_la_len])
      generalize hze2 : (List.set _ 241 _ : am_H) = hz2 at hf2 hc2_238 hc2_239 hc2_242 hc2_243 hc2_244 hc2_241 ⊢
      clear hze2
      refine am_Rq.blk (is := [(.lload 6, 2), (.aload_n 0, 1)]) (q := (70, [some (.ref 238), some (.long (lN (dv_L (sl_P (mt s) e) (sl_R (mt s)) A 4))), none, some (.int (nI e)), some (.long (lN (dv_L (sl_P (mt s) e) (sl_R (mt s)) A 4))), none, some (.long (lN (sp_sm (sl_W (mt s) e) i))), none, some (.int (nI i)), none, none, none, none], [.ref 238, .long (lN (sp_sm (sl_W (mt s) e) i))])) (by decide +kernel) rfl ?_
      dsimp only
      refine am_Rq.getf (v := .ref 241) (show decode (am_by 131) 70 = .ok (.getfield 16, 3) by decide +kernel) rfl hc2_238 rfl ?_
      refine am_Rq.blk (is := [(.iload 8, 2)]) (q := (75, [some (.ref 238), some (.long (lN (dv_L (sl_P (mt s) e) (sl_R (mt s)) A 4))), none, some (.int (nI e)), some (.long (lN (dv_L (sl_P (mt s) e) (sl_R (mt s)) A 4))), none, some (.long (lN (sp_sm (sl_W (mt s) e) i))), none, some (.int (nI i)), none, none, none, none], [.int (nI i), .ref 241, .long (lN (sp_sm (sl_W (mt s) e) i))])) (by decide +kernel) rfl ?_
      dsimp only
      refine am_Rq.lal (k := i) (show decode (am_by 131) 75 = .ok (.laload, 1) by decide +kernel) hc2_241 (by omega) (by omega) ?_
      rw [va_up_self]
      refine am_Rq.blk (is := [(.ladd, 1)]) (q := (77, [some (.ref 238), some (.long (lN (dv_L (sl_P (mt s) e) (sl_R (mt s)) A 4))), none, some (.int (nI e)), some (.long (lN (dv_L (sl_P (mt s) e) (sl_R (mt s)) A 4))), none, some (.long (lN (sp_sm (sl_W (mt s) e) i))), none, some (.int (nI i)), none, none, none, none], [.long ((lN (sp_sm (sl_W (mt s) e) i)) + (lN (sl_W (mt s) e i)))])) (by decide +kernel) rfl ?_
      dsimp only
      rw [show (lN (sp_sm (sl_W (mt s) e) i)) + (lN (sl_W (mt s) e i)) = lN ((sp_sm (sl_W (mt s) e) i) + (sl_W (mt s) e i)) from lN_add _ _]
      refine am_Rq.blk (is := [(.lstore 6, 2), (.iinc 8 1, 3)]) (q := (82, [some (.ref 238), some (.long (lN (dv_L (sl_P (mt s) e) (sl_R (mt s)) A 4))), none, some (.int (nI e)), some (.long (lN (dv_L (sl_P (mt s) e) (sl_R (mt s)) A 4))), none, some (.long (lN ((sp_sm (sl_W (mt s) e) i) + (sl_W (mt s) e i)))), none, some (.int ((nI i) + (nI 1))), none, none, none, none], [])) (by decide +kernel) rfl ?_
      dsimp only
      rw [show (nI i) + (nI 1) = nI (i + 1) from nI_add _ _]
      refine am_Rq.blk (is := [(.goto (-69), 3)]) (q := (13, [some (.ref 238), some (.long (lN (dv_L (sl_P (mt s) e) (sl_R (mt s)) A 4))), none, some (.int (nI e)), some (.long (lN (dv_L (sl_P (mt s) e) (sl_R (mt s)) A 4))), none, some (.long (lN ((sp_sm (sl_W (mt s) e) i) + (sl_W (mt s) e i)))), none, some (.int (nI (i + 1))), none, none, none, none], [])) (by decide +kernel) rfl ?_
      dsimp only
      refine ih _ _ ⟨rfl, ⟨_, hc2_241, fun k hk => ?_⟩, hc2_238, hc2_239, hc2_242, hc2_243, hc2_244, (hfq.trans (hf2.mono (A' := fun x => x = 238 ∨ x = 241 ∨ x = 242 ∨ x = 243 ∨ x = 244) (fun x q => by omega)))⟩
      by_cases ek : k = i
      · subst ek
        rw [va_up_self, if_pos (by omega)]
      · rw [va_up_ne _ _ ek, hgx k hk]
        by_cases el : k < i
        · rw [if_pos el, if_pos (by omega)]
        · rw [if_neg el, if_neg (by omega)]
    ·
      rw [nm_eq0 (by omega)] at h0
      have h0 := of_decide_eq_false h0
      refine am_Rq.blk (is := [(.iload_n 3, 1), (.iload 8, 2)]) (q := (32, [some (.ref 238), some (.long (lN (dv_L (sl_P (mt s) e) (sl_R (mt s)) A 4))), none, some (.int (nI e)), some (.long (lN (dv_L (sl_P (mt s) e) (sl_R (mt s)) A 4))), none, some (.long (lN (sp_sm (sl_W (mt s) e) i))), none, some (.int (nI i)), none, none, none, none], [.int (nI i), .int (nI e)])) (by decide +kernel) rfl ?_
      dsimp only
      refine am_Rq.callS (show decode (am_by 131) 32 = .ok (.invokestatic 92, 3) by decide +kernel) rfl [.int (nI e), .int (nI i)] [] rfl rfl (Nat.le_of_ble_eq_true rfl) rfl rfl (m_isIn1 he (show i < 5 by omega) (by omega)) ?_
      rintro hq _ ⟨e1, rfl⟩
      rw [e1]
      clear e1 hq
      show am_Rq _ 131 35 [some (.ref 238), some (.long (lN (dv_L (sl_P (mt s) e) (sl_R (mt s)) A 4))), none, some (.int (nI e)), some (.long (lN (dv_L (sl_P (mt s) e) (sl_R (mt s)) A 4))), none, some (.long (lN (sp_sm (sl_W (mt s) e) i))), none, some (.int (nI i)), none, none, none, none] [.int (nI (am_b (Nat.testBit e (i - 1))))] _ _
      refine am_Rq.if1 (t := 48) (show decode (am_by 131) 35 = .ok (.ifCond .ne 13, 3) by decide +kernel) (by decide) (fun hb => ?_) (fun hb => ?_)
      ·
        rw [am_b_ne] at hb
        have hsa : sl_as e i = true := by unfold sl_as; rw [hb, Bool.or_true]
        refine am_Rq.blk (is := [(.aload_n 0, 1)]) (q := (49, [some (.ref 238), some (.long (lN (dv_L (sl_P (mt s) e) (sl_R (mt s)) A 4))), none, some (.int (nI e)), some (.long (lN (dv_L (sl_P (mt s) e) (sl_R (mt s)) A 4))), none, some (.long (lN (sp_sm (sl_W (mt s) e) i))), none, some (.int (nI i)), none, none, none, none], [.ref 238])) (by decide +kernel) rfl ?_
        dsimp only
        refine am_Rq.getf (v := .ref 241) (show decode (am_by 131) 49 = .ok (.getfield 16, 3) by decide +kernel) rfl q8 rfl ?_
        refine am_Rq.blk (is := [(.iload 8, 2), (.aload_n 0, 1), (.iload 8, 2), (.aload_n 0, 1), (.iload 8, 2)]) (q := (60, [some (.ref 238), some (.long (lN (dv_L (sl_P (mt s) e) (sl_R (mt s)) A 4))), none, some (.int (nI e)), some (.long (lN (dv_L (sl_P (mt s) e) (sl_R (mt s)) A 4))), none, some (.long (lN (sp_sm (sl_W (mt s) e) i))), none, some (.int (nI i)), none, none, none, none], [.int (nI i), .ref 238, .int (nI i), .ref 238, .int (nI i), .ref 241])) (by decide +kernel) rfl ?_
        dsimp only
        refine am_Rq.callV (show decode (am_by 131) 60 = .ok (.invokevirtual 49, 3) by decide +kernel) rfl [.int (nI i)] [.int (nI i), .ref 238, .int (nI i), .ref 241] rfl rfl (Nat.le_of_ble_eq_true rfl) rfl q8 rfl (m_issT q8 q9 (c := i) (by omega)) ?_
        rintro hq _ ⟨e1, rfl⟩
        rw [e1]
        clear e1 hq
        show am_Rq _ 131 63 [some (.ref 238), some (.long (lN (dv_L (sl_P (mt s) e) (sl_R (mt s)) A 4))), none, some (.int (nI e)), some (.long (lN (dv_L (sl_P (mt s) e) (sl_R (mt s)) A 4))), none, some (.long (lN (sp_sm (sl_W (mt s) e) i))), none, some (.int (nI i)), none, none, none, none] [.int (nI (mt s (8 * i + 7))), .int (nI i), .ref 238, .int (nI i), .ref 241] _ _
        refine am_Rq.callV (show decode (am_by 131) 63 = .ok (.invokevirtual 53, 3) by decide +kernel) rfl [.int (nI i), .int (nI (mt s (8 * i + 7)))] [.int (nI i), .ref 241] rfl rfl (Nat.le_of_ble_eq_true rfl) rfl q8 rfl (m_convT q8 q9 ok hK (show i ≤ s 0 by omega)) ?_
        rintro hq _ ⟨e1, rfl⟩
        rw [e1]
        clear e1 hq
        show am_Rq _ 131 66 [some (.ref 238), some (.long (lN (dv_L (sl_P (mt s) e) (sl_R (mt s)) A 4))), none, some (.int (nI e)), some (.long (lN (dv_L (sl_P (mt s) e) (sl_R (mt s)) A 4))), none, some (.long (lN (sp_sm (sl_W (mt s) e) i))), none, some (.int (nI i)), none, none, none, none] [.long (lN (c_ic (mt s) i)), .int (nI i), .ref 241] _ _
        have hwi : sl_W (mt s) e i = c_ic (mt s) i := by unfold sl_W; rw [if_pos (Or.inl hsa)]
        rw [← hwi]
        show am_Rq _ 131 66 [some (.ref 238), some (.long (lN (dv_L (sl_P (mt s) e) (sl_R (mt s)) A 4))), none, some (.int (nI e)), some (.long (lN (dv_L (sl_P (mt s) e) (sl_R (mt s)) A 4))), none, some (.long (lN (sp_sm (sl_W (mt s) e) i))), none, some (.int (nI i)), none, none, none, none] [.long (lN (sl_W (mt s) e i)), .int (nI i), .ref 241] _ _
        refine am_Rq.las (k := i) (x := lN (sl_W (mt s) e i)) (show decode (am_by 131) 66 = .ok (.lastore, 1) by decide +kernel) hg (by omega) (by omega) (by omega) ?_
        have hc3_238 := (am_sn (c' := (101, (am_la (va_up g i (lN (sl_W (mt s) e i))) 8))) (show 241 ≠ 238 by omega)).trans q8
        have hc3_239 := (am_sn (c' := (101, (am_la (va_up g i (lN (sl_W (mt s) e i))) 8))) (show 241 ≠ 239 by omega)).trans q9
        have hc3_242 := (am_sn (c' := (101, (am_la (va_up g i (lN (sl_W (mt s) e i))) 8))) (show 241 ≠ 242 by omega)).trans q2
        have hc3_243 := (am_sn (c' := (101, (am_la (va_up g i (lN (sl_W (mt s) e i))) 8))) (show 241 ≠ 243 by omega)).trans q3
        have hc3_244 := (am_sn (c' := (101, (am_la (va_up g i (lN (sl_W (mt s) e i))) 8))) (show 241 ≠ 244 by omega)).trans q4
        have hc3_241 := am_ss (c' := (101, (am_la (va_up g i (lN (sl_W (mt s) e i))) 8))) hg
        have hf3 := (am_fr.rf (A := fun q => q = 241)).set (c' := (101, (am_la (va_up g i (lN (sl_W (mt s) e i))) 8))) rfl hg (by simp [am_ia_len, am_la_len])
        generalize hze3 : (List.set _ 241 _ : am_H) = hz3 at hf3 hc3_238 hc3_239 hc3_242 hc3_243 hc3_244 hc3_241 ⊢
        clear hze3
        refine am_Rq.blk (is := [(.lload 6, 2), (.aload_n 0, 1)]) (q := (70, [some (.ref 238), some (.long (lN (dv_L (sl_P (mt s) e) (sl_R (mt s)) A 4))), none, some (.int (nI e)), some (.long (lN (dv_L (sl_P (mt s) e) (sl_R (mt s)) A 4))), none, some (.long (lN (sp_sm (sl_W (mt s) e) i))), none, some (.int (nI i)), none, none, none, none], [.ref 238, .long (lN (sp_sm (sl_W (mt s) e) i))])) (by decide +kernel) rfl ?_
        dsimp only
        refine am_Rq.getf (v := .ref 241) (show decode (am_by 131) 70 = .ok (.getfield 16, 3) by decide +kernel) rfl hc3_238 rfl ?_
        refine am_Rq.blk (is := [(.iload 8, 2)]) (q := (75, [some (.ref 238), some (.long (lN (dv_L (sl_P (mt s) e) (sl_R (mt s)) A 4))), none, some (.int (nI e)), some (.long (lN (dv_L (sl_P (mt s) e) (sl_R (mt s)) A 4))), none, some (.long (lN (sp_sm (sl_W (mt s) e) i))), none, some (.int (nI i)), none, none, none, none], [.int (nI i), .ref 241, .long (lN (sp_sm (sl_W (mt s) e) i))])) (by decide +kernel) rfl ?_
        dsimp only
        refine am_Rq.lal (k := i) (show decode (am_by 131) 75 = .ok (.laload, 1) by decide +kernel) hc3_241 (by omega) (by omega) ?_
        rw [va_up_self]
        refine am_Rq.blk (is := [(.ladd, 1)]) (q := (77, [some (.ref 238), some (.long (lN (dv_L (sl_P (mt s) e) (sl_R (mt s)) A 4))), none, some (.int (nI e)), some (.long (lN (dv_L (sl_P (mt s) e) (sl_R (mt s)) A 4))), none, some (.long (lN (sp_sm (sl_W (mt s) e) i))), none, some (.int (nI i)), none, none, none, none], [.long ((lN (sp_sm (sl_W (mt s) e) i)) + (lN (sl_W (mt s) e i)))])) (by decide +kernel) rfl ?_
        dsimp only
        rw [show (lN (sp_sm (sl_W (mt s) e) i)) + (lN (sl_W (mt s) e i)) = lN ((sp_sm (sl_W (mt s) e) i) + (sl_W (mt s) e i)) from lN_add _ _]
        refine am_Rq.blk (is := [(.lstore 6, 2), (.iinc 8 1, 3)]) (q := (82, [some (.ref 238), some (.long (lN (dv_L (sl_P (mt s) e) (sl_R (mt s)) A 4))), none, some (.int (nI e)), some (.long (lN (dv_L (sl_P (mt s) e) (sl_R (mt s)) A 4))), none, some (.long (lN ((sp_sm (sl_W (mt s) e) i) + (sl_W (mt s) e i)))), none, some (.int ((nI i) + (nI 1))), none, none, none, none], [])) (by decide +kernel) rfl ?_
        dsimp only
        rw [show (nI i) + (nI 1) = nI (i + 1) from nI_add _ _]
        refine am_Rq.blk (is := [(.goto (-69), 3)]) (q := (13, [some (.ref 238), some (.long (lN (dv_L (sl_P (mt s) e) (sl_R (mt s)) A 4))), none, some (.int (nI e)), some (.long (lN (dv_L (sl_P (mt s) e) (sl_R (mt s)) A 4))), none, some (.long (lN ((sp_sm (sl_W (mt s) e) i) + (sl_W (mt s) e i)))), none, some (.int (nI (i + 1))), none, none, none, none], [])) (by decide +kernel) rfl ?_
        dsimp only
        refine ih _ _ ⟨rfl, ⟨_, hc3_241, fun k hk => ?_⟩, hc3_238, hc3_239, hc3_242, hc3_243, hc3_244, (hfq.trans (hf3.mono (A' := fun x => x = 238 ∨ x = 241 ∨ x = 242 ∨ x = 243 ∨ x = 244) (fun x q => by omega)))⟩
        by_cases ek : k = i
        · subst ek
          rw [va_up_self, if_pos (by omega)]
        · rw [va_up_ne _ _ ek, hgx k hk]
          by_cases el : k < i
          · rw [if_pos el, if_pos (by omega)]
          · rw [if_neg el, if_neg (by omega)]
      ·
        rw [am_b_ne] at hb
        have hsa : sl_as e i = false := by unfold sl_as; rw [decide_eq_false h0, hb]; rfl
        have b3 := hB (8 * i + 3) (by omega)
        have b3x := (ok.1 i (by omega)).2.2.2.2.1
        refine am_Rq.blk (is := [(.aload_n 0, 1), (.iload 8, 2), (.iconst 3, 1)]) (q := (42, [some (.ref 238), some (.long (lN (dv_L (sl_P (mt s) e) (sl_R (mt s)) A 4))), none, some (.int (nI e)), some (.long (lN (dv_L (sl_P (mt s) e) (sl_R (mt s)) A 4))), none, some (.long (lN (sp_sm (sl_W (mt s) e) i))), none, some (.int (nI i)), none, none, none, none], [.int (nI 3), .int (nI i), .ref 238])) (by decide +kernel) rfl ?_
        dsimp only
        refine am_Rq.callV (show decode (am_by 131) 42 = .ok (.invokevirtual 45, 3) by decide +kernel) rfl [.int (nI i), .int (nI 3)] [] rfl rfl (Nat.le_of_ble_eq_true rfl) rfl q8 rfl (m_ofT q8 q9 (c := i) (k := 3) (by omega) (by omega) (by omega) (by omega)) ?_
        rintro hq _ ⟨e1, rfl⟩
        rw [e1]
        clear e1 hq
        show am_Rq _ 131 45 [some (.ref 238), some (.long (lN (dv_L (sl_P (mt s) e) (sl_R (mt s)) A 4))), none, some (.int (nI e)), some (.long (lN (dv_L (sl_P (mt s) e) (sl_R (mt s)) A 4))), none, some (.long (lN (sp_sm (sl_W (mt s) e) i))), none, some (.int (nI i)), none, none, none, none] [.int (nI (mt s (8 * i + 3)))] _ _
        refine am_Rq.if1 (t := 79) (show decode (am_by 131) 45 = .ok (.ifCond .le 34, 3) by decide +kernel) (by decide) (fun hk => ?_) (fun hk => ?_)
        ·
          rw [nm_le0 (by omega)] at hk
          have hk := of_decide_eq_true hk
          refine am_Rq.blk (is := [(.iinc 8 1, 3)]) (q := (82, [some (.ref 238), some (.long (lN (dv_L (sl_P (mt s) e) (sl_R (mt s)) A 4))), none, some (.int (nI e)), some (.long (lN (dv_L (sl_P (mt s) e) (sl_R (mt s)) A 4))), none, some (.long (lN (sp_sm (sl_W (mt s) e) i))), none, some (.int ((nI i) + (nI 1))), none, none, none, none], [])) (by decide +kernel) rfl ?_
          dsimp only
          rw [show (nI i) + (nI 1) = nI (i + 1) from nI_add _ _]
          refine am_Rq.blk (is := [(.goto (-69), 3)]) (q := (13, [some (.ref 238), some (.long (lN (dv_L (sl_P (mt s) e) (sl_R (mt s)) A 4))), none, some (.int (nI e)), some (.long (lN (dv_L (sl_P (mt s) e) (sl_R (mt s)) A 4))), none, some (.long (lN (sp_sm (sl_W (mt s) e) i))), none, some (.int (nI (i + 1))), none, none, none, none], [])) (by decide +kernel) rfl ?_
          dsimp only
          have hz0 : sl_W (mt s) e i = 0 := by
            unfold sl_W
            rw [if_neg (by rw [hsa]; simp only [Bool.false_eq_true, false_or]; omega)]
          refine ih _ _ ⟨?_, ⟨g, hg, fun k hk => ?_⟩, q8, q9, q2, q3, q4, hfq⟩
          · simp only [sp_sm]
            rw [hz0]
            rfl
          · rw [hgx k hk]
            by_cases ek : k = i
            · subst ek
              rw [if_neg (by omega), if_pos (by omega), hz0]
            · by_cases el : k < i
              · rw [if_pos el, if_pos (by omega)]
              · rw [if_neg el, if_neg (by omega)]
        ·
          rw [nm_le0 (by omega)] at hk
          have hk := of_decide_eq_false hk
          refine am_Rq.blk (is := [(.aload_n 0, 1)]) (q := (49, [some (.ref 238), some (.long (lN (dv_L (sl_P (mt s) e) (sl_R (mt s)) A 4))), none, some (.int (nI e)), some (.long (lN (dv_L (sl_P (mt s) e) (sl_R (mt s)) A 4))), none, some (.long (lN (sp_sm (sl_W (mt s) e) i))), none, some (.int (nI i)), none, none, none, none], [.ref 238])) (by decide +kernel) rfl ?_
          dsimp only
          refine am_Rq.getf (v := .ref 241) (show decode (am_by 131) 49 = .ok (.getfield 16, 3) by decide +kernel) rfl q8 rfl ?_
          refine am_Rq.blk (is := [(.iload 8, 2), (.aload_n 0, 1), (.iload 8, 2), (.aload_n 0, 1), (.iload 8, 2)]) (q := (60, [some (.ref 238), some (.long (lN (dv_L (sl_P (mt s) e) (sl_R (mt s)) A 4))), none, some (.int (nI e)), some (.long (lN (dv_L (sl_P (mt s) e) (sl_R (mt s)) A 4))), none, some (.long (lN (sp_sm (sl_W (mt s) e) i))), none, some (.int (nI i)), none, none, none, none], [.int (nI i), .ref 238, .int (nI i), .ref 238, .int (nI i), .ref 241])) (by decide +kernel) rfl ?_
          dsimp only
          refine am_Rq.callV (show decode (am_by 131) 60 = .ok (.invokevirtual 49, 3) by decide +kernel) rfl [.int (nI i)] [.int (nI i), .ref 238, .int (nI i), .ref 241] rfl rfl (Nat.le_of_ble_eq_true rfl) rfl q8 rfl (m_issT q8 q9 (c := i) (by omega)) ?_
          rintro hq _ ⟨e1, rfl⟩
          rw [e1]
          clear e1 hq
          show am_Rq _ 131 63 [some (.ref 238), some (.long (lN (dv_L (sl_P (mt s) e) (sl_R (mt s)) A 4))), none, some (.int (nI e)), some (.long (lN (dv_L (sl_P (mt s) e) (sl_R (mt s)) A 4))), none, some (.long (lN (sp_sm (sl_W (mt s) e) i))), none, some (.int (nI i)), none, none, none, none] [.int (nI (mt s (8 * i + 7))), .int (nI i), .ref 238, .int (nI i), .ref 241] _ _
          refine am_Rq.callV (show decode (am_by 131) 63 = .ok (.invokevirtual 53, 3) by decide +kernel) rfl [.int (nI i), .int (nI (mt s (8 * i + 7)))] [.int (nI i), .ref 241] rfl rfl (Nat.le_of_ble_eq_true rfl) rfl q8 rfl (m_convT q8 q9 ok hK (show i ≤ s 0 by omega)) ?_
          rintro hq _ ⟨e1, rfl⟩
          rw [e1]
          clear e1 hq
          show am_Rq _ 131 66 [some (.ref 238), some (.long (lN (dv_L (sl_P (mt s) e) (sl_R (mt s)) A 4))), none, some (.int (nI e)), some (.long (lN (dv_L (sl_P (mt s) e) (sl_R (mt s)) A 4))), none, some (.long (lN (sp_sm (sl_W (mt s) e) i))), none, some (.int (nI i)), none, none, none, none] [.long (lN (c_ic (mt s) i)), .int (nI i), .ref 241] _ _
          have hwi : sl_W (mt s) e i = c_ic (mt s) i := by unfold sl_W; rw [if_pos (Or.inr (by omega))]
          rw [← hwi]
          show am_Rq _ 131 66 [some (.ref 238), some (.long (lN (dv_L (sl_P (mt s) e) (sl_R (mt s)) A 4))), none, some (.int (nI e)), some (.long (lN (dv_L (sl_P (mt s) e) (sl_R (mt s)) A 4))), none, some (.long (lN (sp_sm (sl_W (mt s) e) i))), none, some (.int (nI i)), none, none, none, none] [.long (lN (sl_W (mt s) e i)), .int (nI i), .ref 241] _ _
          refine am_Rq.las (k := i) (x := lN (sl_W (mt s) e i)) (show decode (am_by 131) 66 = .ok (.lastore, 1) by decide +kernel) hg (by omega) (by omega) (by omega) ?_
          have hc4_238 := (am_sn (c' := (101, (am_la (va_up g i (lN (sl_W (mt s) e i))) 8))) (show 241 ≠ 238 by omega)).trans q8
          have hc4_239 := (am_sn (c' := (101, (am_la (va_up g i (lN (sl_W (mt s) e i))) 8))) (show 241 ≠ 239 by omega)).trans q9
          have hc4_242 := (am_sn (c' := (101, (am_la (va_up g i (lN (sl_W (mt s) e i))) 8))) (show 241 ≠ 242 by omega)).trans q2
          have hc4_243 := (am_sn (c' := (101, (am_la (va_up g i (lN (sl_W (mt s) e i))) 8))) (show 241 ≠ 243 by omega)).trans q3
          have hc4_244 := (am_sn (c' := (101, (am_la (va_up g i (lN (sl_W (mt s) e i))) 8))) (show 241 ≠ 244 by omega)).trans q4
          have hc4_241 := am_ss (c' := (101, (am_la (va_up g i (lN (sl_W (mt s) e i))) 8))) hg
          have hf4 := (am_fr.rf (A := fun q => q = 241)).set (c' := (101, (am_la (va_up g i (lN (sl_W (mt s) e i))) 8))) rfl hg (by simp [am_ia_len, am_la_len])
          generalize hze4 : (List.set _ 241 _ : am_H) = hz4 at hf4 hc4_238 hc4_239 hc4_242 hc4_243 hc4_244 hc4_241 ⊢
          clear hze4
          refine am_Rq.blk (is := [(.lload 6, 2), (.aload_n 0, 1)]) (q := (70, [some (.ref 238), some (.long (lN (dv_L (sl_P (mt s) e) (sl_R (mt s)) A 4))), none, some (.int (nI e)), some (.long (lN (dv_L (sl_P (mt s) e) (sl_R (mt s)) A 4))), none, some (.long (lN (sp_sm (sl_W (mt s) e) i))), none, some (.int (nI i)), none, none, none, none], [.ref 238, .long (lN (sp_sm (sl_W (mt s) e) i))])) (by decide +kernel) rfl ?_
          dsimp only
          refine am_Rq.getf (v := .ref 241) (show decode (am_by 131) 70 = .ok (.getfield 16, 3) by decide +kernel) rfl hc4_238 rfl ?_
          refine am_Rq.blk (is := [(.iload 8, 2)]) (q := (75, [some (.ref 238), some (.long (lN (dv_L (sl_P (mt s) e) (sl_R (mt s)) A 4))), none, some (.int (nI e)), some (.long (lN (dv_L (sl_P (mt s) e) (sl_R (mt s)) A 4))), none, some (.long (lN (sp_sm (sl_W (mt s) e) i))), none, some (.int (nI i)), none, none, none, none], [.int (nI i), .ref 241, .long (lN (sp_sm (sl_W (mt s) e) i))])) (by decide +kernel) rfl ?_
          dsimp only
          refine am_Rq.lal (k := i) (show decode (am_by 131) 75 = .ok (.laload, 1) by decide +kernel) hc4_241 (by omega) (by omega) ?_
          rw [va_up_self]
          refine am_Rq.blk (is := [(.ladd, 1)]) (q := (77, [some (.ref 238), some (.long (lN (dv_L (sl_P (mt s) e) (sl_R (mt s)) A 4))), none, some (.int (nI e)), some (.long (lN (dv_L (sl_P (mt s) e) (sl_R (mt s)) A 4))), none, some (.long (lN (sp_sm (sl_W (mt s) e) i))), none, some (.int (nI i)), none, none, none, none], [.long ((lN (sp_sm (sl_W (mt s) e) i)) + (lN (sl_W (mt s) e i)))])) (by decide +kernel) rfl ?_
          dsimp only
          rw [show (lN (sp_sm (sl_W (mt s) e) i)) + (lN (sl_W (mt s) e i)) = lN ((sp_sm (sl_W (mt s) e) i) + (sl_W (mt s) e i)) from lN_add _ _]
          refine am_Rq.blk (is := [(.lstore 6, 2), (.iinc 8 1, 3)]) (q := (82, [some (.ref 238), some (.long (lN (dv_L (sl_P (mt s) e) (sl_R (mt s)) A 4))), none, some (.int (nI e)), some (.long (lN (dv_L (sl_P (mt s) e) (sl_R (mt s)) A 4))), none, some (.long (lN ((sp_sm (sl_W (mt s) e) i) + (sl_W (mt s) e i)))), none, some (.int ((nI i) + (nI 1))), none, none, none, none], [])) (by decide +kernel) rfl ?_
          dsimp only
          rw [show (nI i) + (nI 1) = nI (i + 1) from nI_add _ _]
          refine am_Rq.blk (is := [(.goto (-69), 3)]) (q := (13, [some (.ref 238), some (.long (lN (dv_L (sl_P (mt s) e) (sl_R (mt s)) A 4))), none, some (.int (nI e)), some (.long (lN (dv_L (sl_P (mt s) e) (sl_R (mt s)) A 4))), none, some (.long (lN ((sp_sm (sl_W (mt s) e) i) + (sl_W (mt s) e i)))), none, some (.int (nI (i + 1))), none, none, none, none], [])) (by decide +kernel) rfl ?_
          dsimp only
          refine ih _ _ ⟨rfl, ⟨_, hc4_241, fun k hk => ?_⟩, hc4_238, hc4_239, hc4_242, hc4_243, hc4_244, (hfq.trans (hf4.mono (A' := fun x => x = 238 ∨ x = 241 ∨ x = 242 ∨ x = 243 ∨ x = 244) (fun x q => by omega)))⟩
          by_cases ek : k = i
          · subst ek
            rw [va_up_self, if_pos (by omega)]
          · rw [va_up_ne _ _ ek, hgx k hk]
            by_cases el : k < i
            · rw [if_pos el, if_pos (by omega)]
            · rw [if_neg el, if_neg (by omega)]
  · rintro lo hp ⟨rfl, ⟨g, hg, hgx⟩, q8, q9, q2, q3, q4, hfq⟩
    refine am_Rq.blk (is := [(.iload 8, 2), (.aload_n 0, 1)]) (q := (16, [some (.ref 238), some (.long (lN (dv_L (sl_P (mt s) e) (sl_R (mt s)) A 4))), none, some (.int (nI e)), some (.long (lN (dv_L (sl_P (mt s) e) (sl_R (mt s)) A 4))), none, some (.long (lN (sp_sm (sl_W (mt s) e) (s 0 + 1)))), none, some (.int (nI (s 0 + 1))), none, none, none, none], [.ref 238, .int (nI (s 0 + 1))])) (by decide +kernel) rfl ?_
    dsimp only
    refine am_Rq.getf (v := .ref 239) (show decode (am_by 131) 16 = .ok (.getfield 7, 3) by decide +kernel) rfl q8 rfl ?_
    refine am_Rq.blk (is := [(.iconst 0, 1)]) (q := (20, [some (.ref 238), some (.long (lN (dv_L (sl_P (mt s) e) (sl_R (mt s)) A 4))), none, some (.int (nI e)), some (.long (lN (dv_L (sl_P (mt s) e) (sl_R (mt s)) A 4))), none, some (.long (lN (sp_sm (sl_W (mt s) e) (s 0 + 1)))), none, some (.int (nI (s 0 + 1))), none, none, none, none], [.int (nI 0), .ref 239, .int (nI (s 0 + 1))])) (by decide +kernel) rfl ?_
    dsimp only
    refine am_Rq.ial (k := 0) (show decode (am_by 131) 20 = .ok (.iaload, 1) by decide +kernel) q9 (by omega) (by omega) ?_
    refine am_Rq.if2T (t := 85) (show decode (am_by 131) 21 = .ok (.if_icmp .gt 64, 3) by decide +kernel) (by decide) (by rw [nm_gt (by omega) (by omega)]; exact decide_eq_true (by omega)) ?_
    refine am_Rq.blk (is := [(.iconst 1, 1), (.istore 8, 2)]) (q := (88, [some (.ref 238), some (.long (lN (dv_L (sl_P (mt s) e) (sl_R (mt s)) A 4))), none, some (.int (nI e)), some (.long (lN (dv_L (sl_P (mt s) e) (sl_R (mt s)) A 4))), none, some (.long (lN (sp_sm (sl_W (mt s) e) (s 0 + 1)))), none, some (.int (nI 1)), none, none, none, none], [])) (by decide +kernel) rfl ?_
    dsimp only
    have hWz : ∀ k, s 0 < k → k < 5 → sl_W (mt s) e k = 0 := fun k k1 k2 => by
      unfold sl_W c_ic
      rw [mt_out ok k1 k2]
      simp
    have htl : sp_sm (sl_W (mt s) e) 5 = sp_sm (sl_W (mt s) e) (s 0 + 1) := sp_sm_tail (fun k k1 k2 => hWz k (by omega) k2) (by omega)
    rw [← htl]
    have hgy : ∀ k, k < 8 → g k = lN ((fun k => if k < 5 then sl_W (mt s) e k else 0) k) := fun k hk => by
      rw [hgx k hk]
      by_cases el : k < s 0 + 1
      · rw [if_pos el]
        show _ = lN (if k < 5 then _ else 0)
        rw [if_pos (by omega)]
      · rw [if_neg el]
        show _ = lN (if k < 5 then _ else 0)
        by_cases e5 : k < 5
        · rw [if_pos e5, hWz k (by omega) e5]
        · rw [if_neg e5]
    rw [c_la_congr hgy] at hg
    refine (m_rest2 (d := d) (L0 := dv_L (sl_P (mt s) e) (sl_R (mt s)) A 4) ok hK he 5 q8 q9 q2 q3 (L1 := dv_L (sl_P (mt s) e) (sl_R (mt s)) A 4) (Nat.le_trans (dv_L_le _ _ _ _) hA) (W1 := sl_W (mt s) e) (D1 := dv_D (sl_P (mt s) e) (sl_R (mt s)) A 4) (fun c hc => sl_W_le ok hc) hg q4 (fun c _ => Or.inr rfl) (sp_ct_le _ 5)).mono (fun hp1 o u => ?_)
    obtain ⟨v, u0, u1, u2, u3, u4, u5, u6, u7⟩ := u
    subst hpe
    refine ⟨v, u0, u1, ?_, ?_, u4, u5, u6, hfq.trans u7⟩
    · rw [u2]
      unfold sl_dv
      rw [dv_out_5]
      rfl
    · rw [u3, c_la_congr (fun c hc => ?_)]
      unfold sl_dv dv_out dv_c
      rw [if_pos hc]
theorem m_divide {th kn co : Nat} (hM : hp[238]? = some (7, [.int (nI th), .ref 239, .ref 240, .int (nI kn), .ref 241, .ref 242, .ref 243, .ref 244, .long (lN co), .ref 245])) {s : Nat → Nat} (hS : hp[239]? = some (100, am_ia (fun i => nI (s i)) 160)) {K : Nat} (ok : c_ok K (mt s)) (hK : K ≤ 900) {A e : Nat} (hA : A ≤ 2000000000) (he : e < 16) {f1 f2 f3 : Nat → Int64} (h1 : hp[241]? = some (101, am_la f1 8)) (h2 : hp[242]? = some (101, am_la f2 8)) (h3 : hp[243]? = some (101, am_la f3 8)) {f4 : Nat → Int64} (h4 : hp[244]? = some (101, am_la f4 5)) : am_Rq (d + 5) 124 0 (am_en [.ref 238, .int (nI A), .int (nI e)] 4) [] hp (am_Ret fun hp1 v => v = none ∧ hp1[238]? = some (7, [.int (nI th), .ref 239, .ref 240, .int (nI kn), .ref 241, .ref 242, .ref 243, .ref 244, .long (lN (sl_dv (mt s) A e 5)), .ref 245]) ∧ hp1[244]? = some (101, am_la (fun c => lN (sl_dv (mt s) A e c)) 5) ∧ (∃ f : Nat → Int64, hp1[241]? = some (101, am_la f 8)) ∧ (∃ f : Nat → Int64, hp1[242]? = some (101, am_la f 8)) ∧ (∃ f : Nat → Int64, hp1[243]? = some (101, am_la f 8)) ∧ am_fr (fun x => x = 238 ∨ x = 241 ∨ x = 242 ∨ x = 243 ∨ x = 244) hp hp1) := by
  show am_Rq _ 124 0 [some (.ref 238), some (.int (nI A)), some (.int (nI e)), none] [] _ _
  refine am_Rq.blk (is := [(.iconst 0, 1), (.istore_n 3, 1)]) (q := (2, [some (.ref 238), some (.int (nI A)), some (.int (nI e)), some (.int (nI 0))], [])) (by decide +kernel) rfl ?_
  dsimp only
  have key : ∀ hz, hz = hp → am_Rq (d + 5) 124 2 [some (.ref 238), some (.int (nI A)), some (.int (nI e)), some (.int (nI 0))] [] hz (am_Ret fun hp1 v => v = none ∧ hp1[238]? = some (7, [.int (nI th), .ref 239, .ref 240, .int (nI kn), .ref 241, .ref 242, .ref 243, .ref 244, .long (lN (sl_dv (mt s) A e 5)), .ref 245]) ∧ hp1[244]? = some (101, am_la (fun c => lN (sl_dv (mt s) A e c)) 5) ∧ (∃ f : Nat → Int64, hp1[241]? = some (101, am_la f 8)) ∧ (∃ f : Nat → Int64, hp1[242]? = some (101, am_la f 8)) ∧ (∃ f : Nat → Int64, hp1[243]? = some (101, am_la f 8)) ∧ am_fr (fun x => x = 238 ∨ x = 241 ∨ x = 242 ∨ x = 243 ∨ x = 244) hp hp1) := ?_
  · exact key hp rfl
  intro hz hze
  subst hze
  refine am_for (n := 5) (fun i lo hp => lo = [some (.ref 238), some (.int (nI A)), some (.int (nI e)), some (.int (nI i))] ∧ (∃ g : Nat → Int64, hp[244]? = some (101, am_la g 5) ∧ ∀ k, k < i → g k = lN 0) ∧ hp[238]? = some (7, [.int (nI th), .ref 239, .ref 240, .int (nI kn), .ref 241, .ref 242, .ref 243, .ref 244, .long (lN co), .ref 245]) ∧ hp[239]? = some (100, (am_ia (fun i => nI (s i)) 160)) ∧ hp[241]? = some (101, (am_la f1 8)) ∧ hp[242]? = some (101, (am_la f2 8)) ∧ hp[243]? = some (101, (am_la f3 8)) ∧ am_fr (fun x => x = 238 ∨ x = 241 ∨ x = 242 ∨ x = 243 ∨ x = 244) hz hp) ?_ ?_ (i := 0) (by omega) ⟨rfl, ⟨f4, h4, fun k hk => by omega⟩, hM, hS, h1, h2, h3, am_fr.rf⟩
  · rintro i lo hp hi ⟨rfl, ⟨g, h4, hx⟩, hM, hS, h1, h2, h3, hf0⟩ ih
    refine am_Rq.blk (is := [(.iload_n 3, 1), (.iconst 5, 1)]) (q := (4, [some (.ref 238), some (.int (nI A)), some (.int (nI e)), some (.int (nI i))], [.int (nI 5), .int (nI i)])) (by decide +kernel) rfl ?_
    dsimp only
    refine am_Rq.if2F (show decode (am_by 124) 4 = .ok (.if_icmp .ge 16, 3) by decide +kernel) (by decide) (by rw [nm_ge (by omega) (by omega)]; exact decide_eq_false (by omega)) ?_
    refine am_Rq.blk (is := [(.aload_n 0, 1)]) (q := (8, [some (.ref 238), some (.int (nI A)), some (.int (nI e)), some (.int (nI i))], [.ref 238])) (by decide +kernel) rfl ?_
    dsimp only
    refine am_Rq.getf (v := .ref 244) (show decode (am_by 124) 8 = .ok (.getfield 26, 3) by decide +kernel) rfl hM rfl ?_
    refine am_Rq.blk (is := [(.iload_n 3, 1), (.lconst 0, 1)]) (q := (13, [some (.ref 238), some (.int (nI A)), some (.int (nI e)), some (.int (nI i))], [.long (lN 0), .int (nI i), .ref 244])) (by decide +kernel) rfl ?_
    dsimp only
    refine am_Rq.las (k := i) (x := lN 0) (show decode (am_by 124) 13 = .ok (.lastore, 1) by decide +kernel) h4 (by omega) (by omega) (by omega) ?_
    have hc1_238 := (am_sn (c' := (101, (am_la (va_up g i (lN 0)) 5))) (show 244 ≠ 238 by omega)).trans hM
    have hc1_239 := (am_sn (c' := (101, (am_la (va_up g i (lN 0)) 5))) (show 244 ≠ 239 by omega)).trans hS
    have hc1_241 := (am_sn (c' := (101, (am_la (va_up g i (lN 0)) 5))) (show 244 ≠ 241 by omega)).trans h1
    have hc1_242 := (am_sn (c' := (101, (am_la (va_up g i (lN 0)) 5))) (show 244 ≠ 242 by omega)).trans h2
    have hc1_243 := (am_sn (c' := (101, (am_la (va_up g i (lN 0)) 5))) (show 244 ≠ 243 by omega)).trans h3
    have hc1_244 := am_ss (c' := (101, (am_la (va_up g i (lN 0)) 5))) h4
    have hf1 := (am_fr.rf (A := fun q => q = 244)).set (c' := (101, (am_la (va_up g i (lN 0)) 5))) rfl h4 (by simp [am_ia_len, am_la_len])
    generalize hze1 : (List.set _ 244 _ : am_H) = hz1 at hf1 hc1_238 hc1_239 hc1_241 hc1_242 hc1_243 hc1_244 ⊢
    clear hze1
    refine am_Rq.blk (is := [(.iinc 3 1, 3)]) (q := (17, [some (.ref 238), some (.int (nI A)), some (.int (nI e)), some (.int ((nI i) + (nI 1)))], [])) (by decide +kernel) rfl ?_
    dsimp only
    rw [show (nI i) + (nI 1) = nI (i + 1) from nI_add _ _]
    refine am_Rq.blk (is := [(.goto (-15), 3)]) (q := (2, [some (.ref 238), some (.int (nI A)), some (.int (nI e)), some (.int (nI (i + 1)))], [])) (by decide +kernel) rfl ?_
    dsimp only
    refine ih _ _ ⟨rfl, ⟨_, hc1_244, fun k hk => ?_⟩, hc1_238, hc1_239, hc1_241, hc1_242, hc1_243, (hf0.trans (hf1.mono (A' := fun x => x = 238 ∨ x = 241 ∨ x = 242 ∨ x = 243 ∨ x = 244) (fun x q => by omega)))⟩
    by_cases e : k = i
    · rw [e, va_up_self]
    · rw [va_up_ne _ _ e]; exact hx k (by omega)
  · rintro lo hp ⟨rfl, ⟨g, h4, hx⟩, hM, hS, h1, h2, h3, hf0⟩
    rw [c_la_congr (g := fun _ => lN 0) hx] at h4
    refine am_Rq.blk (is := [(.iload_n 3, 1), (.iconst 5, 1)]) (q := (4, [some (.ref 238), some (.int (nI A)), some (.int (nI e)), some (.int (nI 5))], [.int (nI 5), .int (nI 5)])) (by decide +kernel) rfl ?_
    dsimp only
    refine am_Rq.if2T (t := 20) (show decode (am_by 124) 4 = .ok (.if_icmp .ge 16, 3) by decide +kernel) (by decide) (by rw [nm_ge (by omega) (by omega)]; exact decide_eq_true (by omega)) ?_
    refine am_Rq.blk (is := [(.aload_n 0, 1), (.lconst 0, 1)]) (q := (22, [some (.ref 238), some (.int (nI A)), some (.int (nI e)), some (.int (nI 5))], [.long (lN 0), .ref 238])) (by decide +kernel) rfl ?_
    dsimp only
    refine am_Rq.putf (show decode (am_by 124) 22 = .ok (.putfield 113, 3) by decide +kernel) rfl hM (Nat.le_of_ble_eq_true rfl) rfl (Or.inl rfl) (by omega) ?_
    show am_Rq _ _ _ _ _ (List.set _ 238 (7, [.int (nI th), .ref 239, .ref 240, .int (nI kn), .ref 241, .ref 242, .ref 243, .ref 244, .long (lN 0), .ref 245])) _
    have hc2_238 := am_ss (c' := (7, [.int (nI th), .ref 239, .ref 240, .int (nI kn), .ref 241, .ref 242, .ref 243, .ref 244, .long (lN 0), .ref 245])) hM
    have hc2_239 := (am_sn (c' := (7, [.int (nI th), .ref 239, .ref 240, .int (nI kn), .ref 241, .ref 242, .ref 243, .ref 244, .long (lN 0), .ref 245])) (show 238 ≠ 239 by omega)).trans hS
    have hc2_241 := (am_sn (c' := (7, [.int (nI th), .ref 239, .ref 240, .int (nI kn), .ref 241, .ref 242, .ref 243, .ref 244, .long (lN 0), .ref 245])) (show 238 ≠ 241 by omega)).trans h1
    have hc2_242 := (am_sn (c' := (7, [.int (nI th), .ref 239, .ref 240, .int (nI kn), .ref 241, .ref 242, .ref 243, .ref 244, .long (lN 0), .ref 245])) (show 238 ≠ 242 by omega)).trans h2
    have hc2_243 := (am_sn (c' := (7, [.int (nI th), .ref 239, .ref 240, .int (nI kn), .ref 241, .ref 242, .ref 243, .ref 244, .long (lN 0), .ref 245])) (show 238 ≠ 243 by omega)).trans h3
    have hc2_244 := (am_sn (c' := (7, [.int (nI th), .ref 239, .ref 240, .int (nI kn), .ref 241, .ref 242, .ref 243, .ref 244, .long (lN 0), .ref 245])) (show 238 ≠ 244 by omega)).trans h4
    have hf2 := (am_fr.rf (A := fun q => q = 238)).set (c' := (7, [.int (nI th), .ref 239, .ref 240, .int (nI kn), .ref 241, .ref 242, .ref 243, .ref 244, .long (lN 0), .ref 245])) rfl hM rfl
    generalize hze2 : (List.set _ 238 _ : am_H) = hz2 at hf2 hc2_238 hc2_239 hc2_241 hc2_242 hc2_243 hc2_244 ⊢
    clear hze2
    refine am_Rq.blk (is := [(.aload_n 0, 1), (.aload_n 0, 1), (.iload_n 1, 1), (.i2l, 1)]) (q := (29, [some (.ref 238), some (.int (nI A)), some (.int (nI e)), some (.int (nI 5))], [.long ((nI A).toInt64), .ref 238, .ref 238])) (by decide +kernel) rfl ?_
    dsimp only
    rw [show (nI A).toInt64 = lN A from nm_l (by omega)]
    refine am_Rq.blk (is := [(.iload_n 2, 1)]) (q := (30, [some (.ref 238), some (.int (nI A)), some (.int (nI e)), some (.int (nI 5))], [.int (nI e), .long (lN A), .ref 238, .ref 238])) (by decide +kernel) rfl ?_
    dsimp only
    refine am_Rq.callV (show decode (am_by 124) 30 = .ok (.invokevirtual 117, 3) by decide +kernel) rfl [.long (lN A), .int (nI e)] [.ref 238] rfl rfl (Nat.le_of_ble_eq_true rfl) rfl hc2_238 rfl (m_payPref hc2_238 hc2_239 ok hK hA he hc2_241 hc2_242 hc2_243 hc2_244) ?_
    rintro hp3 _ ⟨rfl, hG, ⟨w1, k1⟩, ⟨w2, k2⟩, ⟨w3, k3⟩, hf3⟩
    have hc3_238 := (hf3.2.2 (238) (fun q => by omega)).trans hc2_238
    have hc3_239 := (hf3.2.2 (239) (fun q => by omega)).trans hc2_239
    show am_Rq _ 124 33 [some (.ref 238), some (.int (nI A)), some (.int (nI e)), some (.int (nI 5))] [.long (lN (dv_L (sl_P (mt s) e) (sl_R (mt s)) A 4)), .ref 238] _ _
    refine am_Rq.blk (is := [(.iload_n 2, 1)]) (q := (34, [some (.ref 238), some (.int (nI A)), some (.int (nI e)), some (.int (nI 5))], [.int (nI e), .long (lN (dv_L (sl_P (mt s) e) (sl_R (mt s)) A 4)), .ref 238])) (by decide +kernel) rfl ?_
    dsimp only
    refine am_Rq.callV (show decode (am_by 124) 34 = .ok (.invokevirtual 121, 3) by decide +kernel) rfl [.long (lN (dv_L (sl_P (mt s) e) (sl_R (mt s)) A 4)), .int (nI e)] [] rfl rfl (Nat.le_of_ble_eq_true rfl) rfl hc3_238 rfl (m_payRest hc3_238 hc3_239 ok hK hA he k1 k2 k3 hG) ?_
    rintro hp4 _ ⟨rfl, hMe, hGe, ⟨v1, y1⟩, ⟨v2, y2⟩, ⟨v3, y3⟩, hf4⟩
    have hc4_239 := (hf4.2.2 (239) (fun q => by omega)).trans hc3_239
    show am_Rq _ 124 37 [some (.ref 238), some (.int (nI A)), some (.int (nI e)), some (.int (nI 5))] [] _ _
    refine am_Rq.ret (v := none) (show decode (am_by 124) 37 = .ok (.return_, 1) by decide +kernel) rfl rfl ?_
    exact ⟨_, rfl, rfl, hMe, hGe, ⟨_, y1⟩, ⟨_, y2⟩, ⟨_, y3⟩, (((hf0.trans (hf2.mono (A' := fun x => x = 238 ∨ x = 241 ∨ x = 242 ∨ x = 243 ∨ x = 244) (fun x q => by omega))).trans (hf3.mono (A' := fun x => x = 238 ∨ x = 241 ∨ x = 242 ∨ x = 243 ∨ x = 244) (fun x q => by omega))).trans (hf4.mono (A' := fun x => x = 238 ∨ x = 241 ∨ x = 242 ∨ x = 243 ∨ x = 244) (fun x q => by omega)))⟩
end M18
