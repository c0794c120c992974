/-! The reference's sale: payPreferences (rows by prog/m16.py). -/
theorem sl_P0 {t : Nat → Nat} {e : Nat} : sl_P t e 0 = 0 := by unfold sl_P; rw [if_pos (show sl_as e 0 = true from rfl)]
theorem dv_cl0 {t : Nat → Nat} {e r : Nat} : dv_cl (sl_P t e) (sl_R t) r 0 = 0 := by
  unfold dv_cl
  rw [sl_P0]
  split <;> rfl
theorem sl_P_no {t : Nat → Nat} {e c : Nat} (h : t (8 * c + 7) = 0 ∨ sl_as e c = true) : sl_P t e c = 0 := by
  unfold sl_P
  split
  · rfl
  · rename_i z
    rw [h.resolve_right z]
    simp
theorem dv_cl_no {P R : Nat → Nat} {r c : Nat} (h : P c = 0) : dv_cl P R r c = 0 := by
  unfold dv_cl
  rw [h]
  split <;> rfl
theorem mt_out {K : Nat} {s : Nat → Nat} (ok : c_ok K (mt s)) {c : Nat} (h : s 0 < c) (hc : c < 5) : mt s (8 * c + 7) = 0 := (ok.2.2.2.2.2.2.2.2 c (by rw [mt_n]; omega) hc).2
section M16
variable {d : Nat} {hp : am_H}
theorem m_payPref {th kn co : Nat} (hM : hp[238]? = some (7, [.int (nI th), .ref 239, .ref 240, .int (nI kn), .ref 241, .ref 242, .ref 243, .ref 244, .long (lN co), .ref 245])) {s : Nat → Nat} (hS : hp[239]? = some (100, am_ia (fun i => nI (s i)) 160)) {K : Nat} (ok : c_ok K (mt s)) (hK : K ≤ 900) {A e : Nat} (hA : A ≤ 2000000000) (he : e < 16) {f1 f2 f3 : Nat → Int64} (h1 : hp[241]? = some (101, am_la f1 8)) (h2 : hp[242]? = some (101, am_la f2 8)) (h3 : hp[243]? = some (101, am_la f3 8)) (h4 : hp[244]? = some (101, am_la (fun _ => lN 0) 5)) : am_Rq (d + 2) 125 0 (am_en [.ref 238, .long (lN A), .int (nI e)] 10) [] hp (am_Ret fun hp1 v => v = some (.long (lN (dv_L (sl_P (mt s) e) (sl_R (mt s)) A 4))) ∧ hp1[244]? = some (101, am_la (fun c => lN (dv_D (sl_P (mt s) e) (sl_R (mt s)) A 4 c)) 5) ∧ (∃ f : Nat → Int64, hp1[241]? = some (101, am_la f 8)) ∧ (∃ f : Nat → Int64, hp1[242]? = some (101, am_la f 8)) ∧ (∃ f : Nat → Int64, hp1[243]? = some (101, am_la f 8)) ∧ am_fr (fun x => x = 241 ∨ x = 242 ∨ x = 243 ∨ x = 244) hp hp1) := by
  show am_Rq _ 125 0 [some (.ref 238), some (.long (lN A)), none, some (.int (nI e)), none, none, none, none, none, none] [] _ _
  have hs0 := mt_s0 ok
  have hB := ok.b (by omega)
  have hPl : ∀ c, c < 5 → sl_P (mt s) e c ≤ 1500000000 := fun c hc => sl_P_le ok hc
  refine am_Rq.blk (is := [(.lload_n 1, 1), (.lstore 4, 2), (.iconst 0, 1), (.istore 6, 2)]) (q := (6, [some (.ref 238), some (.long (lN A)), none, some (.int (nI e)), some (.long (lN A)), none, some (.int (nI 0)), none, none, none], [])) (by decide +kernel) rfl ?_
  dsimp only
  have key : ∀ hz, hz = hp → am_Rq (d + 2) 125 6 [some (.ref 238), some (.long (lN A)), none, some (.int (nI e)), some (.long (lN A)), none, some (.int (nI 0)), none, none, none] [] hz (am_Ret fun hp1 v => v = some (.long (lN (dv_L (sl_P (mt s) e) (sl_R (mt s)) A 4))) ∧ hp1[244]? = some (101, am_la (fun c => lN (dv_D (sl_P (mt s) e) (sl_R (mt s)) A 4 c)) 5) ∧ (∃ f : Nat → Int64, hp1[241]? = some (101, am_la f 8)) ∧ (∃ f : Nat → Int64, hp1[242]? = some (101, am_la f 8)) ∧ (∃ f : Nat → Int64, hp1[243]? = some (101, am_la f 8)) ∧ am_fr (fun x => x = 241 ∨ x = 242 ∨ x = 243 ∨ x = 244) hp hp1) := ?_
  · exact key hp rfl
  intro hz hze
  subst hze
  refine am_for (n := 4) (fun i lo hp => ∃ z7 z8 z9 : Option Value, lo = [some (.ref 238), some (.long (lN A)), none, some (.int (nI e)), some (.long (lN (dv_L (sl_P (mt s) e) (sl_R (mt s)) A i))), none, some (.int (nI i)), z7, z8, z9] ∧ hp[244]? = some (101, am_la (fun c => lN (dv_D (sl_P (mt s) e) (sl_R (mt s)) A i c)) 5) ∧ (∃ f : Nat → Int64, hp[241]? = some (101, am_la f 8)) ∧ (∃ f : Nat → Int64, hp[242]? = some (101, am_la f 8)) ∧ (∃ f : Nat → Int64, hp[243]? = some (101, am_la f 8)) ∧ hp[238]? = some (7, [.int (nI th), .ref 239, .ref 240, .int (nI kn), .ref 241, .ref 242, .ref 243, .ref 244, .long (lN co), .ref 245]) ∧ hp[239]? = some (100, am_ia (fun i => nI (s i)) 160) ∧ am_fr (fun x => x = 241 ∨ x = 242 ∨ x = 243 ∨ x = 244) hz hp) ?_ ?_ (i := 0) (by omega) ⟨_, _, _, rfl, h4, ⟨_, h1⟩, ⟨_, h2⟩, ⟨_, h3⟩, hM, hS, am_fr.rf⟩
  · rintro i lo hp hi ⟨z7, z8, z9, rfl, hG, ⟨w1, h1⟩, ⟨w2, h2⟩, ⟨w3, h3⟩, hM, hS, hf0⟩ ih
    have hLi : dv_L (sl_P (mt s) e) (sl_R (mt s)) A i ≤ 2000000000 := Nat.le_trans (dv_L_le _ _ _ _) hA
    have hcl : ∀ c, c < 5 → dv_cl (sl_P (mt s) e) (sl_R (mt s)) i c ≤ 1500000000 := fun c hc => Nat.le_trans dv_cl_le (hPl c hc)
    refine am_Rq.blk (is := [(.iload 6, 2), (.iconst 4, 1)]) (q := (9, [some (.ref 238), some (.long (lN A)), none, some (.int (nI e)), some (.long (lN (dv_L (sl_P (mt s) e) (sl_R (mt s)) A i))), none, some (.int (nI i)), z7, z8, z9], [.int (nI 4), .int (nI i)])) (by decide +kernel) rfl ?_
    dsimp only
    refine am_Rq.if2F (show decode (am_by 125) 9 = .ok (.if_icmp .ge 185, 3) by decide +kernel) (by decide) (by rw [nm_ge (by omega) (by omega)]; exact decide_eq_false (by omega)) ?_
    refine am_Rq.blk (is := [(.lconst 0, 1), (.lstore 7, 2), (.aload_n 0, 1)]) (q := (16, [some (.ref 238), some (.long (lN A)), none, some (.int (nI e)), some (.long (lN (dv_L (sl_P (mt s) e) (sl_R (mt s)) A i))), none, some (.int (nI i)), some (.long (lN 0)), none, z9], [.ref 238])) (by decide +kernel) rfl ?_
    dsimp only
    refine am_Rq.callV (show decode (am_by 125) 16 = .ok (.invokevirtual 96, 3) by decide +kernel) rfl [] [] rfl rfl (Nat.le_of_ble_eq_true rfl) rfl hM rfl (m_noW hM h1) ?_
    rintro hp1 _ ⟨rfl, hW1, hf1⟩
    have hc1_238 := (hf1.2.2 (238) (fun q => by omega)).trans hM
    have hc1_239 := (hf1.2.2 (239) (fun q => by omega)).trans hS
    have hc1_242 := (hf1.2.2 (242) (fun q => by omega)).trans h2
    have hc1_243 := (hf1.2.2 (243) (fun q => by omega)).trans h3
    have hc1_244 := (hf1.2.2 (244) (fun q => by omega)).trans hG
    show am_Rq _ 125 19 [some (.ref 238), some (.long (lN A)), none, some (.int (nI e)), some (.long (lN (dv_L (sl_P (mt s) e) (sl_R (mt s)) A i))), none, some (.int (nI i)), some (.long (lN 0)), none, z9] [] _ _
    refine am_Rq.blk (is := [(.iconst 1, 1), (.istore 9, 2)]) (q := (22, [some (.ref 238), some (.long (lN A)), none, some (.int (nI e)), some (.long (lN (dv_L (sl_P (mt s) e) (sl_R (mt s)) A i))), none, some (.int (nI i)), some (.long (lN 0)), none, some (.int (nI 1))], [])) (by decide +kernel) rfl ?_
    dsimp only
    have hfT : am_fr (fun x => x = 241 ∨ x = 242 ∨ x = 243 ∨ x = 244) hz _ := (hf0.trans (hf1.mono (A' := fun x => x = 241 ∨ x = 242 ∨ x = 243 ∨ x = 244) (fun x q => by omega)))
    refine am_for (n := s 0 + 1) (fun q lo hp => lo = [some (.ref 238), some (.long (lN A)), none, some (.int (nI e)), some (.long (lN (dv_L (sl_P (mt s) e) (sl_R (mt s)) A i))), none, some (.int (nI i)), some (.long (lN (sp_sm (dv_cl (sl_P (mt s) e) (sl_R (mt s)) i) q))), none, some (.int (nI q))] ∧ 1 ≤ q ∧ (∃ g : Nat → Int64, hp[241]? = some (101, am_la g 8) ∧ ∀ k, k < 8 → g k = lN (if k < q then dv_cl (sl_P (mt s) e) (sl_R (mt s)) i k else 0)) ∧ hp[238]? = some (7, [.int (nI th), .ref 239, .ref 240, .int (nI kn), .ref 241, .ref 242, .ref 243, .ref 244, .long (lN co), .ref 245]) ∧ hp[239]? = some (100, (am_ia (fun i => nI (s i)) 160)) ∧ hp[242]? = some (101, (am_la w2 8)) ∧ hp[243]? = some (101, (am_la w3 8)) ∧ hp[244]? = some (101, (am_la (fun c => lN (dv_D (sl_P (mt s) e) (sl_R (mt s)) A i c)) 5)) ∧ am_fr (fun x => x = 241 ∨ x = 242 ∨ x = 243 ∨ x = 244) hz hp) ?_ ?_ (i := 1) (by omega) ⟨?_, Nat.le_refl _, ⟨_, hW1, fun k hk => ?_⟩, hc1_238, hc1_239, hc1_242, hc1_243, hc1_244, hfT⟩
    · rintro q lo hp hq ⟨rfl, hq1, ⟨g, hg, hgx⟩, q8, q9, q2, q3, q4, hfq⟩ ihq
      refine am_Rq.blk (is := [(.iload 9, 2), (.aload_n 0, 1)]) (q := (25, [some (.ref 238), some (.long (lN A)), none, some (.int (nI e)), some (.long (lN (dv_L (sl_P (mt s) e) (sl_R (mt s)) A i))), none, some (.int (nI i)), some (.long (lN (sp_sm (dv_cl (sl_P (mt s) e) (sl_R (mt s)) i) q))), none, some (.int (nI q))], [.ref 238, .int (nI q)])) (by decide +kernel) rfl ?_
      dsimp only
      refine am_Rq.getf (v := .ref 239) (show decode (am_by 125) 25 = .ok (.getfield 7, 3) by decide +kernel) rfl q8 rfl ?_
      refine am_Rq.blk (is := [(.iconst 0, 1)]) (q := (29, [some (.ref 238), some (.long (lN A)), none, some (.int (nI e)), some (.long (lN (dv_L (sl_P (mt s) e) (sl_R (mt s)) A i))), none, some (.int (nI i)), some (.long (lN (sp_sm (dv_cl (sl_P (mt s) e) (sl_R (mt s)) i) q))), none, some (.int (nI q))], [.int (nI 0), .ref 239, .int (nI q)])) (by decide +kernel) rfl ?_
      dsimp only
      refine am_Rq.ial (k := 0) (show decode (am_by 125) 29 = .ok (.iaload, 1) by decide +kernel) q9 (by omega) (by omega) ?_
      refine am_Rq.if2F (show decode (am_by 125) 30 = .ok (.if_icmp .gt 56, 3) by decide +kernel) (by decide) (by rw [nm_gt (by omega) (by omega)]; exact decide_eq_false (by omega)) ?_
      have b2 := hB (8 * q + 2) (by omega)
      refine am_Rq.blk (is := [(.aload_n 0, 1), (.iload_n 3, 1), (.iload 9, 2)]) (q := (37, [some (.ref 238), some (.long (lN A)), none, some (.int (nI e)), some (.long (lN (dv_L (sl_P (mt s) e) (sl_R (mt s)) A i))), none, some (.int (nI i)), some (.long (lN (sp_sm (dv_cl (sl_P (mt s) e) (sl_R (mt s)) i) q))), none, some (.int (nI q))], [.int (nI q), .int (nI e), .ref 238])) (by decide +kernel) rfl ?_
      dsimp only
      refine am_Rq.callV (show decode (am_by 125) 37 = .ok (.invokevirtual 99, 3) by decide +kernel) rfl [.int (nI e), .int (nI q)] [] rfl rfl (Nat.le_of_ble_eq_true rfl) rfl q8 rfl (m_isPref q8 q9 ok hK he (show q < 5 by omega)) ?_
      rintro hq _ ⟨e1, rfl⟩
      rw [e1]
      clear e1 hq
      show am_Rq _ 125 40 [some (.ref 238), some (.long (lN A)), none, some (.int (nI e)), some (.long (lN (dv_L (sl_P (mt s) e) (sl_R (mt s)) A i))), none, some (.int (nI i)), some (.long (lN (sp_sm (dv_cl (sl_P (mt s) e) (sl_R (mt s)) i) q))), none, some (.int (nI q))] [.int (nI (am_b (decide (1 ≤ q) && (decide (0 < mt s (8 * q + 7)) && !Nat.testBit e (q - 1)))))] _ _
      refine am_Rq.if1 (t := 80) (show decode (am_by 125) 40 = .ok (.ifCond .eq 40, 3) by decide +kernel) (by decide) (fun hb => ?_) (fun hb => ?_)
      ·
        rw [am_b_eq, Bool.not_eq_true'] at hb
        have hz1 : mt s (8 * q + 7) = 0 ∨ sl_as e q = true := by
          rw [decide_eq_true hq1, Bool.true_and] at hb
          by_cases h7 : mt s (8 * q + 7) = 0
          · exact Or.inl h7
          · rw [decide_eq_true (show 0 < mt s (8 * q + 7) by omega), Bool.true_and, Bool.not_eq_false'] at hb
            exact Or.inr (by unfold sl_as; rw [hb, Bool.or_true])
        refine am_Rq.blk (is := [(.iinc 9 1, 3)]) (q := (83, [some (.ref 238), some (.long (lN A)), none, some (.int (nI e)), some (.long (lN (dv_L (sl_P (mt s) e) (sl_R (mt s)) A i))), none, some (.int (nI i)), some (.long (lN (sp_sm (dv_cl (sl_P (mt s) e) (sl_R (mt s)) i) q))), none, some (.int ((nI q) + (nI 1)))], [])) (by decide +kernel) rfl ?_
        dsimp only
        rw [show (nI q) + (nI 1) = nI (q + 1) from nI_add _ _]
        refine am_Rq.blk (is := [(.goto (-61), 3)]) (q := (22, [some (.ref 238), some (.long (lN A)), none, some (.int (nI e)), some (.long (lN (dv_L (sl_P (mt s) e) (sl_R (mt s)) A i))), none, some (.int (nI i)), some (.long (lN (sp_sm (dv_cl (sl_P (mt s) e) (sl_R (mt s)) i) q))), none, some (.int (nI (q + 1)))], [])) (by decide +kernel) rfl ?_
        dsimp only
        have hz0 : dv_cl (sl_P (mt s) e) (sl_R (mt s)) i q = 0 := dv_cl_no (sl_P_no hz1)
        refine ihq _ _ ⟨?_, by omega, ⟨g, hg, fun k hk => ?_⟩, q8, q9, q2, q3, q4, hfq⟩
        · simp only [sp_sm]
          rw [hz0]
          rfl
        · rw [hgx k hk]
          by_cases ek : k = q
          · subst ek
            rw [if_neg (by omega), if_pos (by omega), hz0]
          · by_cases el : k < q
            · rw [if_pos el, if_pos (by omega)]
            · rw [if_neg el, if_neg (by omega)]
      ·
        rw [am_b_eq, Bool.not_eq_false', decide_eq_true hq1, Bool.true_and, Bool.and_eq_true, Bool.not_eq_true'] at hb
        have hb7 := of_decide_eq_true hb.1
        have hsa : sl_as e q = false := by unfold sl_as; rw [decide_eq_false (by omega), hb.2]; rfl
        refine am_Rq.blk (is := [(.aload_n 0, 1), (.iload 9, 2), (.iconst 2, 1)]) (q := (47, [some (.ref 238), some (.long (lN A)), none, some (.int (nI e)), some (.long (lN (dv_L (sl_P (mt s) e) (sl_R (mt s)) A i))), none, some (.int (nI i)), some (.long (lN (sp_sm (dv_cl (sl_P (mt s) e) (sl_R (mt s)) i) q))), none, some (.int (nI q))], [.int (nI 2), .int (nI q), .ref 238])) (by decide +kernel) rfl ?_
        dsimp only
        refine am_Rq.callV (show decode (am_by 125) 47 = .ok (.invokevirtual 45, 3) by decide +kernel) rfl [.int (nI q), .int (nI 2)] [] rfl rfl (Nat.le_of_ble_eq_true rfl) rfl q8 rfl (m_ofT q8 q9 (c := q) (k := 2) (by omega) (by omega) (by omega) (by omega)) ?_
        rintro hq _ ⟨e1, rfl⟩
        rw [e1]
        clear e1 hq
        show am_Rq _ 125 50 [some (.ref 238), some (.long (lN A)), none, some (.int (nI e)), some (.long (lN (dv_L (sl_P (mt s) e) (sl_R (mt s)) A i))), none, some (.int (nI i)), some (.long (lN (sp_sm (dv_cl (sl_P (mt s) e) (sl_R (mt s)) i) q))), none, some (.int (nI q))] [.int (nI (mt s (8 * q + 2)))] _ _
        refine am_Rq.blk (is := [(.iload 6, 2)]) (q := (52, [some (.ref 238), some (.long (lN A)), none, some (.int (nI e)), some (.long (lN (dv_L (sl_P (mt s) e) (sl_R (mt s)) A i))), none, some (.int (nI i)), some (.long (lN (sp_sm (dv_cl (sl_P (mt s) e) (sl_R (mt s)) i) q))), none, some (.int (nI q))], [.int (nI i), .int (nI (mt s (8 * q + 2)))])) (by decide +kernel) rfl ?_
        dsimp only
        refine am_Rq.if2 (t := 80) (show decode (am_by 125) 52 = .ok (.if_icmp .ne 28, 3) by decide +kernel) (by decide) (fun hr => ?_) (fun hr => ?_)
        ·
          rw [nm_ne (by omega) (by omega)] at hr
          have hr := of_decide_eq_true hr
          refine am_Rq.blk (is := [(.iinc 9 1, 3)]) (q := (83, [some (.ref 238), some (.long (lN A)), none, some (.int (nI e)), some (.long (lN (dv_L (sl_P (mt s) e) (sl_R (mt s)) A i))), none, some (.int (nI i)), some (.long (lN (sp_sm (dv_cl (sl_P (mt s) e) (sl_R (mt s)) i) q))), none, some (.int ((nI q) + (nI 1)))], [])) (by decide +kernel) rfl ?_
          dsimp only
          rw [show (nI q) + (nI 1) = nI (q + 1) from nI_add _ _]
          refine am_Rq.blk (is := [(.goto (-61), 3)]) (q := (22, [some (.ref 238), some (.long (lN A)), none, some (.int (nI e)), some (.long (lN (dv_L (sl_P (mt s) e) (sl_R (mt s)) A i))), none, some (.int (nI i)), some (.long (lN (sp_sm (dv_cl (sl_P (mt s) e) (sl_R (mt s)) i) q))), none, some (.int (nI (q + 1)))], [])) (by decide +kernel) rfl ?_
          dsimp only
          have hz0 : dv_cl (sl_P (mt s) e) (sl_R (mt s)) i q = 0 := by unfold dv_cl sl_R; rw [if_neg hr]
          refine ihq _ _ ⟨?_, by omega, ⟨g, hg, fun k hk => ?_⟩, q8, q9, q2, q3, q4, hfq⟩
          · simp only [sp_sm]
            rw [hz0]
            rfl
          · rw [hgx k hk]
            by_cases ek : k = q
            · subst ek
              rw [if_neg (by omega), if_pos (by omega), hz0]
            · by_cases el : k < q
              · rw [if_pos el, if_pos (by omega)]
              · rw [if_neg el, if_neg (by omega)]
        ·
          rw [nm_ne (by omega) (by omega)] at hr
          have hr := of_decide_eq_false hr
          refine am_Rq.blk (is := [(.aload_n 0, 1)]) (q := (56, [some (.ref 238), some (.long (lN A)), none, some (.int (nI e)), some (.long (lN (dv_L (sl_P (mt s) e) (sl_R (mt s)) A i))), none, some (.int (nI i)), some (.long (lN (sp_sm (dv_cl (sl_P (mt s) e) (sl_R (mt s)) i) q))), none, some (.int (nI q))], [.ref 238])) (by decide +kernel) rfl ?_
          dsimp only
          refine am_Rq.getf (v := .ref 241) (show decode (am_by 125) 56 = .ok (.getfield 16, 3) by decide +kernel) rfl q8 rfl ?_
          refine am_Rq.blk (is := [(.iload 9, 2), (.aload_n 0, 1), (.iload 9, 2)]) (q := (64, [some (.ref 238), some (.long (lN A)), none, some (.int (nI e)), some (.long (lN (dv_L (sl_P (mt s) e) (sl_R (mt s)) A i))), none, some (.int (nI i)), some (.long (lN (sp_sm (dv_cl (sl_P (mt s) e) (sl_R (mt s)) i) q))), none, some (.int (nI q))], [.int (nI q), .ref 238, .int (nI q), .ref 241])) (by decide +kernel) rfl ?_
          dsimp only
          refine am_Rq.callV (show decode (am_by 125) 64 = .ok (.invokevirtual 102, 3) by decide +kernel) rfl [.int (nI q)] [.int (nI q), .ref 241] rfl rfl (Nat.le_of_ble_eq_true rfl) rfl q8 rfl (m_pref q8 q9 ok hK hq1 (by omega)) ?_
          rintro hq _ ⟨e1, rfl⟩
          rw [e1]
          clear e1 hq
          show am_Rq _ 125 67 [some (.ref 238), some (.long (lN A)), none, some (.int (nI e)), some (.long (lN (dv_L (sl_P (mt s) e) (sl_R (mt s)) A i))), none, some (.int (nI i)), some (.long (lN (sp_sm (dv_cl (sl_P (mt s) e) (sl_R (mt s)) i) q))), none, some (.int (nI q))] [.long (lN (mt s (8 * q + 7) * mt s (8 * q) * mt s (8 * q + 1))), .int (nI q), .ref 241] _ _
          have hcq : dv_cl (sl_P (mt s) e) (sl_R (mt s)) i q = mt s (8 * q + 7) * mt s (8 * q) * mt s (8 * q + 1) := by
            unfold dv_cl sl_R sl_P
            rw [if_pos (by omega), if_neg (by rw [hsa]; decide)]
          rw [← hcq]
          refine am_Rq.las (k := q) (x := lN (dv_cl (sl_P (mt s) e) (sl_R (mt s)) i q)) (show decode (am_by 125) 67 = .ok (.lastore, 1) by decide +kernel) hg (by omega) (by omega) (by omega) ?_
          have hc2_238 := (am_sn (c' := (101, (am_la (va_up g q (lN (dv_cl (sl_P (mt s) e) (sl_R (mt s)) i q))) 8))) (show 241 ≠ 238 by omega)).trans q8
          have hc2_239 := (am_sn (c' := (101, (am_la (va_up g q (lN (dv_cl (sl_P (mt s) e) (sl_R (mt s)) i q))) 8))) (show 241 ≠ 239 by omega)).trans q9
          have hc2_242 := (am_sn (c' := (101, (am_la (va_up g q (lN (dv_cl (sl_P (mt s) e) (sl_R (mt s)) i q))) 8))) (show 241 ≠ 242 by omega)).trans q2
          have hc2_243 := (am_sn (c' := (101, (am_la (va_up g q (lN (dv_cl (sl_P (mt s) e) (sl_R (mt s)) i q))) 8))) (show 241 ≠ 243 by omega)).trans q3
          have hc2_244 := (am_sn (c' := (101, (am_la (va_up g q (lN (dv_cl (sl_P (mt s) e) (sl_R (mt s)) i q))) 8))) (show 241 ≠ 244 by omega)).trans q4
          have hc2_241 := am_ss (c' := (101, (am_la (va_up g q (lN (dv_cl (sl_P (mt s) e) (sl_R (mt s)) i q))) 8))) hg
          have hf2 := (am_fr.rf (A := fun q => q = 241)).set (c' := (101, (am_la (va_up g q (lN (dv_cl (sl_P (mt s) e) (sl_R (mt s)) i q))) 8))) rfl hg (by simp [am_ia_len, am_la_len])
          generalize hze2 : (List.set _ 241 _ : am_H) = hz2 at hf2 hc2_238 hc2_239 hc2_242 hc2_243 hc2_244 hc2_241 ⊢
          clear hze2
          refine am_Rq.blk (is := [(.lload 7, 2), (.aload_n 0, 1)]) (q := (71, [some (.ref 238), some (.long (lN A)), none, some (.int (nI e)), some (.long (lN (dv_L (sl_P (mt s) e) (sl_R (mt s)) A i))), none, some (.int (nI i)), some (.long (lN (sp_sm (dv_cl (sl_P (mt s) e) (sl_R (mt s)) i) q))), none, some (.int (nI q))], [.ref 238, .long (lN (sp_sm (dv_cl (sl_P (mt s) e) (sl_R (mt s)) i) q))])) (by decide +kernel) rfl ?_
          dsimp only
          refine am_Rq.getf (v := .ref 241) (show decode (am_by 125) 71 = .ok (.getfield 16, 3) by decide +kernel) rfl hc2_238 rfl ?_
          refine am_Rq.blk (is := [(.iload 9, 2)]) (q := (76, [some (.ref 238), some (.long (lN A)), none, some (.int (nI e)), some (.long (lN (dv_L (sl_P (mt s) e) (sl_R (mt s)) A i))), none, some (.int (nI i)), some (.long (lN (sp_sm (dv_cl (sl_P (mt s) e) (sl_R (mt s)) i) q))), none, some (.int (nI q))], [.int (nI q), .ref 241, .long (lN (sp_sm (dv_cl (sl_P (mt s) e) (sl_R (mt s)) i) q))])) (by decide +kernel) rfl ?_
          dsimp only
          refine am_Rq.lal (k := q) (show decode (am_by 125) 76 = .ok (.laload, 1) by decide +kernel) hc2_241 (by omega) (by omega) ?_
          rw [va_up_self]
          refine am_Rq.blk (is := [(.ladd, 1)]) (q := (78, [some (.ref 238), some (.long (lN A)), none, some (.int (nI e)), some (.long (lN (dv_L (sl_P (mt s) e) (sl_R (mt s)) A i))), none, some (.int (nI i)), some (.long (lN (sp_sm (dv_cl (sl_P (mt s) e) (sl_R (mt s)) i) q))), none, some (.int (nI q))], [.long ((lN (sp_sm (dv_cl (sl_P (mt s) e) (sl_R (mt s)) i) q)) + (lN (dv_cl (sl_P (mt s) e) (sl_R (mt s)) i q)))])) (by decide +kernel) rfl ?_
          dsimp only
          rw [show (lN (sp_sm (dv_cl (sl_P (mt s) e) (sl_R (mt s)) i) q)) + (lN (dv_cl (sl_P (mt s) e) (sl_R (mt s)) i q)) = lN ((sp_sm (dv_cl (sl_P (mt s) e) (sl_R (mt s)) i) q) + (dv_cl (sl_P (mt s) e) (sl_R (mt s)) i q)) from lN_add _ _]
          refine am_Rq.blk (is := [(.lstore 7, 2), (.iinc 9 1, 3)]) (q := (83, [some (.ref 238), some (.long (lN A)), none, some (.int (nI e)), some (.long (lN (dv_L (sl_P (mt s) e) (sl_R (mt s)) A i))), none, some (.int (nI i)), some (.long (lN ((sp_sm (dv_cl (sl_P (mt s) e) (sl_R (mt s)) i) q) + (dv_cl (sl_P (mt s) e) (sl_R (mt s)) i q)))), none, some (.int ((nI q) + (nI 1)))], [])) (by decide +kernel) rfl ?_
          dsimp only
          rw [show (nI q) + (nI 1) = nI (q + 1) from nI_add _ _]
          refine am_Rq.blk (is := [(.goto (-61), 3)]) (q := (22, [some (.ref 238), some (.long (lN A)), none, some (.int (nI e)), some (.long (lN (dv_L (sl_P (mt s) e) (sl_R (mt s)) A i))), none, some (.int (nI i)), some (.long (lN ((sp_sm (dv_cl (sl_P (mt s) e) (sl_R (mt s)) i) q) + (dv_cl (sl_P (mt s) e) (sl_R (mt s)) i q)))), none, some (.int (nI (q + 1)))], [])) (by decide +kernel) rfl ?_
          dsimp only
          refine ihq _ _ ⟨rfl, by omega, ⟨_, hc2_241, fun k hk => ?_⟩, hc2_238, hc2_239, hc2_242, hc2_243, hc2_244, (hfq.trans (hf2.mono (A' := fun x => x = 241 ∨ x = 242 ∨ x = 243 ∨ x = 244) (fun x q => by omega)))⟩
          by_cases ek : k = q
          · subst ek
            rw [va_up_self, if_pos (by omega)]
          · rw [va_up_ne _ _ ek, hgx k hk]
            by_cases el : k < q
            · rw [if_pos el, if_pos (by omega)]
            · rw [if_neg el, if_neg (by omega)]
    · rintro lo hp ⟨rfl, hq1, ⟨g, hg, hgx⟩, q8, q9, q2, q3, q4, hfq⟩
      refine am_Rq.blk (is := [(.iload 9, 2), (.aload_n 0, 1)]) (q := (25, [some (.ref 238), some (.long (lN A)), none, some (.int (nI e)), some (.long (lN (dv_L (sl_P (mt s) e) (sl_R (mt s)) A i))), none, some (.int (nI i)), some (.long (lN (sp_sm (dv_cl (sl_P (mt s) e) (sl_R (mt s)) i) (s 0 + 1)))), none, some (.int (nI (s 0 + 1)))], [.ref 238, .int (nI (s 0 + 1))])) (by decide +kernel) rfl ?_
      dsimp only
      refine am_Rq.getf (v := .ref 239) (show decode (am_by 125) 25 = .ok (.getfield 7, 3) by decide +kernel) rfl q8 rfl ?_
      refine am_Rq.blk (is := [(.iconst 0, 1)]) (q := (29, [some (.ref 238), some (.long (lN A)), none, some (.int (nI e)), some (.long (lN (dv_L (sl_P (mt s) e) (sl_R (mt s)) A i))), none, some (.int (nI i)), some (.long (lN (sp_sm (dv_cl (sl_P (mt s) e) (sl_R (mt s)) i) (s 0 + 1)))), none, some (.int (nI (s 0 + 1)))], [.int (nI 0), .ref 239, .int (nI (s 0 + 1))])) (by decide +kernel) rfl ?_
      dsimp only
      refine am_Rq.ial (k := 0) (show decode (am_by 125) 29 = .ok (.iaload, 1) by decide +kernel) q9 (by omega) (by omega) ?_
      refine am_Rq.if2T (t := 86) (show decode (am_by 125) 30 = .ok (.if_icmp .gt 56, 3) by decide +kernel) (by decide) (by rw [nm_gt (by omega) (by omega)]; exact decide_eq_true (by omega)) ?_
      have htl : sp_sm (dv_cl (sl_P (mt s) e) (sl_R (mt s)) i) 5 = sp_sm (dv_cl (sl_P (mt s) e) (sl_R (mt s)) i) (s 0 + 1) := sp_sm_tail (fun k k1 k2 => dv_cl_no (sl_P_no (Or.inl (mt_out ok (by omega) k2)))) (by omega)
      rw [← htl]
      have hsm := sp_sm_bd hcl
      have hgy : ∀ k, k < 8 → g k = lN ((fun k => if k < 5 then dv_cl (sl_P (mt s) e) (sl_R (mt s)) i k else 0) k) := fun k hk => by
        rw [hgx k hk]
        by_cases el : k < s 0 + 1
        · rw [if_pos el]
          show _ = lN (if k < 5 then _ else 0)
          rw [if_pos (by omega)]
        · rw [if_neg el]
          show _ = lN (if k < 5 then _ else 0)
          by_cases e5 : k < 5
          · rw [if_pos e5, dv_cl_no (sl_P_no (Or.inl (mt_out ok (by omega) e5)))]
          · rw [if_neg e5]
      rw [c_la_congr hgy] at hg
      show am_Rq _ 125 86 [some (.ref 238), some (.long (lN A)), none, some (.int (nI e)), some (.long (lN (dv_L (sl_P (mt s) e) (sl_R (mt s)) A i))), none, some (.int (nI i)), some (.long (lN (sp_sm (dv_cl (sl_P (mt s) e) (sl_R (mt s)) i) 5))), none, some (.int (nI (s 0 + 1)))] [] _ _
      refine am_Rq.blk (is := [(.lload 4, 2), (.lload 7, 2), (.lcmp, 1)]) (q := (91, [some (.ref 238), some (.long (lN A)), none, some (.int (nI e)), some (.long (lN (dv_L (sl_P (mt s) e) (sl_R (mt s)) A i))), none, some (.int (nI i)), some (.long (lN (sp_sm (dv_cl (sl_P (mt s) e) (sl_R (mt s)) i) 5))), none, some (.int (nI (s 0 + 1)))], [.int (lg_cmp (lN (dv_L (sl_P (mt s) e) (sl_R (mt s)) A i)) (lN (sp_sm (dv_cl (sl_P (mt s) e) (sl_R (mt s)) i) 5)))])) (by decide +kernel) rfl ?_
      dsimp only
      refine am_Rq.if1 (t := 141) (show decode (am_by 125) 91 = .ok (.ifCond .lt 50, 3) by decide +kernel) (by decide) (fun hge => ?_) (fun hge => ?_)
      ·
        have hge := of_decide_eq_true ((nm_clt _ _).symm.trans hge)
        rw [nm_llt (a := (dv_L (sl_P (mt s) e) (sl_R (mt s)) A i)) (b := (sp_sm (dv_cl (sl_P (mt s) e) (sl_R (mt s)) i) 5)) (by omega) (by omega)] at hge
        have hpy : ∀ k, k < 5 → dv_pay (sl_P (mt s) e) (sl_R (mt s)) A i k = sp_sh 8 (dv_L (sl_P (mt s) e) (sl_R (mt s)) A i) (fun k => if k < 5 then dv_cl (sl_P (mt s) e) (sl_R (mt s)) i k else 0) k := fun k hk => by
          unfold dv_pay
          rw [if_neg (by omega), sp_sh_more (n := 5) (by omega) (by omega) (fun k k1 k2 => if_neg (by omega))]
          exact sp_sh_congr (fun k hk => (if_pos hk).symm) hk
        have hp0 : dv_pay (sl_P (mt s) e) (sl_R (mt s)) A i 0 = 0 := by
          rw [hpy 0 (by omega)]
          exact sp_sh_none (by rw [if_pos (by omega)]; exact dv_cl0)
        have hU : ∀ k, k < 8 → (fun k => if k < 5 then dv_cl (sl_P (mt s) e) (sl_R (mt s)) i k else 0) k ≤ 1500000000 := fun k hk => by
          show (if k < 5 then _ else 0) ≤ _
          split
          · exact hcl k (by omega)
          · omega
        refine am_Rq.blk (is := [(.aload_n 0, 1), (.lload 4, 2)]) (q := (144, [some (.ref 238), some (.long (lN A)), none, some (.int (nI e)), some (.long (lN (dv_L (sl_P (mt s) e) (sl_R (mt s)) A i))), none, some (.int (nI i)), some (.long (lN (sp_sm (dv_cl (sl_P (mt s) e) (sl_R (mt s)) i) 5))), none, some (.int (nI (s 0 + 1)))], [.long (lN (dv_L (sl_P (mt s) e) (sl_R (mt s)) A i)), .ref 238])) (by decide +kernel) rfl ?_
        dsimp only
        refine am_Rq.callV (show decode (am_by 125) 144 = .ok (.invokevirtual 106, 3) by decide +kernel) rfl [.long (lN (dv_L (sl_P (mt s) e) (sl_R (mt s)) A i))] [] rfl rfl (Nat.le_of_ble_eq_true rfl) rfl q8 rfl (m_share (u := fun k => if k < 5 then dv_cl (sl_P (mt s) e) (sl_R (mt s)) i k else 0) q8 q2 q3 hg hLi hU) ?_
        rintro hp3 _ ⟨rfl, hPa, ⟨gq, hRe⟩, hf3⟩
        have hc3_238 := (hf3.2.2 (238) (fun q => by omega)).trans q8
        have hc3_239 := (hf3.2.2 (239) (fun q => by omega)).trans q9
        have hc3_244 := (hf3.2.2 (244) (fun q => by omega)).trans q4
        have hc3_241 := (hf3.2.2 (241) (fun q => by omega)).trans hg
        show am_Rq _ 125 147 [some (.ref 238), some (.long (lN A)), none, some (.int (nI e)), some (.long (lN (dv_L (sl_P (mt s) e) (sl_R (mt s)) A i))), none, some (.int (nI i)), some (.long (lN (sp_sm (dv_cl (sl_P (mt s) e) (sl_R (mt s)) i) 5))), none, some (.int (nI (s 0 + 1)))] [.int (nI (am_b (decide (0 < sp_sm (fun k => if k < 5 then dv_cl (sl_P (mt s) e) (sl_R (mt s)) i k else 0) 8))))] _ _
        refine am_Rq.blk (is := [(.pop, 1), (.iconst 1, 1), (.istore 9, 2)]) (q := (151, [some (.ref 238), some (.long (lN A)), none, some (.int (nI e)), some (.long (lN (dv_L (sl_P (mt s) e) (sl_R (mt s)) A i))), none, some (.int (nI i)), some (.long (lN (sp_sm (dv_cl (sl_P (mt s) e) (sl_R (mt s)) i) 5))), none, some (.int (nI 1))], [])) (by decide +kernel) rfl ?_
        dsimp only
        have hfU : am_fr (fun x => x = 241 ∨ x = 242 ∨ x = 243 ∨ x = 244) hz _ := (hfq.trans (hf3.mono (A' := fun x => x = 241 ∨ x = 242 ∨ x = 243 ∨ x = 244) (fun x q => by omega)))
        refine am_for (n := 5) (fun q lo hp => lo = [some (.ref 238), some (.long (lN A)), none, some (.int (nI e)), some (.long (lN (dv_L (sl_P (mt s) e) (sl_R (mt s)) A i))), none, some (.int (nI i)), some (.long (lN (sp_sm (dv_cl (sl_P (mt s) e) (sl_R (mt s)) i) 5))), none, some (.int (nI q))] ∧ 1 ≤ q ∧ (∃ g9 : Nat → Int64, hp[244]? = some (101, am_la g9 5) ∧ (∀ k, k < q → g9 k = lN (dv_D (sl_P (mt s) e) (sl_R (mt s)) A i k + dv_pay (sl_P (mt s) e) (sl_R (mt s)) A i k)) ∧ ∀ k, q ≤ k → k < 5 → g9 k = lN (dv_D (sl_P (mt s) e) (sl_R (mt s)) A i k)) ∧ hp[238]? = some (7, [.int (nI th), .ref 239, .ref 240, .int (nI kn), .ref 241, .ref 242, .ref 243, .ref 244, .long (lN co), .ref 245]) ∧ hp[239]? = some (100, (am_ia (fun i => nI (s i)) 160)) ∧ hp[241]? = some (101, (am_la (fun k => lN ((fun k => if k < 5 then dv_cl (sl_P (mt s) e) (sl_R (mt s)) i k else 0) k)) 8)) ∧ hp[242]? = some (101, (am_la (fun k => lN (sp_sh 8 (dv_L (sl_P (mt s) e) (sl_R (mt s)) A i) (fun k => if k < 5 then dv_cl (sl_P (mt s) e) (sl_R (mt s)) i k else 0) k)) 8)) ∧ hp[243]? = some (101, (am_la gq 8)) ∧ am_fr (fun x => x = 241 ∨ x = 242 ∨ x = 243 ∨ x = 244) hz hp) ?_ ?_ (i := 1) (by omega) ⟨rfl, Nat.le_refl _, ⟨_, hc3_244, fun k hk => ?_, fun k _ _ => rfl⟩, hc3_238, hc3_239, hc3_241, hPa, hRe, hfU⟩
        · rintro q lo hp hq ⟨rfl, hq2, ⟨g9, hg9, hgx9, hgy9⟩, r8, r9, r1, r2, r3, hfr⟩ ihr
          refine am_Rq.blk (is := [(.iload 9, 2), (.iconst 5, 1)]) (q := (154, [some (.ref 238), some (.long (lN A)), none, some (.int (nI e)), some (.long (lN (dv_L (sl_P (mt s) e) (sl_R (mt s)) A i))), none, some (.int (nI i)), some (.long (lN (sp_sm (dv_cl (sl_P (mt s) e) (sl_R (mt s)) i) 5))), none, some (.int (nI q))], [.int (nI 5), .int (nI q)])) (by decide +kernel) rfl ?_
          dsimp only
          refine am_Rq.if2F (show decode (am_by 125) 154 = .ok (.if_icmp .ge 31, 3) by decide +kernel) (by decide) (by rw [nm_ge (by omega) (by omega)]; exact decide_eq_false (by omega)) ?_
          refine am_Rq.blk (is := [(.aload_n 0, 1)]) (q := (158, [some (.ref 238), some (.long (lN A)), none, some (.int (nI e)), some (.long (lN (dv_L (sl_P (mt s) e) (sl_R (mt s)) A i))), none, some (.int (nI i)), some (.long (lN (sp_sm (dv_cl (sl_P (mt s) e) (sl_R (mt s)) i) 5))), none, some (.int (nI q))], [.ref 238])) (by decide +kernel) rfl ?_
          dsimp only
          refine am_Rq.getf (v := .ref 244) (show decode (am_by 125) 158 = .ok (.getfield 26, 3) by decide +kernel) rfl r8 rfl ?_
          refine am_Rq.blk (is := [(.iload 9, 2), (.aload_n 0, 1)]) (q := (164, [some (.ref 238), some (.long (lN A)), none, some (.int (nI e)), some (.long (lN (dv_L (sl_P (mt s) e) (sl_R (mt s)) A i))), none, some (.int (nI i)), some (.long (lN (sp_sm (dv_cl (sl_P (mt s) e) (sl_R (mt s)) i) 5))), none, some (.int (nI q))], [.ref 238, .int (nI q), .ref 244])) (by decide +kernel) rfl ?_
          dsimp only
          refine am_Rq.getf (v := .ref 244) (show decode (am_by 125) 164 = .ok (.getfield 26, 3) by decide +kernel) rfl r8 rfl ?_
          refine am_Rq.blk (is := [(.iload 9, 2)]) (q := (169, [some (.ref 238), some (.long (lN A)), none, some (.int (nI e)), some (.long (lN (dv_L (sl_P (mt s) e) (sl_R (mt s)) A i))), none, some (.int (nI i)), some (.long (lN (sp_sm (dv_cl (sl_P (mt s) e) (sl_R (mt s)) i) 5))), none, some (.int (nI q))], [.int (nI q), .ref 244, .int (nI q), .ref 244])) (by decide +kernel) rfl ?_
          dsimp only
          refine am_Rq.lal (k := q) (show decode (am_by 125) 169 = .ok (.laload, 1) by decide +kernel) hg9 (by omega) (by omega) ?_
          rw [hgy9 q (by omega) hq]
          refine am_Rq.blk (is := [(.aload_n 0, 1)]) (q := (171, [some (.ref 238), some (.long (lN A)), none, some (.int (nI e)), some (.long (lN (dv_L (sl_P (mt s) e) (sl_R (mt s)) A i))), none, some (.int (nI i)), some (.long (lN (sp_sm (dv_cl (sl_P (mt s) e) (sl_R (mt s)) i) 5))), none, some (.int (nI q))], [.ref 238, .long (lN (dv_D (sl_P (mt s) e) (sl_R (mt s)) A i q)), .int (nI q), .ref 244])) (by decide +kernel) rfl ?_
          dsimp only
          refine am_Rq.getf (v := .ref 242) (show decode (am_by 125) 171 = .ok (.getfield 20, 3) by decide +kernel) rfl r8 rfl ?_
          refine am_Rq.blk (is := [(.iload 9, 2)]) (q := (176, [some (.ref 238), some (.long (lN A)), none, some (.int (nI e)), some (.long (lN (dv_L (sl_P (mt s) e) (sl_R (mt s)) A i))), none, some (.int (nI i)), some (.long (lN (sp_sm (dv_cl (sl_P (mt s) e) (sl_R (mt s)) i) 5))), none, some (.int (nI q))], [.int (nI q), .ref 242, .long (lN (dv_D (sl_P (mt s) e) (sl_R (mt s)) A i q)), .int (nI q), .ref 244])) (by decide +kernel) rfl ?_
          dsimp only
          refine am_Rq.lal (k := q) (show decode (am_by 125) 176 = .ok (.laload, 1) by decide +kernel) r2 (by omega) (by omega) ?_
          rw [← hpy q hq]
          refine am_Rq.blk (is := [(.ladd, 1)]) (q := (178, [some (.ref 238), some (.long (lN A)), none, some (.int (nI e)), some (.long (lN (dv_L (sl_P (mt s) e) (sl_R (mt s)) A i))), none, some (.int (nI i)), some (.long (lN (sp_sm (dv_cl (sl_P (mt s) e) (sl_R (mt s)) i) 5))), none, some (.int (nI q))], [.long ((lN (dv_D (sl_P (mt s) e) (sl_R (mt s)) A i q)) + (lN (dv_pay (sl_P (mt s) e) (sl_R (mt s)) A i q))), .int (nI q), .ref 244])) (by decide +kernel) rfl ?_
          dsimp only
          rw [show (lN (dv_D (sl_P (mt s) e) (sl_R (mt s)) A i q)) + (lN (dv_pay (sl_P (mt s) e) (sl_R (mt s)) A i q)) = lN ((dv_D (sl_P (mt s) e) (sl_R (mt s)) A i q) + (dv_pay (sl_P (mt s) e) (sl_R (mt s)) A i q)) from lN_add _ _]
          refine am_Rq.las (k := q) (x := lN ((dv_D (sl_P (mt s) e) (sl_R (mt s)) A i q) + (dv_pay (sl_P (mt s) e) (sl_R (mt s)) A i q))) (show decode (am_by 125) 178 = .ok (.lastore, 1) by decide +kernel) hg9 (by omega) (by omega) (by omega) ?_
          have hc4_238 := (am_sn (c' := (101, (am_la (va_up g9 q (lN ((dv_D (sl_P (mt s) e) (sl_R (mt s)) A i q) + (dv_pay (sl_P (mt s) e) (sl_R (mt s)) A i q)))) 5))) (show 244 ≠ 238 by omega)).trans r8
          have hc4_239 := (am_sn (c' := (101, (am_la (va_up g9 q (lN ((dv_D (sl_P (mt s) e) (sl_R (mt s)) A i q) + (dv_pay (sl_P (mt s) e) (sl_R (mt s)) A i q)))) 5))) (show 244 ≠ 239 by omega)).trans r9
          have hc4_241 := (am_sn (c' := (101, (am_la (va_up g9 q (lN ((dv_D (sl_P (mt s) e) (sl_R (mt s)) A i q) + (dv_pay (sl_P (mt s) e) (sl_R (mt s)) A i q)))) 5))) (show 244 ≠ 241 by omega)).trans r1
          have hc4_242 := (am_sn (c' := (101, (am_la (va_up g9 q (lN ((dv_D (sl_P (mt s) e) (sl_R (mt s)) A i q) + (dv_pay (sl_P (mt s) e) (sl_R (mt s)) A i q)))) 5))) (show 244 ≠ 242 by omega)).trans r2
          have hc4_243 := (am_sn (c' := (101, (am_la (va_up g9 q (lN ((dv_D (sl_P (mt s) e) (sl_R (mt s)) A i q) + (dv_pay (sl_P (mt s) e) (sl_R (mt s)) A i q)))) 5))) (show 244 ≠ 243 by omega)).trans r3
          have hc4_244 := am_ss (c' := (101, (am_la (va_up g9 q (lN ((dv_D (sl_P (mt s) e) (sl_R (mt s)) A i q) + (dv_pay (sl_P (mt s) e) (sl_R (mt s)) A i q)))) 5))) hg9
          have hf4 := (am_fr.rf (A := fun q => q = 244)).set (c' := (101, (am_la (va_up g9 q (lN ((dv_D (sl_P (mt s) e) (sl_R (mt s)) A i q) + (dv_pay (sl_P (mt s) e) (sl_R (mt s)) A i q)))) 5))) rfl hg9 (by simp [am_ia_len, am_la_len])
          generalize hze4 : (List.set _ 244 _ : am_H) = hz4 at hf4 hc4_238 hc4_239 hc4_241 hc4_242 hc4_243 hc4_244 ⊢
          clear hze4
          refine am_Rq.blk (is := [(.iinc 9 1, 3)]) (q := (182, [some (.ref 238), some (.long (lN A)), none, some (.int (nI e)), some (.long (lN (dv_L (sl_P (mt s) e) (sl_R (mt s)) A i))), none, some (.int (nI i)), some (.long (lN (sp_sm (dv_cl (sl_P (mt s) e) (sl_R (mt s)) i) 5))), none, some (.int ((nI q) + (nI 1)))], [])) (by decide +kernel) rfl ?_
          dsimp only
          rw [show (nI q) + (nI 1) = nI (q + 1) from nI_add _ _]
          refine am_Rq.blk (is := [(.goto (-31), 3)]) (q := (151, [some (.ref 238), some (.long (lN A)), none, some (.int (nI e)), some (.long (lN (dv_L (sl_P (mt s) e) (sl_R (mt s)) A i))), none, some (.int (nI i)), some (.long (lN (sp_sm (dv_cl (sl_P (mt s) e) (sl_R (mt s)) i) 5))), none, some (.int (nI (q + 1)))], [])) (by decide +kernel) rfl ?_
          dsimp only
          refine ihr _ _ ⟨rfl, by omega, ⟨_, hc4_244, fun k hk => ?_, fun k k1 k2 => ?_⟩, hc4_238, hc4_239, hc4_241, hc4_242, hc4_243, (hfr.trans (hf4.mono (A' := fun x => x = 241 ∨ x = 242 ∨ x = 243 ∨ x = 244) (fun x q => by omega)))⟩
          · by_cases ek : k = q
            · rw [ek, va_up_self]
            · rw [va_up_ne _ _ ek]; exact hgx9 k (by omega)
          · rw [va_up_ne _ _ (by omega)]; exact hgy9 k (by omega) k2
        · rintro lo hp ⟨rfl, hq2, ⟨g9, hg9, hgx9, hgy9⟩, r8, r9, r1, r2, r3, hfr⟩
          refine am_Rq.blk (is := [(.iload 9, 2), (.iconst 5, 1)]) (q := (154, [some (.ref 238), some (.long (lN A)), none, some (.int (nI e)), some (.long (lN (dv_L (sl_P (mt s) e) (sl_R (mt s)) A i))), none, some (.int (nI i)), some (.long (lN (sp_sm (dv_cl (sl_P (mt s) e) (sl_R (mt s)) i) 5))), none, some (.int (nI 5))], [.int (nI 5), .int (nI 5)])) (by decide +kernel) rfl ?_
          dsimp only
          refine am_Rq.if2T (t := 185) (show decode (am_by 125) 154 = .ok (.if_icmp .ge 31, 3) by decide +kernel) (by decide) (by rw [nm_ge (by omega) (by omega)]; exact decide_eq_true (by omega)) ?_
          refine am_Rq.blk (is := [(.lconst 0, 1), (.lstore 4, 2), (.iinc 6 1, 3)]) (q := (191, [some (.ref 238), some (.long (lN A)), none, some (.int (nI e)), some (.long (lN 0)), none, some (.int ((nI i) + (nI 1))), some (.long (lN (sp_sm (dv_cl (sl_P (mt s) e) (sl_R (mt s)) i) 5))), none, some (.int (nI 5))], [])) (by decide +kernel) rfl ?_
          dsimp only
          rw [show (nI i) + (nI 1) = nI (i + 1) from nI_add _ _]
          refine am_Rq.blk (is := [(.goto (-185), 3)]) (q := (6, [some (.ref 238), some (.long (lN A)), none, some (.int (nI e)), some (.long (lN 0)), none, some (.int (nI (i + 1))), some (.long (lN (sp_sm (dv_cl (sl_P (mt s) e) (sl_R (mt s)) i) 5))), none, some (.int (nI 5))], [])) (by decide +kernel) rfl ?_
          dsimp only
          refine ih _ _ ⟨some (.long (lN (sp_sm (dv_cl (sl_P (mt s) e) (sl_R (mt s)) i) 5))), none, some (.int (nI 5)), ?_, ?_, ⟨_, r1⟩, ⟨_, r2⟩, ⟨_, r3⟩, r8, r9, hfr⟩
          rotate_left
          · exact (by rw [hg9, c_la_congr (fun k hk => hgx9 k hk)]; rfl)
          · rw [show dv_L (sl_P (mt s) e) (sl_R (mt s)) A (i + 1) = 0 by show dv_L (sl_P (mt s) e) (sl_R (mt s)) A i - sp_sm (dv_cl (sl_P (mt s) e) (sl_R (mt s)) i) 5 = 0; omega]
        · have : k = 0 := by omega
          subst this
          rw [hp0, Nat.add_zero]
      ·
        have hge := of_decide_eq_false ((nm_clt _ _).symm.trans hge)
        rw [nm_llt (a := (dv_L (sl_P (mt s) e) (sl_R (mt s)) A i)) (b := (sp_sm (dv_cl (sl_P (mt s) e) (sl_R (mt s)) i) 5)) (by omega) (by omega)] at hge
        have hpy : ∀ k, k < 5 → dv_pay (sl_P (mt s) e) (sl_R (mt s)) A i k = dv_cl (sl_P (mt s) e) (sl_R (mt s)) i k := fun k hk => by unfold dv_pay; rw [if_pos (by omega)]
        have hp0 : dv_pay (sl_P (mt s) e) (sl_R (mt s)) A i 0 = 0 := by
          rw [hpy 0 (by omega)]
          exact dv_cl0
        refine am_Rq.blk (is := [(.iconst 1, 1), (.istore 9, 2)]) (q := (97, [some (.ref 238), some (.long (lN A)), none, some (.int (nI e)), some (.long (lN (dv_L (sl_P (mt s) e) (sl_R (mt s)) A i))), none, some (.int (nI i)), some (.long (lN (sp_sm (dv_cl (sl_P (mt s) e) (sl_R (mt s)) i) 5))), none, some (.int (nI 1))], [])) (by decide +kernel) rfl ?_
        dsimp only
        have hfU : am_fr (fun x => x = 241 ∨ x = 242 ∨ x = 243 ∨ x = 244) hz _ := hfq
        refine am_for (n := 5) (fun q lo hp => lo = [some (.ref 238), some (.long (lN A)), none, some (.int (nI e)), some (.long (lN (dv_L (sl_P (mt s) e) (sl_R (mt s)) A i))), none, some (.int (nI i)), some (.long (lN (sp_sm (dv_cl (sl_P (mt s) e) (sl_R (mt s)) i) 5))), none, some (.int (nI q))] ∧ 1 ≤ q ∧ (∃ g9 : Nat → Int64, hp[244]? = some (101, am_la g9 5) ∧ (∀ k, k < q → g9 k = lN (dv_D (sl_P (mt s) e) (sl_R (mt s)) A i k + dv_pay (sl_P (mt s) e) (sl_R (mt s)) A i k)) ∧ ∀ k, q ≤ k → k < 5 → g9 k = lN (dv_D (sl_P (mt s) e) (sl_R (mt s)) A i k)) ∧ hp[238]? = some (7, [.int (nI th), .ref 239, .ref 240, .int (nI kn), .ref 241, .ref 242, .ref 243, .ref 244, .long (lN co), .ref 245]) ∧ hp[239]? = some (100, (am_ia (fun i => nI (s i)) 160)) ∧ hp[241]? = some (101, (am_la (fun k => lN ((fun k => if k < 5 then dv_cl (sl_P (mt s) e) (sl_R (mt s)) i k else 0) k)) 8)) ∧ hp[242]? = some (101, (am_la w2 8)) ∧ hp[243]? = some (101, (am_la w3 8)) ∧ am_fr (fun x => x = 241 ∨ x = 242 ∨ x = 243 ∨ x = 244) hz hp) ?_ ?_ (i := 1) (by omega) ⟨rfl, Nat.le_refl _, ⟨_, q4, fun k hk => ?_, fun k _ _ => rfl⟩, q8, q9, hg, q2, q3, hfU⟩
        · rintro q lo hp hq ⟨rfl, hq2, ⟨g9, hg9, hgx9, hgy9⟩, r8, r9, r1, r2, r3, hfr⟩ ihr
          refine am_Rq.blk (is := [(.iload 9, 2), (.iconst 5, 1)]) (q := (100, [some (.ref 238), some (.long (lN A)), none, some (.int (nI e)), some (.long (lN (dv_L (sl_P (mt s) e) (sl_R (mt s)) A i))), none, some (.int (nI i)), some (.long (lN (sp_sm (dv_cl (sl_P (mt s) e) (sl_R (mt s)) i) 5))), none, some (.int (nI q))], [.int (nI 5), .int (nI q)])) (by decide +kernel) rfl ?_
          dsimp only
          refine am_Rq.if2F (show decode (am_by 125) 100 = .ok (.if_icmp .ge 31, 3) by decide +kernel) (by decide) (by rw [nm_ge (by omega) (by omega)]; exact decide_eq_false (by omega)) ?_
          refine am_Rq.blk (is := [(.aload_n 0, 1)]) (q := (104, [some (.ref 238), some (.long (lN A)), none, some (.int (nI e)), some (.long (lN (dv_L (sl_P (mt s) e) (sl_R (mt s)) A i))), none, some (.int (nI i)), some (.long (lN (sp_sm (dv_cl (sl_P (mt s) e) (sl_R (mt s)) i) 5))), none, some (.int (nI q))], [.ref 238])) (by decide +kernel) rfl ?_
          dsimp only
          refine am_Rq.getf (v := .ref 244) (show decode (am_by 125) 104 = .ok (.getfield 26, 3) by decide +kernel) rfl r8 rfl ?_
          refine am_Rq.blk (is := [(.iload 9, 2), (.aload_n 0, 1)]) (q := (110, [some (.ref 238), some (.long (lN A)), none, some (.int (nI e)), some (.long (lN (dv_L (sl_P (mt s) e) (sl_R (mt s)) A i))), none, some (.int (nI i)), some (.long (lN (sp_sm (dv_cl (sl_P (mt s) e) (sl_R (mt s)) i) 5))), none, some (.int (nI q))], [.ref 238, .int (nI q), .ref 244])) (by decide +kernel) rfl ?_
          dsimp only
          refine am_Rq.getf (v := .ref 244) (show decode (am_by 125) 110 = .ok (.getfield 26, 3) by decide +kernel) rfl r8 rfl ?_
          refine am_Rq.blk (is := [(.iload 9, 2)]) (q := (115, [some (.ref 238), some (.long (lN A)), none, some (.int (nI e)), some (.long (lN (dv_L (sl_P (mt s) e) (sl_R (mt s)) A i))), none, some (.int (nI i)), some (.long (lN (sp_sm (dv_cl (sl_P (mt s) e) (sl_R (mt s)) i) 5))), none, some (.int (nI q))], [.int (nI q), .ref 244, .int (nI q), .ref 244])) (by decide +kernel) rfl ?_
          dsimp only
          refine am_Rq.lal (k := q) (show decode (am_by 125) 115 = .ok (.laload, 1) by decide +kernel) hg9 (by omega) (by omega) ?_
          rw [hgy9 q (by omega) hq]
          refine am_Rq.blk (is := [(.aload_n 0, 1)]) (q := (117, [some (.ref 238), some (.long (lN A)), none, some (.int (nI e)), some (.long (lN (dv_L (sl_P (mt s) e) (sl_R (mt s)) A i))), none, some (.int (nI i)), some (.long (lN (sp_sm (dv_cl (sl_P (mt s) e) (sl_R (mt s)) i) 5))), none, some (.int (nI q))], [.ref 238, .long (lN (dv_D (sl_P (mt s) e) (sl_R (mt s)) A i q)), .int (nI q), .ref 244])) (by decide +kernel) rfl ?_
          dsimp only
          refine am_Rq.getf (v := .ref 241) (show decode (am_by 125) 117 = .ok (.getfield 16, 3) by decide +kernel) rfl r8 rfl ?_
          refine am_Rq.blk (is := [(.iload 9, 2)]) (q := (122, [some (.ref 238), some (.long (lN A)), none, some (.int (nI e)), some (.long (lN (dv_L (sl_P (mt s) e) (sl_R (mt s)) A i))), none, some (.int (nI i)), some (.long (lN (sp_sm (dv_cl (sl_P (mt s) e) (sl_R (mt s)) i) 5))), none, some (.int (nI q))], [.int (nI q), .ref 241, .long (lN (dv_D (sl_P (mt s) e) (sl_R (mt s)) A i q)), .int (nI q), .ref 244])) (by decide +kernel) rfl ?_
          dsimp only
          refine am_Rq.lal (k := q) (show decode (am_by 125) 122 = .ok (.laload, 1) by decide +kernel) r1 (by omega) (by omega) ?_
          rw [show (fun k => if k < 5 then dv_cl (sl_P (mt s) e) (sl_R (mt s)) i k else 0) q = dv_pay (sl_P (mt s) e) (sl_R (mt s)) A i q from (if_pos hq).trans (hpy q hq).symm]
          refine am_Rq.blk (is := [(.ladd, 1)]) (q := (124, [some (.ref 238), some (.long (lN A)), none, some (.int (nI e)), some (.long (lN (dv_L (sl_P (mt s) e) (sl_R (mt s)) A i))), none, some (.int (nI i)), some (.long (lN (sp_sm (dv_cl (sl_P (mt s) e) (sl_R (mt s)) i) 5))), none, some (.int (nI q))], [.long ((lN (dv_D (sl_P (mt s) e) (sl_R (mt s)) A i q)) + (lN (dv_pay (sl_P (mt s) e) (sl_R (mt s)) A i q))), .int (nI q), .ref 244])) (by decide +kernel) rfl ?_
          dsimp only
          rw [show (lN (dv_D (sl_P (mt s) e) (sl_R (mt s)) A i q)) + (lN (dv_pay (sl_P (mt s) e) (sl_R (mt s)) A i q)) = lN ((dv_D (sl_P (mt s) e) (sl_R (mt s)) A i q) + (dv_pay (sl_P (mt s) e) (sl_R (mt s)) A i q)) from lN_add _ _]
          refine am_Rq.las (k := q) (x := lN ((dv_D (sl_P (mt s) e) (sl_R (mt s)) A i q) + (dv_pay (sl_P (mt s) e) (sl_R (mt s)) A i q))) (show decode (am_by 125) 124 = .ok (.lastore, 1) by decide +kernel) hg9 (by omega) (by omega) (by omega) ?_
          have hc5_238 := (am_sn (c' := (101, (am_la (va_up g9 q (lN ((dv_D (sl_P (mt s) e) (sl_R (mt s)) A i q) + (dv_pay (sl_P (mt s) e) (sl_R (mt s)) A i q)))) 5))) (show 244 ≠ 238 by omega)).trans r8
          have hc5_239 := (am_sn (c' := (101, (am_la (va_up g9 q (lN ((dv_D (sl_P (mt s) e) (sl_R (mt s)) A i q) + (dv_pay (sl_P (mt s) e) (sl_R (mt s)) A i q)))) 5))) (show 244 ≠ 239 by omega)).trans r9
          have hc5_241 := (am_sn (c' := (101, (am_la (va_up g9 q (lN ((dv_D (sl_P (mt s) e) (sl_R (mt s)) A i q) + (dv_pay (sl_P (mt s) e) (sl_R (mt s)) A i q)))) 5))) (show 244 ≠ 241 by omega)).trans r1
          have hc5_242 := (am_sn (c' := (101, (am_la (va_up g9 q (lN ((dv_D (sl_P (mt s) e) (sl_R (mt s)) A i q) + (dv_pay (sl_P (mt s) e) (sl_R (mt s)) A i q)))) 5))) (show 244 ≠ 242 by omega)).trans r2
          have hc5_243 := (am_sn (c' := (101, (am_la (va_up g9 q (lN ((dv_D (sl_P (mt s) e) (sl_R (mt s)) A i q) + (dv_pay (sl_P (mt s) e) (sl_R (mt s)) A i q)))) 5))) (show 244 ≠ 243 by omega)).trans r3
          have hc5_244 := am_ss (c' := (101, (am_la (va_up g9 q (lN ((dv_D (sl_P (mt s) e) (sl_R (mt s)) A i q) + (dv_pay (sl_P (mt s) e) (sl_R (mt s)) A i q)))) 5))) hg9
          have hf5 := (am_fr.rf (A := fun q => q = 244)).set (c' := (101, (am_la (va_up g9 q (lN ((dv_D (sl_P (mt s) e) (sl_R (mt s)) A i q) + (dv_pay (sl_P (mt s) e) (sl_R (mt s)) A i q)))) 5))) rfl hg9 (by simp [am_ia_len, am_la_len])
          generalize hze5 : (List.set _ 244 _ : am_H) = hz5 at hf5 hc5_238 hc5_239 hc5_241 hc5_242 hc5_243 hc5_244 ⊢
          clear hze5
          refine am_Rq.blk (is := [(.iinc 9 1, 3)]) (q := (128, [some (.ref 238), some (.long (lN A)), none, some (.int (nI e)), some (.long (lN (dv_L (sl_P (mt s) e) (sl_R (mt s)) A i))), none, some (.int (nI i)), some (.long (lN (sp_sm (dv_cl (sl_P (mt s) e) (sl_R (mt s)) i) 5))), none, some (.int ((nI q) + (nI 1)))], [])) (by decide +kernel) rfl ?_
          dsimp only
          rw [show (nI q) + (nI 1) = nI (q + 1) from nI_add _ _]
          refine am_Rq.blk (is := [(.goto (-31), 3)]) (q := (97, [some (.ref 238), some (.long (lN A)), none, some (.int (nI e)), some (.long (lN (dv_L (sl_P (mt s) e) (sl_R (mt s)) A i))), none, some (.int (nI i)), some (.long (lN (sp_sm (dv_cl (sl_P (mt s) e) (sl_R (mt s)) i) 5))), none, some (.int (nI (q + 1)))], [])) (by decide +kernel) rfl ?_
          dsimp only
          refine ihr _ _ ⟨rfl, by omega, ⟨_, hc5_244, fun k hk => ?_, fun k k1 k2 => ?_⟩, hc5_238, hc5_239, hc5_241, hc5_242, hc5_243, (hfr.trans (hf5.mono (A' := fun x => x = 241 ∨ x = 242 ∨ x = 243 ∨ x = 244) (fun x q => by omega)))⟩
          · by_cases ek : k = q
            · rw [ek, va_up_self]
            · rw [va_up_ne _ _ ek]; exact hgx9 k (by omega)
          · rw [va_up_ne _ _ (by omega)]; exact hgy9 k (by omega) k2
        · rintro lo hp ⟨rfl, hq2, ⟨g9, hg9, hgx9, hgy9⟩, r8, r9, r1, r2, r3, hfr⟩
          refine am_Rq.blk (is := [(.iload 9, 2), (.iconst 5, 1)]) (q := (100, [some (.ref 238), some (.long (lN A)), none, some (.int (nI e)), some (.long (lN (dv_L (sl_P (mt s) e) (sl_R (mt s)) A i))), none, some (.int (nI i)), some (.long (lN (sp_sm (dv_cl (sl_P (mt s) e) (sl_R (mt s)) i) 5))), none, some (.int (nI 5))], [.int (nI 5), .int (nI 5)])) (by decide +kernel) rfl ?_
          dsimp only
          refine am_Rq.if2T (t := 131) (show decode (am_by 125) 100 = .ok (.if_icmp .ge 31, 3) by decide +kernel) (by decide) (by rw [nm_ge (by omega) (by omega)]; exact decide_eq_true (by omega)) ?_
          refine am_Rq.blk (is := [(.lload 4, 2), (.lload 7, 2), (.lsub, 1)]) (q := (136, [some (.ref 238), some (.long (lN A)), none, some (.int (nI e)), some (.long (lN (dv_L (sl_P (mt s) e) (sl_R (mt s)) A i))), none, some (.int (nI i)), some (.long (lN (sp_sm (dv_cl (sl_P (mt s) e) (sl_R (mt s)) i) 5))), none, some (.int (nI 5))], [.long ((lN (dv_L (sl_P (mt s) e) (sl_R (mt s)) A i)) - (lN (sp_sm (dv_cl (sl_P (mt s) e) (sl_R (mt s)) i) 5)))])) (by decide +kernel) rfl ?_
          dsimp only
          rw [show (lN (dv_L (sl_P (mt s) e) (sl_R (mt s)) A i)) - (lN (sp_sm (dv_cl (sl_P (mt s) e) (sl_R (mt s)) i) 5)) = lN ((dv_L (sl_P (mt s) e) (sl_R (mt s)) A i) - (sp_sm (dv_cl (sl_P (mt s) e) (sl_R (mt s)) i) 5)) from lN_sub (by omega)]
          refine am_Rq.blk (is := [(.lstore 4, 2), (.goto 50, 3)]) (q := (188, [some (.ref 238), some (.long (lN A)), none, some (.int (nI e)), some (.long (lN ((dv_L (sl_P (mt s) e) (sl_R (mt s)) A i) - (sp_sm (dv_cl (sl_P (mt s) e) (sl_R (mt s)) i) 5)))), none, some (.int (nI i)), some (.long (lN (sp_sm (dv_cl (sl_P (mt s) e) (sl_R (mt s)) i) 5))), none, some (.int (nI 5))], [])) (by decide +kernel) rfl ?_
          dsimp only
          refine am_Rq.blk (is := [(.iinc 6 1, 3)]) (q := (191, [some (.ref 238), some (.long (lN A)), none, some (.int (nI e)), some (.long (lN ((dv_L (sl_P (mt s) e) (sl_R (mt s)) A i) - (sp_sm (dv_cl (sl_P (mt s) e) (sl_R (mt s)) i) 5)))), none, some (.int ((nI i) + (nI 1))), some (.long (lN (sp_sm (dv_cl (sl_P (mt s) e) (sl_R (mt s)) i) 5))), none, some (.int (nI 5))], [])) (by decide +kernel) rfl ?_
          dsimp only
          rw [show (nI i) + (nI 1) = nI (i + 1) from nI_add _ _]
          refine am_Rq.blk (is := [(.goto (-185), 3)]) (q := (6, [some (.ref 238), some (.long (lN A)), none, some (.int (nI e)), some (.long (lN ((dv_L (sl_P (mt s) e) (sl_R (mt s)) A i) - (sp_sm (dv_cl (sl_P (mt s) e) (sl_R (mt s)) i) 5)))), none, some (.int (nI (i + 1))), some (.long (lN (sp_sm (dv_cl (sl_P (mt s) e) (sl_R (mt s)) i) 5))), none, some (.int (nI 5))], [])) (by decide +kernel) rfl ?_
          dsimp only
          refine ih _ _ ⟨some (.long (lN (sp_sm (dv_cl (sl_P (mt s) e) (sl_R (mt s)) i) 5))), none, some (.int (nI 5)), ?_, ?_, ⟨_, r1⟩, ⟨_, r2⟩, ⟨_, r3⟩, r8, r9, hfr⟩
          rotate_left
          · exact (by rw [hg9, c_la_congr (fun k hk => hgx9 k hk)]; rfl)
          · rfl
        · have : k = 0 := by omega
          subst this
          rw [hp0, Nat.add_zero]
    · rw [show sp_sm (dv_cl (sl_P (mt s) e) (sl_R (mt s)) i) 1 = 0 by simp only [sp_sm]; rw [dv_cl0]]
    · by_cases e1 : k < 1
      · rw [if_pos e1, show k = 0 by omega, dv_cl0]
      · rw [if_neg e1]
  · rintro lo hp ⟨z7, z8, z9, rfl, hG, ⟨w1, h1⟩, ⟨w2, h2⟩, ⟨w3, h3⟩, hM, hS, hf0⟩
    refine am_Rq.blk (is := [(.iload 6, 2), (.iconst 4, 1)]) (q := (9, [some (.ref 238), some (.long (lN A)), none, some (.int (nI e)), some (.long (lN (dv_L (sl_P (mt s) e) (sl_R (mt s)) A 4))), none, some (.int (nI 4)), z7, z8, z9], [.int (nI 4), .int (nI 4)])) (by decide +kernel) rfl ?_
    dsimp only
    refine am_Rq.if2T (t := 194) (show decode (am_by 125) 9 = .ok (.if_icmp .ge 185, 3) by decide +kernel) (by decide) (by rw [nm_ge (by omega) (by omega)]; exact decide_eq_true (by omega)) ?_
    refine am_Rq.blk (is := [(.lload 4, 2)]) (q := (196, [some (.ref 238), some (.long (lN A)), none, some (.int (nI e)), some (.long (lN (dv_L (sl_P (mt s) e) (sl_R (mt s)) A 4))), none, some (.int (nI 4)), z7, z8, z9], [.long (lN (dv_L (sl_P (mt s) e) (sl_R (mt s)) A 4))])) (by decide +kernel) rfl ?_
    dsimp only
    refine am_Rq.ret (v := some (.long (lN (dv_L (sl_P (mt s) e) (sl_R (mt s)) A 4)))) (show decode (am_by 125) 196 = .ok (.lreturn, 1) by decide +kernel) rfl rfl ?_
    exact ⟨_, rfl, rfl, hG, ⟨_, h1⟩, ⟨_, h2⟩, ⟨_, h3⟩, hf0⟩
end M16
