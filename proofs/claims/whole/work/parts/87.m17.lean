/-! The reference's sale: payRest (rows by prog/m17.py). -/
section M17
variable {d : Nat} {hp : am_H}
theorem m_rest1 {th kn : Nat} (hM : hp[238]? = some (7, [.int (nI th), .ref 239, .ref 240, .int (nI kn), .ref 241, .ref 242, .ref 243, .ref 244, .long (lN 0), .ref 245])) {f2 f3 : Nat → Int64} (h2 : hp[242]? = some (101, am_la f2 8)) (h3 : hp[243]? = some (101, am_la f3 8)) {L1 : Nat} (hL : L1 ≤ 2000000000) {W1 D1 : Nat → Nat} (hW : ∀ c, c < 5 → W1 c ≤ 20000000) (h1 : hp[241]? = some (101, am_la (fun k => lN ((fun k => if k < 5 then W1 k else 0) k)) 8)) (h4 : hp[244]? = some (101, am_la (fun c => lN (D1 c)) 5)) {L0 e : Nat} {x8 : Int32} {z6 z7 z9 z10 z11 z12 : Option Value} : am_Rq (d + 2) 131 259 [some (.ref 238), some (.long (lN L0)), none, some (.int (nI e)), some (.long (lN L1)), none, z6, z7, some (.int x8), z9, z10, z11, z12] [] hp (am_Ret fun hp1 v => v = none ∧ hp1[238]? = some (7, [.int (nI th), .ref 239, .ref 240, .int (nI kn), .ref 241, .ref 242, .ref 243, .ref 244, .long (lN (if sp_sm (W1) 5 = 0 then L1 else 0)), .ref 245]) ∧ hp1[244]? = some (101, am_la (fun c => lN (D1 c + sp_sh 5 (L1) (W1) c)) 5) ∧ (∃ f : Nat → Int64, hp1[241]? = some (101, am_la f 8)) ∧ (∃ f : Nat → Int64, hp1[242]? = some (101, am_la f 8)) ∧ (∃ f : Nat → Int64, hp1[243]? = some (101, am_la f 8)) ∧ am_fr (fun x => x = 238 ∨ x = 241 ∨ x = 242 ∨ x = 243 ∨ x = 244) hp hp1) := by
  have hU : ∀ k, k < 8 → (fun k => if k < 5 then W1 k else 0) k ≤ 1500000000 := fun k hk => by
    show (if k < 5 then _ else 0) ≤ _
    split
    · have := hW k (by omega); omega
    · omega
  have hsu : sp_sm (fun k => if k < 5 then W1 k else 0) 8 = sp_sm W1 5 := by
    rw [sp_sm_tail (n := 5) (fun k k1 k2 => if_neg (by omega)) (by omega)]
    exact sp_sm_congr (fun k hk => if_pos hk)
  have hsh : ∀ k, k < 5 → sp_sh 8 L1 (fun k => if k < 5 then W1 k else 0) k = sp_sh 5 L1 W1 k := fun k hk => by
    rw [sp_sh_more (n := 5) (by omega) (by omega) (fun k k1 k2 => if_neg (by omega))]
    exact sp_sh_congr (fun k hk => if_pos hk) hk
  refine am_Rq.blk (is := [(.aload_n 0, 1), (.lload 4, 2)]) (q := (262, [some (.ref 238), some (.long (lN L0)), none, some (.int (nI e)), some (.long (lN L1)), none, z6, z7, some (.int x8), z9, z10, z11, z12], [.long (lN L1), .ref 238])) (by decide +kernel) rfl ?_
  dsimp only
  refine am_Rq.callV (show decode (am_by 131) 262 = .ok (.invokevirtual 106, 3) by decide +kernel) rfl [.long (lN L1)] [] rfl rfl (Nat.le_of_ble_eq_true rfl) rfl hM rfl (m_share (u := fun k => if k < 5 then W1 k else 0) hM h2 h3 h1 hL hU) ?_
  rintro hp1 _ ⟨rfl, hPa, ⟨gq, hRe⟩, hf1⟩
  have hc1_238 := (hf1.2.2 (238) (fun q => by omega)).trans hM
  have hc1_241 := (hf1.2.2 (241) (fun q => by omega)).trans h1
  have hc1_244 := (hf1.2.2 (244) (fun q => by omega)).trans h4
  show am_Rq _ 131 265 [some (.ref 238), some (.long (lN L0)), none, some (.int (nI e)), some (.long (lN L1)), none, z6, z7, some (.int x8), z9, z10, z11, z12] [.int (nI (am_b (decide (0 < sp_sm (fun k => if k < 5 then W1 k else 0) 8))))] _ _
  rw [hsu]
  show am_Rq _ 131 265 [some (.ref 238), some (.long (lN L0)), none, some (.int (nI e)), some (.long (lN L1)), none, z6, z7, some (.int x8), z9, z10, z11, z12] [.int (nI (am_b (decide (0 < sp_sm W1 5))))] _ _
  refine am_Rq.if1 (t := 308) (show decode (am_by 131) 265 = .ok (.ifCond .eq 43, 3) by decide +kernel) (by decide) (fun hb => ?_) (fun hb => ?_)
  ·
    rw [am_b_eq, Bool.not_eq_true'] at hb
    have hb := of_decide_eq_false hb
    refine am_Rq.blk (is := [(.aload_n 0, 1), (.lload 4, 2)]) (q := (311, [some (.ref 238), some (.long (lN L0)), none, some (.int (nI e)), some (.long (lN L1)), none, z6, z7, some (.int x8), z9, z10, z11, z12], [.long (lN L1), .ref 238])) (by decide +kernel) rfl ?_
    dsimp only
    refine am_Rq.putf (show decode (am_by 131) 311 = .ok (.putfield 113, 3) by decide +kernel) rfl hc1_238 (Nat.le_of_ble_eq_true rfl) rfl (Or.inl rfl) (by omega) ?_
    show am_Rq _ _ _ _ _ (List.set _ 238 (7, [.int (nI th), .ref 239, .ref 240, .int (nI kn), .ref 241, .ref 242, .ref 243, .ref 244, .long (lN L1), .ref 245])) _
    have hc2_238 := am_ss (c' := (7, [.int (nI th), .ref 239, .ref 240, .int (nI kn), .ref 241, .ref 242, .ref 243, .ref 244, .long (lN L1), .ref 245])) hc1_238
    have hc2_241 := (am_sn (c' := (7, [.int (nI th), .ref 239, .ref 240, .int (nI kn), .ref 241, .ref 242, .ref 243, .ref 244, .long (lN L1), .ref 245])) (show 238 ≠ 241 by omega)).trans hc1_241
    have hc2_242 := (am_sn (c' := (7, [.int (nI th), .ref 239, .ref 240, .int (nI kn), .ref 241, .ref 242, .ref 243, .ref 244, .long (lN L1), .ref 245])) (show 238 ≠ 242 by omega)).trans hPa
    have hc2_243 := (am_sn (c' := (7, [.int (nI th), .ref 239, .ref 240, .int (nI kn), .ref 241, .ref 242, .ref 243, .ref 244, .long (lN L1), .ref 245])) (show 238 ≠ 243 by omega)).trans hRe
    have hc2_244 := (am_sn (c' := (7, [.int (nI th), .ref 239, .ref 240, .int (nI kn), .ref 241, .ref 242, .ref 243, .ref 244, .long (lN L1), .ref 245])) (show 238 ≠ 244 by omega)).trans hc1_244
    have hf2 := (am_fr.rf (A := fun q => q = 238)).set (c' := (7, [.int (nI th), .ref 239, .ref 240, .int (nI kn), .ref 241, .ref 242, .ref 243, .ref 244, .long (lN L1), .ref 245])) rfl hc1_238 rfl
    generalize hze2 : (List.set _ 238 _ : am_H) = hz2 at hf2 hc2_238 hc2_241 hc2_242 hc2_243 hc2_244 ⊢
    clear hze2
    refine am_Rq.ret (v := none) (show decode (am_by 131) 314 = .ok (.return_, 1) by decide +kernel) rfl rfl ?_
    refine ⟨_, rfl, rfl, ?_, ?_, ⟨_, hc2_241⟩, ⟨_, hc2_242⟩, ⟨_, hc2_243⟩, ((hf1.mono (A' := fun x => x = 238 ∨ x = 241 ∨ x = 242 ∨ x = 243 ∨ x = 244) (fun x q => by omega)).trans (hf2.mono (A' := fun x => x = 238 ∨ x = 241 ∨ x = 242 ∨ x = 243 ∨ x = 244) (fun x q => by omega)))⟩
    · rw [if_pos (by omega)]
      exact hc2_238
    · rw [hc2_244, c_la_congr (fun k hk => ?_)]
      unfold sp_sh
      rw [if_pos (by omega)]
      rfl
  ·
    rw [am_b_eq, Bool.not_eq_false'] at hb
    have hb := of_decide_eq_true hb
    refine am_Rq.blk (is := [(.iconst 0, 1), (.istore 9, 2)]) (q := (271, [some (.ref 238), some (.long (lN L0)), none, some (.int (nI e)), some (.long (lN L1)), none, z6, z7, some (.int x8), some (.int (nI 0)), z10, z11, z12], [])) (by decide +kernel) rfl ?_
    dsimp only
    have hfT : am_fr (fun x => x = 238 ∨ x = 241 ∨ x = 242 ∨ x = 243 ∨ x = 244) hp _ := (hf1.mono (A' := fun x => x = 238 ∨ x = 241 ∨ x = 242 ∨ x = 243 ∨ x = 244) (fun x q => by omega))
    obtain ⟨hp0, hpe⟩ : ∃ x, x = hp := ⟨_, rfl⟩
    rw [← hpe] at hfT ⊢
    refine am_for (n := 5) (fun i lo hp => lo = [some (.ref 238), some (.long (lN L0)), none, some (.int (nI e)), some (.long (lN L1)), none, z6, z7, some (.int x8), some (.int (nI i)), z10, z11, z12] ∧ (∃ g9 : Nat → Int64, hp[244]? = some (101, am_la g9 5) ∧ (∀ k, k < i → g9 k = lN (D1 k + sp_sh 5 L1 W1 k)) ∧ ∀ k, i ≤ k → k < 5 → g9 k = lN (D1 k)) ∧ hp[238]? = some (7, [.int (nI th), .ref 239, .ref 240, .int (nI kn), .ref 241, .ref 242, .ref 243, .ref 244, .long (lN 0), .ref 245]) ∧ hp[241]? = some (101, (am_la (fun k => lN ((fun k => if k < 5 then W1 k else 0) k)) 8)) ∧ hp[242]? = some (101, (am_la (fun k => lN (sp_sh 8 L1 (fun k => if k < 5 then W1 k else 0) k)) 8)) ∧ hp[243]? = some (101, (am_la gq 8)) ∧ am_fr (fun x => x = 238 ∨ x = 241 ∨ x = 242 ∨ x = 243 ∨ x = 244) hp0 hp) ?_ ?_ (i := 0) (by omega) ⟨rfl, ⟨_, hc1_244, fun k hk => by omega, fun k _ _ => rfl⟩, hc1_238, hc1_241, hPa, hRe, hfT⟩
    · rintro i lo hp hi ⟨rfl, ⟨g9, hg9, hgx9, hgy9⟩, r8, r1, r2, r3, hfr⟩ ihr
      refine am_Rq.blk (is := [(.iload 9, 2), (.iconst 5, 1)]) (q := (274, [some (.ref 238), some (.long (lN L0)), none, some (.int (nI e)), some (.long (lN L1)), none, z6, z7, some (.int x8), some (.int (nI i)), z10, z11, z12], [.int (nI 5), .int (nI i)])) (by decide +kernel) rfl ?_
      dsimp only
      refine am_Rq.if2F (show decode (am_by 131) 274 = .ok (.if_icmp .ge 31, 3) by decide +kernel) (by decide) (by rw [nm_ge (by omega) (by omega)]; exact decide_eq_false (by omega)) ?_
      refine am_Rq.blk (is := [(.aload_n 0, 1)]) (q := (278, [some (.ref 238), some (.long (lN L0)), none, some (.int (nI e)), some (.long (lN L1)), none, z6, z7, some (.int x8), some (.int (nI i)), z10, z11, z12], [.ref 238])) (by decide +kernel) rfl ?_
      dsimp only
      refine am_Rq.getf (v := .ref 244) (show decode (am_by 131) 278 = .ok (.getfield 26, 3) by decide +kernel) rfl r8 rfl ?_
      refine am_Rq.blk (is := [(.iload 9, 2), (.aload_n 0, 1)]) (q := (284, [some (.ref 238), some (.long (lN L0)), none, some (.int (nI e)), some (.long (lN L1)), none, z6, z7, some (.int x8), some (.int (nI i)), z10, z11, z12], [.ref 238, .int (nI i), .ref 244])) (by decide +kernel) rfl ?_
      dsimp only
      refine am_Rq.getf (v := .ref 244) (show decode (am_by 131) 284 = .ok (.getfield 26, 3) by decide +kernel) rfl r8 rfl ?_
      refine am_Rq.blk (is := [(.iload 9, 2)]) (q := (289, [some (.ref 238), some (.long (lN L0)), none, some (.int (nI e)), some (.long (lN L1)), none, z6, z7, some (.int x8), some (.int (nI i)), z10, z11, z12], [.int (nI i), .ref 244, .int (nI i), .ref 244])) (by decide +kernel) rfl ?_
      dsimp only
      refine am_Rq.lal (k := i) (show decode (am_by 131) 289 = .ok (.laload, 1) by decide +kernel) hg9 (by omega) (by omega) ?_
      rw [hgy9 i (by omega) hi]
      refine am_Rq.blk (is := [(.aload_n 0, 1)]) (q := (291, [some (.ref 238), some (.long (lN L0)), none, some (.int (nI e)), some (.long (lN L1)), none, z6, z7, some (.int x8), some (.int (nI i)), z10, z11, z12], [.ref 238, .long (lN (D1 i)), .int (nI i), .ref 244])) (by decide +kernel) rfl ?_
      dsimp only
      refine am_Rq.getf (v := .ref 242) (show decode (am_by 131) 291 = .ok (.getfield 20, 3) by decide +kernel) rfl r8 rfl ?_
      refine am_Rq.blk (is := [(.iload 9, 2)]) (q := (296, [some (.ref 238), some (.long (lN L0)), none, some (.int (nI e)), some (.long (lN L1)), none, z6, z7, some (.int x8), some (.int (nI i)), z10, z11, z12], [.int (nI i), .ref 242, .long (lN (D1 i)), .int (nI i), .ref 244])) (by decide +kernel) rfl ?_
      dsimp only
      refine am_Rq.lal (k := i) (show decode (am_by 131) 296 = .ok (.laload, 1) by decide +kernel) r2 (by omega) (by omega) ?_
      rw [hsh i hi]
      refine am_Rq.blk (is := [(.ladd, 1)]) (q := (298, [some (.ref 238), some (.long (lN L0)), none, some (.int (nI e)), some (.long (lN L1)), none, z6, z7, some (.int x8), some (.int (nI i)), z10, z11, z12], [.long ((lN (D1 i)) + (lN (sp_sh 5 L1 W1 i))), .int (nI i), .ref 244])) (by decide +kernel) rfl ?_
      dsimp only
      rw [show (lN (D1 i)) + (lN (sp_sh 5 L1 W1 i)) = lN ((D1 i) + (sp_sh 5 L1 W1 i)) from lN_add _ _]
      refine am_Rq.las (k := i) (x := lN ((D1 i) + (sp_sh 5 L1 W1 i))) (show decode (am_by 131) 298 = .ok (.lastore, 1) by decide +kernel) hg9 (by omega) (by omega) (by omega) ?_
      have hc3_238 := (am_sn (c' := (101, (am_la (va_up g9 i (lN ((D1 i) + (sp_sh 5 L1 W1 i)))) 5))) (show 244 ≠ 238 by omega)).trans r8
      have hc3_241 := (am_sn (c' := (101, (am_la (va_up g9 i (lN ((D1 i) + (sp_sh 5 L1 W1 i)))) 5))) (show 244 ≠ 241 by omega)).trans r1
      have hc3_242 := (am_sn (c' := (101, (am_la (va_up g9 i (lN ((D1 i) + (sp_sh 5 L1 W1 i)))) 5))) (show 244 ≠ 242 by omega)).trans r2
      have hc3_243 := (am_sn (c' := (101, (am_la (va_up g9 i (lN ((D1 i) + (sp_sh 5 L1 W1 i)))) 5))) (show 244 ≠ 243 by omega)).trans r3
      have hc3_244 := am_ss (c' := (101, (am_la (va_up g9 i (lN ((D1 i) + (sp_sh 5 L1 W1 i)))) 5))) hg9
      have hf3 := (am_fr.rf (A := fun q => q = 244)).set (c' := (101, (am_la (va_up g9 i (lN ((D1 i) + (sp_sh 5 L1 W1 i)))) 5))) rfl hg9 (by simp [am_ia_len, am_la_len])
      generalize hze3 : (List.set _ 244 _ : am_H) = hz3 at hf3 hc3_238 hc3_241 hc3_242 hc3_243 hc3_244 ⊢
      clear hze3
      refine am_Rq.blk (is := [(.iinc 9 1, 3)]) (q := (302, [some (.ref 238), some (.long (lN L0)), none, some (.int (nI e)), some (.long (lN L1)), none, z6, z7, some (.int x8), some (.int ((nI i) + (nI 1))), z10, z11, z12], [])) (by decide +kernel) rfl ?_
      dsimp only
      rw [show (nI i) + (nI 1) = nI (i + 1) from nI_add _ _]
      refine am_Rq.blk (is := [(.goto (-31), 3)]) (q := (271, [some (.ref 238), some (.long (lN L0)), none, some (.int (nI e)), some (.long (lN L1)), none, z6, z7, some (.int x8), some (.int (nI (i + 1))), z10, z11, z12], [])) (by decide +kernel) rfl ?_
      dsimp only
      refine ihr _ _ ⟨rfl, ⟨_, hc3_244, fun k hk => ?_, fun k k1 k2 => ?_⟩, hc3_238, hc3_241, hc3_242, hc3_243, (hfr.trans (hf3.mono (A' := fun x => x = 238 ∨ x = 241 ∨ x = 242 ∨ x = 243 ∨ x = 244) (fun x q => by omega)))⟩
      · by_cases ek : k = i
        · rw [ek, va_up_self]
        · rw [va_up_ne _ _ ek]; exact hgx9 k (by omega)
      · rw [va_up_ne _ _ (by omega)]; exact hgy9 k (by omega) k2
    · rintro lo hp ⟨rfl, ⟨g9, hg9, hgx9, hgy9⟩, r8, r1, r2, r3, hfr⟩
      refine am_Rq.blk (is := [(.iload 9, 2), (.iconst 5, 1)]) (q := (274, [some (.ref 238), some (.long (lN L0)), none, some (.int (nI e)), some (.long (lN L1)), none, z6, z7, some (.int x8), some (.int (nI 5)), z10, z11, z12], [.int (nI 5), .int (nI 5)])) (by decide +kernel) rfl ?_
      dsimp only
      refine am_Rq.if2T (t := 305) (show decode (am_by 131) 274 = .ok (.if_icmp .ge 31, 3) by decide +kernel) (by decide) (by rw [nm_ge (by omega) (by omega)]; exact decide_eq_true (by omega)) ?_
      refine am_Rq.blk (is := [(.goto 9, 3)]) (q := (314, [some (.ref 238), some (.long (lN L0)), none, some (.int (nI e)), some (.long (lN L1)), none, z6, z7, some (.int x8), some (.int (nI 5)), z10, z11, z12], [])) (by decide +kernel) rfl ?_
      dsimp only
      refine am_Rq.ret (v := none) (show decode (am_by 131) 314 = .ok (.return_, 1) by decide +kernel) rfl rfl ?_
      subst hpe
      refine ⟨_, rfl, rfl, ?_, ?_, ⟨_, r1⟩, ⟨_, r2⟩, ⟨_, r3⟩, hfr⟩
      · rw [if_neg (by omega)]
        exact r8
      · rw [hg9, c_la_congr hgx9]
theorem m_rest2 {s : Nat → Nat} {K : Nat} (ok : c_ok K (mt s)) (hK : K ≤ 900) {e L0 th kn : Nat} (he : e < 16) : ∀ (n : Nat) {hp : am_H} (hM : hp[238]? = some (7, [.int (nI th), .ref 239, .ref 240, .int (nI kn), .ref 241, .ref 242, .ref 243, .ref 244, .long (lN 0), .ref 245])) (hS : hp[239]? = some (100, am_ia (fun i => nI (s i)) 160)) {f2 f3 : Nat → Int64} (h2 : hp[242]? = some (101, am_la f2 8)) (h3 : hp[243]? = some (101, am_la f3 8)) {L1 : Nat} (hL : L1 ≤ 2000000000) {W1 D1 : Nat → Nat} (hW : ∀ c, c < 5 → W1 c ≤ 20000000) (h1 : hp[241]? = some (101, am_la (fun k => lN ((fun k => if k < 5 then W1 k else 0) k)) 8)) (h4 : hp[244]? = some (101, am_la (fun c => lN (D1 c)) 5)) (hW0 : ∀ c, c < 5 → W1 c = 0 ∨ W1 c = sl_W (mt s) e c) (hn : sp_ct W1 5 ≤ n) {z9 z10 z11 z12 : Option Value}, am_Rq (d + 4) 131 88 [some (.ref 238), some (.long (lN L0)), none, some (.int (nI e)), some (.long (lN L1)), none, some (.long (lN (sp_sm W1 5))), none, some (.int (nI 1)), z9, z10, z11, z12] [] hp (am_Ret fun hp1 v => v = none ∧ hp1[238]? = some (7, [.int (nI th), .ref 239, .ref 240, .int (nI kn), .ref 241, .ref 242, .ref 243, .ref 244, .long (lN (if sp_sm ((dv_cp (sl_M (mt s) e) n L1 W1 D1).2.1) 5 = 0 then (dv_cp (sl_M (mt s) e) n L1 W1 D1).1 else 0)), .ref 245]) ∧ hp1[244]? = some (101, am_la (fun c => lN ((dv_cp (sl_M (mt s) e) n L1 W1 D1).2.2 c + sp_sh 5 ((dv_cp (sl_M (mt s) e) n L1 W1 D1).1) ((dv_cp (sl_M (mt s) e) n L1 W1 D1).2.1) c)) 5) ∧ (∃ f : Nat → Int64, hp1[241]? = some (101, am_la f 8)) ∧ (∃ f : Nat → Int64, hp1[242]? = some (101, am_la f 8)) ∧ (∃ f : Nat → Int64, hp1[243]? = some (101, am_la f 8)) ∧ am_fr (fun x => x = 238 ∨ x = 241 ∨ x = 242 ∨ x = 243 ∨ x = 244) hp hp1) := by
  have hs0 := mt_s0 ok
  have hB := ok.b (by omega)
  intro n
  induction n with
  | zero =>
    intro hp hM hS f2 f3 h2 h3 L1 hL W1 D1 hW h1 h4 hW0 hn z9 z10 z11 z12
    have hz0 := sp_ct_0 (Nat.le_zero.mp hn)
    have hzs : sp_sm W1 5 = 0 := sp_sm_zero hz0
    refine am_Rq.blk (is := [(.iload 8, 2)]) (q := (90, [some (.ref 238), some (.long (lN L0)), none, some (.int (nI e)), some (.long (lN L1)), none, some (.long (lN (sp_sm W1 5))), none, some (.int (nI 1)), z9, z10, z11, z12], [.int (nI 1)])) (by decide +kernel) rfl ?_
    dsimp only
    refine am_Rq.if1F (show decode (am_by 131) 90 = .ok (.ifCond .eq 169, 3) by decide +kernel) (by decide) (rfl) ?_
    refine am_Rq.blk (is := [(.lload 6, 2), (.lconst 0, 1), (.lcmp, 1)]) (q := (97, [some (.ref 238), some (.long (lN L0)), none, some (.int (nI e)), some (.long (lN L1)), none, some (.long (lN (sp_sm W1 5))), none, some (.int (nI 1)), z9, z10, z11, z12], [.int (lg_cmp (lN (sp_sm W1 5)) (lN 0))])) (by decide +kernel) rfl ?_
    dsimp only
    rw [hzs]
    refine am_Rq.if1T (t := 259) (show decode (am_by 131) 97 = .ok (.ifCond .le 162, 3) by decide +kernel) (by decide) (by rw [nm_cle]; rfl) ?_
    have hr := m_rest1 (d := d + 2) (L0 := L0) (e := e) hM h2 h3 hL hW h1 h4 (z6 := some (.long (lN 0))) (z7 := none) (x8 := nI 1) (z9 := z9) (z10 := z10) (z11 := z11) (z12 := z12)
    exact hr
  | succ n ih =>
    intro hp hM hS f2 f3 h2 h3 L1 hL W1 D1 hW h1 h4 hW0 hn z9 z10 z11 z12
    have hsm := sp_sm_bd hW
    refine am_Rq.blk (is := [(.iload 8, 2)]) (q := (90, [some (.ref 238), some (.long (lN L0)), none, some (.int (nI e)), some (.long (lN L1)), none, some (.long (lN (sp_sm W1 5))), none, some (.int (nI 1)), z9, z10, z11, z12], [.int (nI 1)])) (by decide +kernel) rfl ?_
    dsimp only
    refine am_Rq.if1F (show decode (am_by 131) 90 = .ok (.ifCond .eq 169, 3) by decide +kernel) (by decide) (rfl) ?_
    refine am_Rq.blk (is := [(.lload 6, 2), (.lconst 0, 1), (.lcmp, 1)]) (q := (97, [some (.ref 238), some (.long (lN L0)), none, some (.int (nI e)), some (.long (lN L1)), none, some (.long (lN (sp_sm W1 5))), none, some (.int (nI 1)), z9, z10, z11, z12], [.int (lg_cmp (lN (sp_sm W1 5)) (lN 0))])) (by decide +kernel) rfl ?_
    dsimp only
    refine am_Rq.if1 (t := 259) (show decode (am_by 131) 97 = .ok (.ifCond .le 162, 3) by decide +kernel) (by decide) (fun hal => ?_) (fun hal => ?_)
    ·
      have hal := of_decide_eq_true ((nm_cle _ _).symm.trans hal)
      rw [nm_lle (a := (sp_sm W1 5)) (b := 0) (by omega) (by omega)] at hal
      have hno : ∀ c, c < 5 → dv_up (sl_M (mt s) e) W1 L1 c = false := fun c hc => decide_eq_false (by rw [show sp_sm W1 5 = 0 by omega, Nat.div_zero]; omega)
      rw [dv_cp_none hno]
      exact m_rest1 (d := d + 2) hM h2 h3 hL hW h1 h4
    ·
      have hal := of_decide_eq_false ((nm_cle _ _).symm.trans hal)
      rw [nm_lle (a := (sp_sm W1 5)) (b := 0) (by omega) (by omega)] at hal
      refine am_Rq.blk (is := [(.iconst 0, 1), (.istore 8, 2), (.iconst 1, 1), (.istore 9, 2)]) (q := (106, [some (.ref 238), some (.long (lN L0)), none, some (.int (nI e)), some (.long (lN L1)), none, some (.long (lN (sp_sm W1 5))), none, some (.int (nI 0)), some (.int (nI 1)), z10, z11, z12], [])) (by decide +kernel) rfl ?_
      dsimp only
      obtain ⟨hp0, hpe⟩ : ∃ x, x = hp := ⟨_, rfl⟩
      refine am_for (n := s 0 + 1) (fun q lo hpx => ∃ y10 y11 y12 : Option Value, lo = [some (.ref 238), some (.long (lN L0)), none, some (.int (nI e)), some (.long (lN L1)), none, some (.long (lN (sp_sm W1 5))), none, some (.int (nI 0)), some (.int (nI q)), y10, y11, y12] ∧ hpx = hp ∧ 1 ≤ q ∧ ∀ c, c < q → dv_up (sl_M (mt s) e) W1 L1 c = false) ?_ ?_ (i := 1) (by omega) ⟨_, _, _, rfl, rfl, Nat.le_refl _, fun c hc => ?_⟩
      · rintro q lo hpx hq ⟨y10, y11, y12, rfl, rfl, hq1, hnu⟩ ihq
        refine am_Rq.blk (is := [(.iload 9, 2), (.aload_n 0, 1)]) (q := (109, [some (.ref 238), some (.long (lN L0)), none, some (.int (nI e)), some (.long (lN L1)), none, some (.long (lN (sp_sm W1 5))), none, some (.int (nI 0)), some (.int (nI q)), y10, y11, y12], [.ref 238, .int (nI q)])) (by decide +kernel) rfl ?_
        dsimp only
        refine am_Rq.getf (v := .ref 239) (show decode (am_by 131) 109 = .ok (.getfield 7, 3) by decide +kernel) rfl hM rfl ?_
        refine am_Rq.blk (is := [(.iconst 0, 1)]) (q := (113, [some (.ref 238), some (.long (lN L0)), none, some (.int (nI e)), some (.long (lN L1)), none, some (.long (lN (sp_sm W1 5))), none, some (.int (nI 0)), some (.int (nI q)), y10, y11, y12], [.int (nI 0), .ref 239, .int (nI q)])) (by decide +kernel) rfl ?_
        dsimp only
        refine am_Rq.ial (k := 0) (show decode (am_by 131) 113 = .ok (.iaload, 1) by decide +kernel) hS (by omega) (by omega) ?_
        refine am_Rq.if2F (show decode (am_by 131) 114 = .ok (.if_icmp .gt 142, 3) by decide +kernel) (by decide) (by rw [nm_gt (by omega) (by omega)]; exact decide_eq_false (by omega)) ?_
        refine am_Rq.blk (is := [(.iload 8, 2)]) (q := (119, [some (.ref 238), some (.long (lN L0)), none, some (.int (nI e)), some (.long (lN L1)), none, some (.long (lN (sp_sm W1 5))), none, some (.int (nI 0)), some (.int (nI q)), y10, y11, y12], [.int (nI 0)])) (by decide +kernel) rfl ?_
        dsimp only
        refine am_Rq.if1F (show decode (am_by 131) 119 = .ok (.ifCond .ne 137, 3) by decide +kernel) (by decide) (rfl) ?_
        have b3 := hB (8 * q + 3) (by omega)
        have hWq := hW q (by omega)
        have hWl : W1 q ≤ sp_sm W1 5 := sp_sm_ge (by omega)
        have lw : L1 * W1 q ≤ 2000000000 * 20000000 := Nat.mul_le_mul hL hWq
        have ld := Nat.div_le_self (L1 * W1 q) (sp_sm W1 5)
        have ld2 : L1 * W1 q / sp_sm W1 5 ≤ L1 := by
          refine Nat.div_le_of_le_mul ?_
          rw [Nat.mul_comm (sp_sm W1 5) L1]
          exact Nat.mul_le_mul_left L1 hWl
        refine am_Rq.blk (is := [(.aload_n 0, 1), (.iload_n 3, 1), (.iload 9, 2)]) (q := (126, [some (.ref 238), some (.long (lN L0)), none, some (.int (nI e)), some (.long (lN L1)), none, some (.long (lN (sp_sm W1 5))), none, some (.int (nI 0)), some (.int (nI q)), y10, y11, y12], [.int (nI q), .int (nI e), .ref 238])) (by decide +kernel) rfl ?_
        dsimp only
        refine am_Rq.callV (show decode (am_by 131) 126 = .ok (.invokevirtual 99, 3) by decide +kernel) rfl [.int (nI e), .int (nI q)] [] rfl rfl (Nat.le_of_ble_eq_true rfl) rfl hM rfl (m_isPref hM hS ok hK he (show q < 5 by omega)) ?_
        rintro hq _ ⟨e1, rfl⟩
        rw [e1]
        clear e1 hq
        show am_Rq _ 131 129 [some (.ref 238), some (.long (lN L0)), none, some (.int (nI e)), some (.long (lN L1)), none, some (.long (lN (sp_sm W1 5))), none, some (.int (nI 0)), some (.int (nI q)), y10, y11, y12] [.int (nI (am_b (decide (1 ≤ q) && (decide (0 < mt s (8 * q + 7)) && !Nat.testBit e (q - 1)))))] _ _
        refine am_Rq.if1 (t := 159) (show decode (am_by 131) 129 = .ok (.ifCond .eq 30, 3) by decide +kernel) (by decide) (fun hb => ?_) (fun hb => ?_)
        ·
          rw [am_b_eq, Bool.not_eq_true', decide_eq_true hq1, Bool.true_and] at hb
          have hnu2 : ¬ sl_M (mt s) e q < L1 * W1 q / sp_sm W1 5 := by
            by_cases h7 : mt s (8 * q + 7) = 0
            · have : W1 q = 0 := by
                rcases hW0 q (by omega) with z | z
                · exact z
                · rw [z]
                  unfold sl_W c_ic
                  rw [h7]
                  simp
              rw [this, Nat.mul_zero, Nat.zero_div]
              omega
            · rw [decide_eq_true (show 0 < mt s (8 * q + 7) by omega), Bool.true_and, Bool.not_eq_false'] at hb
              have ha : sl_as e q = true := by unfold sl_as; rw [hb, Bool.or_true]
              unfold sl_M
              rw [if_neg (by rw [ha]; simp)]
              omega
          refine am_Rq.blk (is := [(.iconst 0, 1), (.istore 10, 2), (.iload 10, 2)]) (q := (164, [some (.ref 238), some (.long (lN L0)), none, some (.int (nI e)), some (.long (lN L1)), none, some (.long (lN (sp_sm W1 5))), none, some (.int (nI 0)), some (.int (nI q)), some (.int (nI 0)), y11, y12], [.int (nI 0)])) (by decide +kernel) rfl ?_
          dsimp only
          refine am_Rq.if1T (t := 176) (show decode (am_by 131) 164 = .ok (.ifCond .eq 12, 3) by decide +kernel) (by decide) (rfl) ?_
          refine am_Rq.blk (is := [(.lconst 0, 1), (.lstore 11, 2), (.iload 10, 2)]) (q := (181, [some (.ref 238), some (.long (lN L0)), none, some (.int (nI e)), some (.long (lN L1)), none, some (.long (lN (sp_sm W1 5))), none, some (.int (nI 0)), some (.int (nI q)), some (.int (nI 0)), some (.long (lN 0)), none], [.int (nI 0)])) (by decide +kernel) rfl ?_
          dsimp only
          refine am_Rq.if1T (t := 250) (show decode (am_by 131) 181 = .ok (.ifCond .eq 69, 3) by decide +kernel) (by decide) (rfl) ?_
          refine am_Rq.blk (is := [(.iinc 9 1, 3)]) (q := (253, [some (.ref 238), some (.long (lN L0)), none, some (.int (nI e)), some (.long (lN L1)), none, some (.long (lN (sp_sm W1 5))), none, some (.int (nI 0)), some (.int ((nI q) + (nI 1))), some (.int (nI 0)), some (.long (lN 0)), none], [])) (by decide +kernel) rfl ?_
          dsimp only
          rw [show (nI q) + (nI 1) = nI (q + 1) from nI_add _ _]
          refine am_Rq.blk (is := [(.goto (-147), 3)]) (q := (106, [some (.ref 238), some (.long (lN L0)), none, some (.int (nI e)), some (.long (lN L1)), none, some (.long (lN (sp_sm W1 5))), none, some (.int (nI 0)), some (.int (nI (q + 1))), some (.int (nI 0)), some (.long (lN 0)), none], [])) (by decide +kernel) rfl ?_
          dsimp only
          refine ihq _ _ ⟨_, _, _, rfl, rfl, by omega, fun c hc => ?_⟩
          by_cases ec : c = q
          · rw [ec]
            exact decide_eq_false (hnu2)
          · exact hnu c (by omega)
        ·
          rw [am_b_eq, Bool.not_eq_false', decide_eq_true hq1, Bool.true_and, Bool.and_eq_true, Bool.not_eq_true'] at hb
          have hb7 := of_decide_eq_true hb.1
          have hsa : sl_as e q = false := by unfold sl_as; rw [decide_eq_false (by omega), hb.2]; rfl
          refine am_Rq.blk (is := [(.aload_n 0, 1), (.iload 9, 2), (.iconst 3, 1)]) (q := (136, [some (.ref 238), some (.long (lN L0)), none, some (.int (nI e)), some (.long (lN L1)), none, some (.long (lN (sp_sm W1 5))), none, some (.int (nI 0)), some (.int (nI q)), y10, y11, y12], [.int (nI 3), .int (nI q), .ref 238])) (by decide +kernel) rfl ?_
          dsimp only
          refine am_Rq.callV (show decode (am_by 131) 136 = .ok (.invokevirtual 45, 3) by decide +kernel) rfl [.int (nI q), .int (nI 3)] [] rfl rfl (Nat.le_of_ble_eq_true rfl) rfl hM rfl (m_ofT hM hS (c := q) (k := 3) (by omega) (by omega) (by omega) (by omega)) ?_
          rintro hq _ ⟨e1, rfl⟩
          rw [e1]
          clear e1 hq
          show am_Rq _ 131 139 [some (.ref 238), some (.long (lN L0)), none, some (.int (nI e)), some (.long (lN L1)), none, some (.long (lN (sp_sm W1 5))), none, some (.int (nI 0)), some (.int (nI q)), y10, y11, y12] [.int (nI (mt s (8 * q + 3)))] _ _
          refine am_Rq.blk (is := [(.iconst 2, 1)]) (q := (140, [some (.ref 238), some (.long (lN L0)), none, some (.int (nI e)), some (.long (lN L1)), none, some (.long (lN (sp_sm W1 5))), none, some (.int (nI 0)), some (.int (nI q)), y10, y11, y12], [.int (nI 2), .int (nI (mt s (8 * q + 3)))])) (by decide +kernel) rfl ?_
          dsimp only
          refine am_Rq.if2 (t := 159) (show decode (am_by 131) 140 = .ok (.if_icmp .ne 19, 3) by decide +kernel) (by decide) (fun hk => ?_) (fun hk => ?_)
          ·
            rw [nm_ne (by omega) (by omega)] at hk
            have hk := of_decide_eq_true hk
            refine am_Rq.blk (is := [(.iconst 0, 1), (.istore 10, 2), (.iload 10, 2)]) (q := (164, [some (.ref 238), some (.long (lN L0)), none, some (.int (nI e)), some (.long (lN L1)), none, some (.long (lN (sp_sm W1 5))), none, some (.int (nI 0)), some (.int (nI q)), some (.int (nI 0)), y11, y12], [.int (nI 0)])) (by decide +kernel) rfl ?_
            dsimp only
            refine am_Rq.if1T (t := 176) (show decode (am_by 131) 164 = .ok (.ifCond .eq 12, 3) by decide +kernel) (by decide) (rfl) ?_
            refine am_Rq.blk (is := [(.lconst 0, 1), (.lstore 11, 2), (.iload 10, 2)]) (q := (181, [some (.ref 238), some (.long (lN L0)), none, some (.int (nI e)), some (.long (lN L1)), none, some (.long (lN (sp_sm W1 5))), none, some (.int (nI 0)), some (.int (nI q)), some (.int (nI 0)), some (.long (lN 0)), none], [.int (nI 0)])) (by decide +kernel) rfl ?_
            dsimp only
            refine am_Rq.if1T (t := 250) (show decode (am_by 131) 181 = .ok (.ifCond .eq 69, 3) by decide +kernel) (by decide) (rfl) ?_
            refine am_Rq.blk (is := [(.iinc 9 1, 3)]) (q := (253, [some (.ref 238), some (.long (lN L0)), none, some (.int (nI e)), some (.long (lN L1)), none, some (.long (lN (sp_sm W1 5))), none, some (.int (nI 0)), some (.int ((nI q) + (nI 1))), some (.int (nI 0)), some (.long (lN 0)), none], [])) (by decide +kernel) rfl ?_
            dsimp only
            rw [show (nI q) + (nI 1) = nI (q + 1) from nI_add _ _]
            refine am_Rq.blk (is := [(.goto (-147), 3)]) (q := (106, [some (.ref 238), some (.long (lN L0)), none, some (.int (nI e)), some (.long (lN L1)), none, some (.long (lN (sp_sm W1 5))), none, some (.int (nI 0)), some (.int (nI (q + 1))), some (.int (nI 0)), some (.long (lN 0)), none], [])) (by decide +kernel) rfl ?_
            dsimp only
            refine ihq _ _ ⟨_, _, _, rfl, rfl, by omega, fun c hc => ?_⟩
            by_cases ec : c = q
            · rw [ec]
              exact decide_eq_false (by unfold sl_M; rw [if_neg (fun z => hk z.2)]; omega)
            · exact hnu c (by omega)
          ·
            rw [nm_ne (by omega) (by omega)] at hk
            have hk := of_decide_eq_false hk
            have hk2 : mt s (8 * q + 3) = 2 := by omega
            have hMq : sl_M (mt s) e q = mt s (8 * q + 7) * mt s (8 * q) * mt s (8 * q + 4) - mt s (8 * q + 7) * mt s (8 * q) * mt s (8 * q + 1) := by unfold sl_M; rw [if_pos ⟨hsa, hk2⟩]
            have hMl := sl_M_le ok (e := e) (show q < 5 by omega)
            refine am_Rq.blk (is := [(.aload_n 0, 1)]) (q := (144, [some (.ref 238), some (.long (lN L0)), none, some (.int (nI e)), some (.long (lN L1)), none, some (.long (lN (sp_sm W1 5))), none, some (.int (nI 0)), some (.int (nI q)), y10, y11, y12], [.ref 238])) (by decide +kernel) rfl ?_
            dsimp only
            refine am_Rq.getf (v := .ref 241) (show decode (am_by 131) 144 = .ok (.getfield 16, 3) by decide +kernel) rfl hM rfl ?_
            refine am_Rq.blk (is := [(.iload 9, 2)]) (q := (149, [some (.ref 238), some (.long (lN L0)), none, some (.int (nI e)), some (.long (lN L1)), none, some (.long (lN (sp_sm W1 5))), none, some (.int (nI 0)), some (.int (nI q)), y10, y11, y12], [.int (nI q), .ref 241])) (by decide +kernel) rfl ?_
            dsimp only
            refine am_Rq.lal (k := q) (show decode (am_by 131) 149 = .ok (.laload, 1) by decide +kernel) h1 (by omega) (by omega) ?_
            refine am_Rq.blk (is := [(.lconst 0, 1)]) (q := (151, [some (.ref 238), some (.long (lN L0)), none, some (.int (nI e)), some (.long (lN L1)), none, some (.long (lN (sp_sm W1 5))), none, some (.int (nI 0)), some (.int (nI q)), y10, y11, y12], [.long (lN 0), .long (lN ((fun q => if q < 5 then W1 q else 0) q))])) (by decide +kernel) rfl ?_
            dsimp only
            first | rw [show (if q < 5 then W1 q else 0) = W1 q from if_pos (by omega)] | rw [show (fun k => if k < 5 then W1 k else 0) q = W1 q from if_pos (by omega)]
            refine am_Rq.blk (is := [(.lcmp, 1)]) (q := (152, [some (.ref 238), some (.long (lN L0)), none, some (.int (nI e)), some (.long (lN L1)), none, some (.long (lN (sp_sm W1 5))), none, some (.int (nI 0)), some (.int (nI q)), y10, y11, y12], [.int (lg_cmp (lN (W1 q)) (lN 0))])) (by decide +kernel) rfl ?_
            dsimp only
            refine am_Rq.if1 (t := 159) (show decode (am_by 131) 152 = .ok (.ifCond .le 7, 3) by decide +kernel) (by decide) (fun hw => ?_) (fun hw => ?_)
            ·
              have hw := of_decide_eq_true ((nm_cle _ _).symm.trans hw)
              rw [nm_lle (a := (W1 q)) (b := 0) (by omega) (by omega)] at hw
              refine am_Rq.blk (is := [(.iconst 0, 1), (.istore 10, 2), (.iload 10, 2)]) (q := (164, [some (.ref 238), some (.long (lN L0)), none, some (.int (nI e)), some (.long (lN L1)), none, some (.long (lN (sp_sm W1 5))), none, some (.int (nI 0)), some (.int (nI q)), some (.int (nI 0)), y11, y12], [.int (nI 0)])) (by decide +kernel) rfl ?_
              dsimp only
              refine am_Rq.if1T (t := 176) (show decode (am_by 131) 164 = .ok (.ifCond .eq 12, 3) by decide +kernel) (by decide) (rfl) ?_
              refine am_Rq.blk (is := [(.lconst 0, 1), (.lstore 11, 2), (.iload 10, 2)]) (q := (181, [some (.ref 238), some (.long (lN L0)), none, some (.int (nI e)), some (.long (lN L1)), none, some (.long (lN (sp_sm W1 5))), none, some (.int (nI 0)), some (.int (nI q)), some (.int (nI 0)), some (.long (lN 0)), none], [.int (nI 0)])) (by decide +kernel) rfl ?_
              dsimp only
              refine am_Rq.if1T (t := 250) (show decode (am_by 131) 181 = .ok (.ifCond .eq 69, 3) by decide +kernel) (by decide) (rfl) ?_
              refine am_Rq.blk (is := [(.iinc 9 1, 3)]) (q := (253, [some (.ref 238), some (.long (lN L0)), none, some (.int (nI e)), some (.long (lN L1)), none, some (.long (lN (sp_sm W1 5))), none, some (.int (nI 0)), some (.int ((nI q) + (nI 1))), some (.int (nI 0)), some (.long (lN 0)), none], [])) (by decide +kernel) rfl ?_
              dsimp only
              rw [show (nI q) + (nI 1) = nI (q + 1) from nI_add _ _]
              refine am_Rq.blk (is := [(.goto (-147), 3)]) (q := (106, [some (.ref 238), some (.long (lN L0)), none, some (.int (nI e)), some (.long (lN L1)), none, some (.long (lN (sp_sm W1 5))), none, some (.int (nI 0)), some (.int (nI (q + 1))), some (.int (nI 0)), some (.long (lN 0)), none], [])) (by decide +kernel) rfl ?_
              dsimp only
              refine ihq _ _ ⟨_, _, _, rfl, rfl, by omega, fun c hc => ?_⟩
              by_cases ec : c = q
              · rw [ec]
                exact decide_eq_false (by rw [show W1 q = 0 by omega, Nat.mul_zero, Nat.zero_div]; omega)
              · exact hnu c (by omega)
            ·
              have hw := of_decide_eq_false ((nm_cle _ _).symm.trans hw)
              rw [nm_lle (a := (W1 q)) (b := 0) (by omega) (by omega)] at hw
              refine am_Rq.blk (is := [(.iconst 1, 1), (.goto 4, 3)]) (q := (160, [some (.ref 238), some (.long (lN L0)), none, some (.int (nI e)), some (.long (lN L1)), none, some (.long (lN (sp_sm W1 5))), none, some (.int (nI 0)), some (.int (nI q)), y10, y11, y12], [.int (nI 1)])) (by decide +kernel) rfl ?_
              dsimp only
              refine am_Rq.blk (is := [(.istore 10, 2), (.iload 10, 2)]) (q := (164, [some (.ref 238), some (.long (lN L0)), none, some (.int (nI e)), some (.long (lN L1)), none, some (.long (lN (sp_sm W1 5))), none, some (.int (nI 0)), some (.int (nI q)), some (.int (nI 1)), y11, y12], [.int (nI 1)])) (by decide +kernel) rfl ?_
              dsimp only
              refine am_Rq.if1F (show decode (am_by 131) 164 = .ok (.ifCond .eq 12, 3) by decide +kernel) (by decide) (rfl) ?_
              refine am_Rq.blk (is := [(.aload_n 0, 1), (.iload 9, 2)]) (q := (170, [some (.ref 238), some (.long (lN L0)), none, some (.int (nI e)), some (.long (lN L1)), none, some (.long (lN (sp_sm W1 5))), none, some (.int (nI 0)), some (.int (nI q)), some (.int (nI 1)), y11, y12], [.int (nI q), .ref 238])) (by decide +kernel) rfl ?_
              dsimp only
              refine am_Rq.callV (show decode (am_by 131) 170 = .ok (.invokevirtual 110, 3) by decide +kernel) rfl [.int (nI q)] [] rfl rfl (Nat.le_of_ble_eq_true rfl) rfl hM rfl (m_mostOf hM hS ok hK hq1 (by omega)) ?_
              rintro hq _ ⟨e1, rfl⟩
              rw [e1]
              clear e1 hq
              show am_Rq _ 131 173 [some (.ref 238), some (.long (lN L0)), none, some (.int (nI e)), some (.long (lN L1)), none, some (.long (lN (sp_sm W1 5))), none, some (.int (nI 0)), some (.int (nI q)), some (.int (nI 1)), y11, y12] [.long (lN (mt s (8 * q + 7) * mt s (8 * q) * mt s (8 * q + 4) - mt s (8 * q + 7) * mt s (8 * q) * mt s (8 * q + 1)))] _ _
              rw [← hMq]
              show am_Rq _ 131 173 [some (.ref 238), some (.long (lN L0)), none, some (.int (nI e)), some (.long (lN L1)), none, some (.long (lN (sp_sm W1 5))), none, some (.int (nI 0)), some (.int (nI q)), some (.int (nI 1)), y11, y12] [.long (lN (sl_M (mt s) e q))] _ _
              refine am_Rq.blk (is := [(.goto 4, 3)]) (q := (177, [some (.ref 238), some (.long (lN L0)), none, some (.int (nI e)), some (.long (lN L1)), none, some (.long (lN (sp_sm W1 5))), none, some (.int (nI 0)), some (.int (nI q)), some (.int (nI 1)), y11, y12], [.long (lN (sl_M (mt s) e q))])) (by decide +kernel) rfl ?_
              dsimp only
              refine am_Rq.blk (is := [(.lstore 11, 2), (.iload 10, 2)]) (q := (181, [some (.ref 238), some (.long (lN L0)), none, some (.int (nI e)), some (.long (lN L1)), none, some (.long (lN (sp_sm W1 5))), none, some (.int (nI 0)), some (.int (nI q)), some (.int (nI 1)), some (.long (lN (sl_M (mt s) e q))), none], [.int (nI 1)])) (by decide +kernel) rfl ?_
              dsimp only
              refine am_Rq.if1F (show decode (am_by 131) 181 = .ok (.ifCond .eq 69, 3) by decide +kernel) (by decide) (rfl) ?_
              refine am_Rq.blk (is := [(.lload 4, 2), (.aload_n 0, 1)]) (q := (187, [some (.ref 238), some (.long (lN L0)), none, some (.int (nI e)), some (.long (lN L1)), none, some (.long (lN (sp_sm W1 5))), none, some (.int (nI 0)), some (.int (nI q)), some (.int (nI 1)), some (.long (lN (sl_M (mt s) e q))), none], [.ref 238, .long (lN L1)])) (by decide +kernel) rfl ?_
              dsimp only
              refine am_Rq.getf (v := .ref 241) (show decode (am_by 131) 187 = .ok (.getfield 16, 3) by decide +kernel) rfl hM rfl ?_
              refine am_Rq.blk (is := [(.iload 9, 2)]) (q := (192, [some (.ref 238), some (.long (lN L0)), none, some (.int (nI e)), some (.long (lN L1)), none, some (.long (lN (sp_sm W1 5))), none, some (.int (nI 0)), some (.int (nI q)), some (.int (nI 1)), some (.long (lN (sl_M (mt s) e q))), none], [.int (nI q), .ref 241, .long (lN L1)])) (by decide +kernel) rfl ?_
              dsimp only
              refine am_Rq.lal (k := q) (show decode (am_by 131) 192 = .ok (.laload, 1) by decide +kernel) h1 (by omega) (by omega) ?_
              first | rw [show (if q < 5 then W1 q else 0) = W1 q from if_pos (by omega)] | rw [show (fun k => if k < 5 then W1 k else 0) q = W1 q from if_pos (by omega)]
              refine am_Rq.blk (is := [(.lmul, 1)]) (q := (194, [some (.ref 238), some (.long (lN L0)), none, some (.int (nI e)), some (.long (lN L1)), none, some (.long (lN (sp_sm W1 5))), none, some (.int (nI 0)), some (.int (nI q)), some (.int (nI 1)), some (.long (lN (sl_M (mt s) e q))), none], [.long ((lN L1) * (lN (W1 q)))])) (by decide +kernel) rfl ?_
              dsimp only
              rw [show (lN L1) * (lN (W1 q)) = lN (L1 * (W1 q)) from lN_mul _ _]
              refine am_Rq.blk (is := [(.lload 6, 2)]) (q := (196, [some (.ref 238), some (.long (lN L0)), none, some (.int (nI e)), some (.long (lN L1)), none, some (.long (lN (sp_sm W1 5))), none, some (.int (nI 0)), some (.int (nI q)), some (.int (nI 1)), some (.long (lN (sl_M (mt s) e q))), none], [.long (lN (sp_sm W1 5)), .long (lN (L1 * (W1 q)))])) (by decide +kernel) rfl ?_
              dsimp only
              refine am_Rq.ldivN (a := L1 * (W1 q)) (b := sp_sm W1 5) (show decode (am_by 131) 196 = .ok (.ldiv, 1) by decide +kernel) (by omega) (by omega) (by omega) ?_
              refine am_Rq.blk (is := [(.lload 11, 2), (.lcmp, 1)]) (q := (200, [some (.ref 238), some (.long (lN L0)), none, some (.int (nI e)), some (.long (lN L1)), none, some (.long (lN (sp_sm W1 5))), none, some (.int (nI 0)), some (.int (nI q)), some (.int (nI 1)), some (.long (lN (sl_M (mt s) e q))), none], [.int (lg_cmp (lN ((L1 * (W1 q)) / (sp_sm W1 5))) (lN (sl_M (mt s) e q)))])) (by decide +kernel) rfl ?_
              dsimp only
              refine am_Rq.if1 (t := 250) (show decode (am_by 131) 200 = .ok (.ifCond .le 50, 3) by decide +kernel) (by decide) (fun hab => ?_) (fun hab => ?_)
              ·
                have hab := of_decide_eq_true ((nm_cle _ _).symm.trans hab)
                rw [nm_lle (a := ((L1 * (W1 q)) / (sp_sm W1 5))) (b := (sl_M (mt s) e q)) (by omega) (by omega)] at hab
                refine am_Rq.blk (is := [(.iinc 9 1, 3)]) (q := (253, [some (.ref 238), some (.long (lN L0)), none, some (.int (nI e)), some (.long (lN L1)), none, some (.long (lN (sp_sm W1 5))), none, some (.int (nI 0)), some (.int ((nI q) + (nI 1))), some (.int (nI 1)), some (.long (lN (sl_M (mt s) e q))), none], [])) (by decide +kernel) rfl ?_
                dsimp only
                rw [show (nI q) + (nI 1) = nI (q + 1) from nI_add _ _]
                refine am_Rq.blk (is := [(.goto (-147), 3)]) (q := (106, [some (.ref 238), some (.long (lN L0)), none, some (.int (nI e)), some (.long (lN L1)), none, some (.long (lN (sp_sm W1 5))), none, some (.int (nI 0)), some (.int (nI (q + 1))), some (.int (nI 1)), some (.long (lN (sl_M (mt s) e q))), none], [])) (by decide +kernel) rfl ?_
                dsimp only
                refine ihq _ _ ⟨_, _, _, rfl, rfl, by omega, fun c hc => ?_⟩
                by_cases ec : c = q
                · rw [ec]
                  exact decide_eq_false (by omega)
                · exact hnu c (by omega)
              ·
                have hab := of_decide_eq_false ((nm_cle _ _).symm.trans hab)
                rw [nm_lle (a := ((L1 * (W1 q)) / (sp_sm W1 5))) (b := (sl_M (mt s) e q)) (by omega) (by omega)] at hab
                have hup : dv_up (sl_M (mt s) e) W1 L1 q = true := decide_eq_true (by omega)
                rw [dv_cp_some (by omega) hup hnu]
                refine am_Rq.blk (is := [(.aload_n 0, 1)]) (q := (204, [some (.ref 238), some (.long (lN L0)), none, some (.int (nI e)), some (.long (lN L1)), none, some (.long (lN (sp_sm W1 5))), none, some (.int (nI 0)), some (.int (nI q)), some (.int (nI 1)), some (.long (lN (sl_M (mt s) e q))), none], [.ref 238])) (by decide +kernel) rfl ?_
                dsimp only
                refine am_Rq.getf (v := .ref 244) (show decode (am_by 131) 204 = .ok (.getfield 26, 3) by decide +kernel) rfl hM rfl ?_
                refine am_Rq.blk (is := [(.iload 9, 2), (.aload_n 0, 1)]) (q := (210, [some (.ref 238), some (.long (lN L0)), none, some (.int (nI e)), some (.long (lN L1)), none, some (.long (lN (sp_sm W1 5))), none, some (.int (nI 0)), some (.int (nI q)), some (.int (nI 1)), some (.long (lN (sl_M (mt s) e q))), none], [.ref 238, .int (nI q), .ref 244])) (by decide +kernel) rfl ?_
                dsimp only
                refine am_Rq.getf (v := .ref 244) (show decode (am_by 131) 210 = .ok (.getfield 26, 3) by decide +kernel) rfl hM rfl ?_
                refine am_Rq.blk (is := [(.iload 9, 2)]) (q := (215, [some (.ref 238), some (.long (lN L0)), none, some (.int (nI e)), some (.long (lN L1)), none, some (.long (lN (sp_sm W1 5))), none, some (.int (nI 0)), some (.int (nI q)), some (.int (nI 1)), some (.long (lN (sl_M (mt s) e q))), none], [.int (nI q), .ref 244, .int (nI q), .ref 244])) (by decide +kernel) rfl ?_
                dsimp only
                refine am_Rq.lal (k := q) (show decode (am_by 131) 215 = .ok (.laload, 1) by decide +kernel) h4 (by omega) (by omega) ?_
                refine am_Rq.blk (is := [(.lload 11, 2), (.ladd, 1)]) (q := (219, [some (.ref 238), some (.long (lN L0)), none, some (.int (nI e)), some (.long (lN L1)), none, some (.long (lN (sp_sm W1 5))), none, some (.int (nI 0)), some (.int (nI q)), some (.int (nI 1)), some (.long (lN (sl_M (mt s) e q))), none], [.long ((lN (D1 q)) + (lN (sl_M (mt s) e q))), .int (nI q), .ref 244])) (by decide +kernel) rfl ?_
                dsimp only
                rw [show (lN (D1 q)) + (lN (sl_M (mt s) e q)) = lN ((D1 q) + (sl_M (mt s) e q)) from lN_add _ _]
                refine am_Rq.nls (s := D1) (k := q) (v := (D1 q) + (sl_M (mt s) e q)) (show decode (am_by 131) 219 = .ok (.lastore, 1) by decide +kernel) h4 (by omega) (by omega) (by omega) ?_
                have hc1_238 := (am_sn (c' := (101, (am_la (fun j9 => lN ((va_up D1 (q) ((D1 q) + (sl_M (mt s) e q))) j9)) 5))) (show 244 ≠ 238 by omega)).trans hM
                have hc1_241 := (am_sn (c' := (101, (am_la (fun j9 => lN ((va_up D1 (q) ((D1 q) + (sl_M (mt s) e q))) j9)) 5))) (show 244 ≠ 241 by omega)).trans h1
                have hc1_242 := (am_sn (c' := (101, (am_la (fun j9 => lN ((va_up D1 (q) ((D1 q) + (sl_M (mt s) e q))) j9)) 5))) (show 244 ≠ 242 by omega)).trans h2
                have hc1_243 := (am_sn (c' := (101, (am_la (fun j9 => lN ((va_up D1 (q) ((D1 q) + (sl_M (mt s) e q))) j9)) 5))) (show 244 ≠ 243 by omega)).trans h3
                have hc1_244 := am_ss (c' := (101, (am_la (fun j9 => lN ((va_up D1 (q) ((D1 q) + (sl_M (mt s) e q))) j9)) 5))) h4
                have hc1_239 := (am_sn (c' := (101, (am_la (fun j9 => lN ((va_up D1 (q) ((D1 q) + (sl_M (mt s) e q))) j9)) 5))) (show 244 ≠ 239 by omega)).trans hS
                have hf1 := (am_fr.rf (A := fun q => q = 244)).set (c' := (101, (am_la (fun j9 => lN ((va_up D1 (q) ((D1 q) + (sl_M (mt s) e q))) j9)) 5))) rfl h4 (by simp [am_ia_len, am_la_len])
                generalize hze1 : (List.set _ 244 _ : am_H) = hz1 at hf1 hc1_238 hc1_241 hc1_242 hc1_243 hc1_244 hc1_239 ⊢
                clear hze1
                refine am_Rq.blk (is := [(.lload 4, 2), (.lload 11, 2), (.lsub, 1)]) (q := (225, [some (.ref 238), some (.long (lN L0)), none, some (.int (nI e)), some (.long (lN L1)), none, some (.long (lN (sp_sm W1 5))), none, some (.int (nI 0)), some (.int (nI q)), some (.int (nI 1)), some (.long (lN (sl_M (mt s) e q))), none], [.long ((lN L1) - (lN (sl_M (mt s) e q)))])) (by decide +kernel) rfl ?_
                dsimp only
                rw [show (lN L1) - (lN (sl_M (mt s) e q)) = lN (L1 - (sl_M (mt s) e q)) from lN_sub (by omega)]
                refine am_Rq.blk (is := [(.lstore 4, 2), (.lload 6, 2), (.aload_n 0, 1)]) (q := (230, [some (.ref 238), some (.long (lN L0)), none, some (.int (nI e)), some (.long (lN (L1 - (sl_M (mt s) e q)))), none, some (.long (lN (sp_sm W1 5))), none, some (.int (nI 0)), some (.int (nI q)), some (.int (nI 1)), some (.long (lN (sl_M (mt s) e q))), none], [.ref 238, .long (lN (sp_sm W1 5))])) (by decide +kernel) rfl ?_
                dsimp only
                refine am_Rq.getf (v := .ref 241) (show decode (am_by 131) 230 = .ok (.getfield 16, 3) by decide +kernel) rfl hc1_238 rfl ?_
                refine am_Rq.blk (is := [(.iload 9, 2)]) (q := (235, [some (.ref 238), some (.long (lN L0)), none, some (.int (nI e)), some (.long (lN (L1 - (sl_M (mt s) e q)))), none, some (.long (lN (sp_sm W1 5))), none, some (.int (nI 0)), some (.int (nI q)), some (.int (nI 1)), some (.long (lN (sl_M (mt s) e q))), none], [.int (nI q), .ref 241, .long (lN (sp_sm W1 5))])) (by decide +kernel) rfl ?_
                dsimp only
                refine am_Rq.lal (k := q) (show decode (am_by 131) 235 = .ok (.laload, 1) by decide +kernel) hc1_241 (by omega) (by omega) ?_
                first | rw [show (if q < 5 then W1 q else 0) = W1 q from if_pos (by omega)] | rw [show (fun k => if k < 5 then W1 k else 0) q = W1 q from if_pos (by omega)]
                refine am_Rq.blk (is := [(.lsub, 1)]) (q := (237, [some (.ref 238), some (.long (lN L0)), none, some (.int (nI e)), some (.long (lN (L1 - (sl_M (mt s) e q)))), none, some (.long (lN (sp_sm W1 5))), none, some (.int (nI 0)), some (.int (nI q)), some (.int (nI 1)), some (.long (lN (sl_M (mt s) e q))), none], [.long ((lN (sp_sm W1 5)) - (lN (W1 q)))])) (by decide +kernel) rfl ?_
                dsimp only
                rw [show (lN (sp_sm W1 5)) - (lN (W1 q)) = lN ((sp_sm W1 5) - (W1 q)) from lN_sub (by omega)]
                refine am_Rq.blk (is := [(.lstore 6, 2), (.aload_n 0, 1)]) (q := (240, [some (.ref 238), some (.long (lN L0)), none, some (.int (nI e)), some (.long (lN (L1 - (sl_M (mt s) e q)))), none, some (.long (lN ((sp_sm W1 5) - (W1 q)))), none, some (.int (nI 0)), some (.int (nI q)), some (.int (nI 1)), some (.long (lN (sl_M (mt s) e q))), none], [.ref 238])) (by decide +kernel) rfl ?_
                dsimp only
                refine am_Rq.getf (v := .ref 241) (show decode (am_by 131) 240 = .ok (.getfield 16, 3) by decide +kernel) rfl hc1_238 rfl ?_
                refine am_Rq.blk (is := [(.iload 9, 2), (.lconst 0, 1)]) (q := (246, [some (.ref 238), some (.long (lN L0)), none, some (.int (nI e)), some (.long (lN (L1 - (sl_M (mt s) e q)))), none, some (.long (lN ((sp_sm W1 5) - (W1 q)))), none, some (.int (nI 0)), some (.int (nI q)), some (.int (nI 1)), some (.long (lN (sl_M (mt s) e q))), none], [.long (lN 0), .int (nI q), .ref 241])) (by decide +kernel) rfl ?_
                dsimp only
                refine am_Rq.nls (s := (fun k => if k < 5 then W1 k else 0)) (k := q) (v := 0) (show decode (am_by 131) 246 = .ok (.lastore, 1) by decide +kernel) hc1_241 (by omega) (by omega) (by omega) ?_
                have hc2_238 := (am_sn (c' := (101, (am_la (fun j9 => lN ((va_up (fun k => if k < 5 then W1 k else 0) (q) (0)) j9)) 8))) (show 241 ≠ 238 by omega)).trans hc1_238
                have hc2_241 := am_ss (c' := (101, (am_la (fun j9 => lN ((va_up (fun k => if k < 5 then W1 k else 0) (q) (0)) j9)) 8))) hc1_241
                have hc2_242 := (am_sn (c' := (101, (am_la (fun j9 => lN ((va_up (fun k => if k < 5 then W1 k else 0) (q) (0)) j9)) 8))) (show 241 ≠ 242 by omega)).trans hc1_242
                have hc2_243 := (am_sn (c' := (101, (am_la (fun j9 => lN ((va_up (fun k => if k < 5 then W1 k else 0) (q) (0)) j9)) 8))) (show 241 ≠ 243 by omega)).trans hc1_243
                have hc2_244 := (am_sn (c' := (101, (am_la (fun j9 => lN ((va_up (fun k => if k < 5 then W1 k else 0) (q) (0)) j9)) 8))) (show 241 ≠ 244 by omega)).trans hc1_244
                have hc2_239 := (am_sn (c' := (101, (am_la (fun j9 => lN ((va_up (fun k => if k < 5 then W1 k else 0) (q) (0)) j9)) 8))) (show 241 ≠ 239 by omega)).trans hc1_239
                have hf2 := (am_fr.rf (A := fun q => q = 241)).set (c' := (101, (am_la (fun j9 => lN ((va_up (fun k => if k < 5 then W1 k else 0) (q) (0)) j9)) 8))) rfl hc1_241 (by simp [am_ia_len, am_la_len])
                generalize hze2 : (List.set _ 241 _ : am_H) = hz2 at hf2 hc2_238 hc2_241 hc2_242 hc2_243 hc2_244 hc2_239 ⊢
                clear hze2
                refine am_Rq.blk (is := [(.iconst 1, 1), (.istore 8, 2), (.iinc 9 1, 3)]) (q := (253, [some (.ref 238), some (.long (lN L0)), none, some (.int (nI e)), some (.long (lN (L1 - (sl_M (mt s) e q)))), none, some (.long (lN ((sp_sm W1 5) - (W1 q)))), none, some (.int (nI 1)), some (.int ((nI q) + (nI 1))), some (.int (nI 1)), some (.long (lN (sl_M (mt s) e q))), none], [])) (by decide +kernel) rfl ?_
                dsimp only
                rw [show (nI q) + (nI 1) = nI (q + 1) from nI_add _ _]
                refine am_Rq.blk (is := [(.goto (-147), 3)]) (q := (106, [some (.ref 238), some (.long (lN L0)), none, some (.int (nI e)), some (.long (lN (L1 - (sl_M (mt s) e q)))), none, some (.long (lN ((sp_sm W1 5) - (W1 q)))), none, some (.int (nI 1)), some (.int (nI (q + 1))), some (.int (nI 1)), some (.long (lN (sl_M (mt s) e q))), none], [])) (by decide +kernel) rfl ?_
                dsimp only
                have hct := sp_ct_less (q := W1) (show q < 5 by omega) (show W1 q ≠ 0 by omega)
                have hsu := sp_sm_up (f := W1) (v := 0) (show q < 5 by omega)
                rw [show sp_sm W1 5 - W1 q = sp_sm (va_up W1 q 0) 5 by omega]
                have h1n : _ = some (101, am_la (fun k => lN (if k < 5 then (va_up W1 q 0) k else 0)) 8) := hc2_241.trans (congrArg (fun z => some (101, z)) (c_la_congr (fun k hk => congrArg lN (show va_up (fun k => if k < 5 then W1 k else 0) q 0 k = if k < 5 then va_up W1 q 0 k else 0 from by
                  by_cases ek : k = q
                  · rw [ek, va_up_self, va_up_self]
                    split <;> rfl
                  · rw [va_up_ne _ _ ek, va_up_ne _ _ ek]))))
                have hih := fun (z9 z10 z11 z12 : Option Value) => ih (L1 := L1 - sl_M (mt s) e q) (W1 := va_up W1 q 0) (D1 := va_up D1 q (D1 q + sl_M (mt s) e q)) hc2_238 hc2_239 hc2_242 hc2_243 (by omega) (fun c hc => by
                  by_cases ek : c = q
                  · rw [ek, va_up_self]; omega
                  · rw [va_up_ne _ _ ek]; exact hW c hc) h1n hc2_244 (fun c hc => by
                  by_cases ek : c = q
                  · rw [ek, va_up_self]; exact Or.inl rfl
                  · rw [va_up_ne _ _ ek]; exact hW0 c hc) (by omega) (z9 := z9) (z10 := z10) (z11 := z11) (z12 := z12)
                refine am_Rq.blk (is := [(.iload 9, 2), (.aload_n 0, 1)]) (q := (109, [some (.ref 238), some (.long (lN L0)), none, some (.int (nI e)), some (.long (lN (L1 - (sl_M (mt s) e q)))), none, some (.long (lN (sp_sm (va_up W1 q 0) 5))), none, some (.int (nI 1)), some (.int (nI (q + 1))), some (.int (nI 1)), some (.long (lN (sl_M (mt s) e q))), none], [.ref 238, .int (nI (q + 1))])) (by decide +kernel) rfl ?_
                dsimp only
                refine am_Rq.getf (v := .ref 239) (show decode (am_by 131) 109 = .ok (.getfield 7, 3) by decide +kernel) rfl hc2_238 rfl ?_
                refine am_Rq.blk (is := [(.iconst 0, 1)]) (q := (113, [some (.ref 238), some (.long (lN L0)), none, some (.int (nI e)), some (.long (lN (L1 - (sl_M (mt s) e q)))), none, some (.long (lN (sp_sm (va_up W1 q 0) 5))), none, some (.int (nI 1)), some (.int (nI (q + 1))), some (.int (nI 1)), some (.long (lN (sl_M (mt s) e q))), none], [.int (nI 0), .ref 239, .int (nI (q + 1))])) (by decide +kernel) rfl ?_
                dsimp only
                refine am_Rq.ial (k := 0) (show decode (am_by 131) 113 = .ok (.iaload, 1) by decide +kernel) hc2_239 (by omega) (by omega) ?_
                refine am_Rq.if2 (t := 256) (show decode (am_by 131) 114 = .ok (.if_icmp .gt 142, 3) by decide +kernel) (by decide) (fun hq9 => ?_) (fun hq9 => ?_)
                ·
                  rw [nm_gt (by omega) (by omega)] at hq9
                  have hq9 := of_decide_eq_true hq9
                  refine am_Rq.blk (is := [(.goto (-168), 3)]) (q := (88, [some (.ref 238), some (.long (lN L0)), none, some (.int (nI e)), some (.long (lN (L1 - (sl_M (mt s) e q)))), none, some (.long (lN (sp_sm (va_up W1 q 0) 5))), none, some (.int (nI 1)), some (.int (nI (q + 1))), some (.int (nI 1)), some (.long (lN (sl_M (mt s) e q))), none], [])) (by decide +kernel) rfl ?_
                  dsimp only
                  refine (hih _ _ _ _).mono (fun hp1 o u => ?_)
                  obtain ⟨v, u0, u1, u2, u3, u4, u5, u6, u7⟩ := u
                  exact ⟨v, u0, u1, u2, u3, u4, u5, u6, (((hf1.mono (A' := fun x => x = 238 ∨ x = 241 ∨ x = 242 ∨ x = 243 ∨ x = 244) (fun x q => by omega)).trans (hf2.mono (A' := fun x => x = 238 ∨ x = 241 ∨ x = 242 ∨ x = 243 ∨ x = 244) (fun x q => by omega)))).trans u7⟩
                ·
                  rw [nm_gt (by omega) (by omega)] at hq9
                  have hq9 := of_decide_eq_false hq9
                  refine am_Rq.blk (is := [(.iload 8, 2)]) (q := (119, [some (.ref 238), some (.long (lN L0)), none, some (.int (nI e)), some (.long (lN (L1 - (sl_M (mt s) e q)))), none, some (.long (lN (sp_sm (va_up W1 q 0) 5))), none, some (.int (nI 1)), some (.int (nI (q + 1))), some (.int (nI 1)), some (.long (lN (sl_M (mt s) e q))), none], [.int (nI 1)])) (by decide +kernel) rfl ?_
                  dsimp only
                  refine am_Rq.if1T (t := 256) (show decode (am_by 131) 119 = .ok (.ifCond .ne 137, 3) by decide +kernel) (by decide) (rfl) ?_
                  refine am_Rq.blk (is := [(.goto (-168), 3)]) (q := (88, [some (.ref 238), some (.long (lN L0)), none, some (.int (nI e)), some (.long (lN (L1 - (sl_M (mt s) e q)))), none, some (.long (lN (sp_sm (va_up W1 q 0) 5))), none, some (.int (nI 1)), some (.int (nI (q + 1))), some (.int (nI 1)), some (.long (lN (sl_M (mt s) e q))), none], [])) (by decide +kernel) rfl ?_
                  dsimp only
                  refine (hih _ _ _ _).mono (fun hp1 o u => ?_)
                  obtain ⟨v, u0, u1, u2, u3, u4, u5, u6, u7⟩ := u
                  exact ⟨v, u0, u1, u2, u3, u4, u5, u6, (((hf1.mono (A' := fun x => x = 238 ∨ x = 241 ∨ x = 242 ∨ x = 243 ∨ x = 244) (fun x q => by omega)).trans (hf2.mono (A' := fun x => x = 238 ∨ x = 241 ∨ x = 242 ∨ x = 243 ∨ x = 244) (fun x q => by omega)))).trans u7⟩
      · rintro lo hpx ⟨y10, y11, y12, rfl, rfl, hq1, hnu⟩
        refine am_Rq.blk (is := [(.iload 9, 2), (.aload_n 0, 1)]) (q := (109, [some (.ref 238), some (.long (lN L0)), none, some (.int (nI e)), some (.long (lN L1)), none, some (.long (lN (sp_sm W1 5))), none, some (.int (nI 0)), some (.int (nI (s 0 + 1))), y10, y11, y12], [.ref 238, .int (nI (s 0 + 1))])) (by decide +kernel) rfl ?_
        dsimp only
        refine am_Rq.getf (v := .ref 239) (show decode (am_by 131) 109 = .ok (.getfield 7, 3) by decide +kernel) rfl hM rfl ?_
        refine am_Rq.blk (is := [(.iconst 0, 1)]) (q := (113, [some (.ref 238), some (.long (lN L0)), none, some (.int (nI e)), some (.long (lN L1)), none, some (.long (lN (sp_sm W1 5))), none, some (.int (nI 0)), some (.int (nI (s 0 + 1))), y10, y11, y12], [.int (nI 0), .ref 239, .int (nI (s 0 + 1))])) (by decide +kernel) rfl ?_
        dsimp only
        refine am_Rq.ial (k := 0) (show decode (am_by 131) 113 = .ok (.iaload, 1) by decide +kernel) hS (by omega) (by omega) ?_
        refine am_Rq.if2T (t := 256) (show decode (am_by 131) 114 = .ok (.if_icmp .gt 142, 3) by decide +kernel) (by decide) (by rw [nm_gt (by omega) (by omega)]; exact decide_eq_true (by omega)) ?_
        refine am_Rq.blk (is := [(.goto (-168), 3)]) (q := (88, [some (.ref 238), some (.long (lN L0)), none, some (.int (nI e)), some (.long (lN L1)), none, some (.long (lN (sp_sm W1 5))), none, some (.int (nI 0)), some (.int (nI (s 0 + 1))), y10, y11, y12], [])) (by decide +kernel) rfl ?_
        dsimp only
        refine am_Rq.blk (is := [(.iload 8, 2)]) (q := (90, [some (.ref 238), some (.long (lN L0)), none, some (.int (nI e)), some (.long (lN L1)), none, some (.long (lN (sp_sm W1 5))), none, some (.int (nI 0)), some (.int (nI (s 0 + 1))), y10, y11, y12], [.int (nI 0)])) (by decide +kernel) rfl ?_
        dsimp only
        refine am_Rq.if1T (t := 259) (show decode (am_by 131) 90 = .ok (.ifCond .eq 169, 3) by decide +kernel) (by decide) (rfl) ?_
        have hno : ∀ c, c < 5 → dv_up (sl_M (mt s) e) W1 L1 c = false := fun c hc => by
          by_cases hcs : c < s 0 + 1
          · exact hnu c hcs
          · refine decide_eq_false ?_
            have : W1 c = 0 := by
              rcases hW0 c hc with z | z
              · exact z
              · rw [z]
                unfold sl_W c_ic
                rw [mt_out ok (by omega) hc]
                simp
            rw [this, Nat.mul_zero, Nat.zero_div]
            omega
        rw [dv_cp_none hno]
        exact m_rest1 (d := d + 2) hM h2 h3 hL hW h1 h4
      · have : c = 0 := by omega
        subst this
        refine decide_eq_false ?_
        have hWl : W1 0 ≤ sp_sm W1 5 := sp_sm_ge (by omega)
        have ld2 : L1 * W1 0 / sp_sm W1 5 ≤ L1 := by
          refine Nat.div_le_of_le_mul ?_
          rw [Nat.mul_comm (sp_sm W1 5) L1]
          exact Nat.mul_le_mul_left L1 hWl
        have : sl_M (mt s) e 0 = 2000000000 := by unfold sl_M; rw [if_neg (fun z => by have := z.1; cases this)]
        omega
end M17
