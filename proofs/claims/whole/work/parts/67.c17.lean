/-! The class's sale: isStable, stableSet, broughtTo (rows by prog/c17.py). -/
section C17
variable {d : Nat} {hp : am_H}
theorem c_isStable {t : Nat → Nat} (h : Led hp 3 t) {K : Nat} (ok : c_ok K t) (hK : K ≤ 900) {A : Nat} (hA : A ≤ 2000000000) (hS : Sal hp t A) {e : Nat} (he : e < 16) : am_Rq (d + 5) 65 0 (am_en [.ref 212, .ref 3, .int (nI e)] 6) [] hp (am_Ret fun hp1 v => v = some (.int (nI (am_b (sl_st t A e 5)))) ∧ Sal hp1 t A ∧ am_fr (fun x => 212 ≤ x ∧ x < 238) hp hp1) := by
  show am_Rq _ 65 0 [some (.ref 212), some (.ref 3), some (.int (nI e)), none, none, none] [] _ _
  have hB := ok.b (by omega)
  refine am_Rq.blk (is := [(.aload_n 0, 1), (.aload_n 1, 1), (.iload_n 2, 1)]) (q := (3, [some (.ref 212), some (.ref 3), some (.int (nI e)), none, none, none], [.int (nI e), .ref 3, .ref 212])) (by decide +kernel) rfl ?_
  dsimp only
  refine am_Rq.callV (show decode (am_by 65) 3 = .ok (.invokevirtual 62, 3) by decide +kernel) rfl [.ref 3, .int (nI e)] [] rfl rfl (Nat.le_of_ble_eq_true rfl) rfl hS.1 rfl (c_divisionBy (e := e) h ok hK hA hS he) ?_
  rintro hp1 _ ⟨rfl, hS1, hRe, hK1, hf1⟩
  have hL1x := Led.kept h (fun a ha => hf1.2.2 a (fun q => by obtain ⟨_, _⟩ := ha; omega))
  show am_Rq _ 65 6 [some (.ref 212), some (.ref 3), some (.int (nI e)), none, none, none] [.ref (217 + 1 * e)] _ _
  refine am_Rq.blk (is := [(.astore_n 3, 1), (.iconst 1, 1), (.istore 4, 2)]) (q := (10, [some (.ref 212), some (.ref 3), some (.int (nI e)), some (.ref (217 + 1 * e)), some (.int (nI 1)), none], [])) (by decide +kernel) rfl ?_
  dsimp only
  obtain ⟨hp0, hpe⟩ : ∃ x, x = hp := ⟨_, rfl⟩
  rw [← hpe] at hf1 ⊢
  refine am_for (n := 5) (fun i lo hp => ∃ z5 : Option Value, lo = [some (.ref 212), some (.ref 3), some (.int (nI e)), some (.ref (217 + 1 * e)), some (.int (nI i)), z5] ∧ 1 ≤ i ∧ sl_st t A e i = true ∧ Sal hp t A ∧ hp[217 + 1 * e]? = some (100, am_ia (fun c => nI (sl_dv t A e c)) 6) ∧ Led hp 3 t ∧ am_fr (fun x => 212 ≤ x ∧ x < 238) hp0 hp) ?_ ?_ (i := 1) (by omega) ⟨_, rfl, Nat.le_refl _, rfl, hS1, hRe, hL1x, hf1⟩
  · rintro i lo hp hi ⟨z5, rfl, hi1, hst, hS2, hRe, hL2, hfb⟩ ih
    refine am_Rq.blk (is := [(.iload 4, 2), (.iconst 5, 1)]) (q := (13, [some (.ref 212), some (.ref 3), some (.int (nI e)), some (.ref (217 + 1 * e)), some (.int (nI i)), z5], [.int (nI 5), .int (nI i)])) (by decide +kernel) rfl ?_
    dsimp only
    refine am_Rq.if2F (show decode (am_by 65) 13 = .ok (.if_icmp .ge 51, 3) by decide +kernel) (by decide) (by rw [nm_ge (by omega) (by omega)]; exact decide_eq_false (by omega)) ?_
    obtain ⟨x1, x2, x3⟩ := c_xor e he i (by omega) hi1
    refine am_Rq.blk (is := [(.iload_n 2, 1), (.iconst 1, 1), (.iload 4, 2), (.iconst 1, 1), (.isub, 1)]) (q := (22, [some (.ref 212), some (.ref 3), some (.int (nI e)), some (.ref (217 + 1 * e)), some (.int (nI i)), z5], [.int ((nI i) - (nI 1)), .int (nI 1), .int (nI e)])) (by decide +kernel) rfl ?_
    dsimp only
    rw [show (nI i) - (nI 1) = nI (i - 1) from nm_isub (by omega)]
    refine am_Rq.blk (is := [(.ishl, 1), (.ixor, 1)]) (q := (24, [some (.ref 212), some (.ref 3), some (.int (nI e)), some (.ref (217 + 1 * e)), some (.int (nI i)), z5], [.int ((nI e) ^^^ ((nI 1) <<< ((nI (i - 1)) &&& 31)))])) (by decide +kernel) rfl ?_
    dsimp only
    rw [x1]
    have b7 := hB (8 * i + 7) (by omega)
    refine am_Rq.blk (is := [(.istore 5, 2), (.aload_n 1, 1)]) (q := (27, [some (.ref 212), some (.ref 3), some (.int (nI e)), some (.ref (217 + 1 * e)), some (.int (nI i)), some (.int (nI (e ^^^ 1 <<< (i - 1))))], [.ref 3])) (by decide +kernel) rfl ?_
    dsimp only
    refine am_Rq.getf (v := .ref (3 + 1)) (show decode (am_by 65) 27 = .ok (.getfield 66, 3) by decide +kernel) rfl (Led.lg hL2) rfl ?_
    refine am_Rq.blk (is := [(.iload 4, 2)]) (q := (32, [some (.ref 212), some (.ref 3), some (.int (nI e)), some (.ref (217 + 1 * e)), some (.int (nI i)), some (.int (nI (e ^^^ 1 <<< (i - 1))))], [.int (nI i), .ref (3 + 1)])) (by decide +kernel) rfl ?_
    dsimp only
    refine am_Rq.ral (k := i) (show decode (am_by 65) 32 = .ok (.aaload, 1) by decide +kernel) (Led.ca hL2) rfl (by omega) (by omega) ?_
    refine am_Rq.getf (v := .int (nI (t (8 * i + 7)))) (show decode (am_by 65) 33 = .ok (.getfield 70, 3) by decide +kernel) rfl (Led.sc hL2 (by omega)) rfl ?_
    refine am_Rq.if1 (t := 58) (show decode (am_by 65) 36 = .ok (.ifCond .le 22, 3) by decide +kernel) (by decide) (fun hi7 => ?_) (fun hi7 => ?_)
    ·
      rw [nm_le0 (by omega)] at hi7
      have hi7 := of_decide_eq_true hi7
      refine am_Rq.blk (is := [(.iinc 4 1, 3)]) (q := (61, [some (.ref 212), some (.ref 3), some (.int (nI e)), some (.ref (217 + 1 * e)), some (.int ((nI i) + (nI 1))), some (.int (nI (e ^^^ 1 <<< (i - 1))))], [])) (by decide +kernel) rfl ?_
      dsimp only
      rw [show (nI i) + (nI 1) = nI (i + 1) from nI_add _ _]
      refine am_Rq.blk (is := [(.goto (-51), 3)]) (q := (10, [some (.ref 212), some (.ref 3), some (.int (nI e)), some (.ref (217 + 1 * e)), some (.int (nI (i + 1))), some (.int (nI (e ^^^ 1 <<< (i - 1))))], [])) (by decide +kernel) rfl ?_
      dsimp only
      exact ih _ _ ⟨_, rfl, by omega, by rw [sl_st_succ, hst, decide_eq_false (show ¬ 0 < t (8 * i + 7) by omega), Bool.false_and, Bool.and_false]; rfl, hS2, hRe, hL2, hfb⟩
    ·
      rw [nm_le0 (by omega)] at hi7
      have hi7 := of_decide_eq_false hi7
      refine am_Rq.blk (is := [(.aload_n 0, 1), (.aload_n 1, 1), (.iload 5, 2)]) (q := (43, [some (.ref 212), some (.ref 3), some (.int (nI e)), some (.ref (217 + 1 * e)), some (.int (nI i)), some (.int (nI (e ^^^ 1 <<< (i - 1))))], [.int (nI (e ^^^ 1 <<< (i - 1))), .ref 3, .ref 212])) (by decide +kernel) rfl ?_
      dsimp only
      refine am_Rq.callV (show decode (am_by 65) 43 = .ok (.invokevirtual 62, 3) by decide +kernel) rfl [.ref 3, .int (nI (e ^^^ 1 <<< (i - 1)))] [] rfl rfl (Nat.le_of_ble_eq_true rfl) rfl hS2.1 rfl (c_divisionBy (e := e ^^^ 1 <<< (i - 1)) hL2 ok hK hA hS2 x2) ?_
      rintro hp2 _ ⟨rfl, hS2, hRo, hK2, hf2⟩
      have hL2x := Led.kept hL2 (fun a ha => hf2.2.2 a (fun q => by obtain ⟨_, _⟩ := ha; omega))
      show am_Rq _ 65 46 [some (.ref 212), some (.ref 3), some (.int (nI e)), some (.ref (217 + 1 * e)), some (.int (nI i)), some (.int (nI (e ^^^ 1 <<< (i - 1))))] [.ref (217 + 1 * (e ^^^ 1 <<< (i - 1)))] _ _
      have hRe2 := (hK2 e he (fun z => x3 z.symm)).trans hRe
      have o1 : sl_dv t A e i ≤ A := dv_out_le _ _ _ _ _ _ (by omega)
      have o2 : sl_dv t A (e ^^^ 1 <<< (i - 1)) i ≤ A := dv_out_le _ _ _ _ _ _ (by omega)
      refine am_Rq.blk (is := [(.iload 4, 2)]) (q := (48, [some (.ref 212), some (.ref 3), some (.int (nI e)), some (.ref (217 + 1 * e)), some (.int (nI i)), some (.int (nI (e ^^^ 1 <<< (i - 1))))], [.int (nI i), .ref (217 + 1 * (e ^^^ 1 <<< (i - 1)))])) (by decide +kernel) rfl ?_
      dsimp only
      refine am_Rq.ial (k := i) (show decode (am_by 65) 48 = .ok (.iaload, 1) by decide +kernel) hRo (by omega) (by omega) ?_
      refine am_Rq.blk (is := [(.aload_n 3, 1), (.iload 4, 2)]) (q := (52, [some (.ref 212), some (.ref 3), some (.int (nI e)), some (.ref (217 + 1 * e)), some (.int (nI i)), some (.int (nI (e ^^^ 1 <<< (i - 1))))], [.int (nI i), .ref (217 + 1 * e), .int (nI (sl_dv t A (e ^^^ 1 <<< (i - 1)) i))])) (by decide +kernel) rfl ?_
      dsimp only
      refine am_Rq.ial (k := i) (show decode (am_by 65) 52 = .ok (.iaload, 1) by decide +kernel) hRe2 (by omega) (by omega) ?_
      refine am_Rq.if2 (t := 58) (show decode (am_by 65) 53 = .ok (.if_icmp .le 5, 3) by decide +kernel) (by decide) (fun hle => ?_) (fun hle => ?_)
      ·
        rw [nm_le (by omega) (by omega)] at hle
        have hle := of_decide_eq_true hle
        refine am_Rq.blk (is := [(.iinc 4 1, 3)]) (q := (61, [some (.ref 212), some (.ref 3), some (.int (nI e)), some (.ref (217 + 1 * e)), some (.int ((nI i) + (nI 1))), some (.int (nI (e ^^^ 1 <<< (i - 1))))], [])) (by decide +kernel) rfl ?_
        dsimp only
        rw [show (nI i) + (nI 1) = nI (i + 1) from nI_add _ _]
        refine am_Rq.blk (is := [(.goto (-51), 3)]) (q := (10, [some (.ref 212), some (.ref 3), some (.int (nI e)), some (.ref (217 + 1 * e)), some (.int (nI (i + 1))), some (.int (nI (e ^^^ 1 <<< (i - 1))))], [])) (by decide +kernel) rfl ?_
        dsimp only
        exact ih _ _ ⟨_, rfl, by omega, by rw [sl_st_succ, hst, decide_eq_false (show ¬ sl_dv t A e i < sl_dv t A (e ^^^ 1 <<< (i - 1)) i by omega), Bool.and_false, Bool.and_false]; rfl, hS2, hRe2, hL2x, (hfb.trans (hf2.mono (A' := fun x => 212 ≤ x ∧ x < 238) (fun x q => by omega)))⟩
      ·
        rw [nm_le (by omega) (by omega)] at hle
        have hle := of_decide_eq_false hle
        refine am_Rq.blk (is := [(.iconst 0, 1)]) (q := (57, [some (.ref 212), some (.ref 3), some (.int (nI e)), some (.ref (217 + 1 * e)), some (.int (nI i)), some (.int (nI (e ^^^ 1 <<< (i - 1))))], [.int (nI 0)])) (by decide +kernel) rfl ?_
        dsimp only
        refine am_Rq.ret (v := some (.int (nI 0))) (show decode (am_by 65) 57 = .ok (.ireturn, 1) by decide +kernel) rfl rfl ?_
        subst hpe
        refine ⟨_, rfl, ?_, hS2, (hfb.trans (hf2.mono (A' := fun x => 212 ≤ x ∧ x < 238) (fun x q => by omega)))⟩
        rw [sl_st_false hi (by rw [decide_eq_true hi1, decide_eq_true (show 0 < t (8 * i + 7) by omega), decide_eq_true (show sl_dv t A e i < sl_dv t A (e ^^^ 1 <<< (i - 1)) i by omega)]; rfl)]
        rfl
  · rintro lo hp ⟨z5, rfl, hi1, hst, hS2, hRe, hL2, hfb⟩
    refine am_Rq.blk (is := [(.iload 4, 2), (.iconst 5, 1)]) (q := (13, [some (.ref 212), some (.ref 3), some (.int (nI e)), some (.ref (217 + 1 * e)), some (.int (nI 5)), z5], [.int (nI 5), .int (nI 5)])) (by decide +kernel) rfl ?_
    dsimp only
    refine am_Rq.if2T (t := 64) (show decode (am_by 65) 13 = .ok (.if_icmp .ge 51, 3) by decide +kernel) (by decide) (by rw [nm_ge (by omega) (by omega)]; exact decide_eq_true (by omega)) ?_
    refine am_Rq.blk (is := [(.iconst 1, 1)]) (q := (65, [some (.ref 212), some (.ref 3), some (.int (nI e)), some (.ref (217 + 1 * e)), some (.int (nI 5)), z5], [.int (nI 1)])) (by decide +kernel) rfl ?_
    dsimp only
    refine am_Rq.ret (v := some (.int (nI 1))) (show decode (am_by 65) 65 = .ok (.ireturn, 1) by decide +kernel) rfl rfl ?_
    subst hpe
    exact ⟨_, rfl, by rw [hst]; rfl, hS2, hfb⟩
theorem c_stableSet {t : Nat → Nat} (h : Led hp 3 t) {K : Nat} (ok : c_ok K t) (hK : K ≤ 900) (hT : hp[1]? = some (100, am_ia (fun k => nI (sl_ord k)) 16)) {A0 : Nat} {t0 : Nat → Nat} (hS : Sal hp t0 A0) {A : Nat} (hA : A ≤ 2000000000) : am_Rq (d + 6) 61 0 (am_en [.ref 212, .ref 3, .int (nI A)] 7) [] hp (am_Ret fun hp1 v => v = some (.int (sl_v (sl_set t A))) ∧ Sal hp1 t A ∧ am_fr (fun x => 212 ≤ x ∧ x < 238) hp hp1) := by
  show am_Rq _ 61 0 [some (.ref 212), some (.ref 3), some (.int (nI A)), none, none, none, none] [] _ _
  have hS0 := hS
  obtain ⟨hO, hSh, h14, h15, h16, h34, h35, h36, h37, dd, hdd, hro⟩ := hS
  refine am_Rq.blk (is := [(.aload_n 0, 1), (.iload_n 2, 1)]) (q := (2, [some (.ref 212), some (.ref 3), some (.int (nI A)), none, none, none, none], [.int (nI A), .ref 212])) (by decide +kernel) rfl ?_
  dsimp only
  refine am_Rq.callV (show decode (am_by 61) 2 = .ok (.invokevirtual 45, 3) by decide +kernel) rfl [.int (nI A)] [] rfl rfl (Nat.le_of_ble_eq_true rfl) rfl hO rfl (c_begin hO hdd) ?_
  rintro hp1 _ ⟨rfl, hO1, hd1, hf1⟩
  have hc1_1 := (hf1.2.2 (1) (fun q => by omega)).trans hT
  have hL1x := Led.kept h (fun a ha => hf1.2.2 a (fun q => by obtain ⟨_, _⟩ := ha; omega))
  show am_Rq _ 61 5 [some (.ref 212), some (.ref 3), some (.int (nI A)), none, none, none, none] [] _ _
  have kp : ∀ q, q ≠ 212 → q ≠ 233 → hp1[q]? = hp[q]? := fun q q1 q2 => hf1.2.2 q (fun z => by omega)
  have hS1 : Sal hp1 t A := by
    obtain ⟨f14, h14⟩ := h14
    obtain ⟨f15, h15⟩ := h15
    obtain ⟨f34, h34⟩ := h34
    obtain ⟨f35, h35⟩ := h35
    obtain ⟨f36, h36⟩ := h36
    obtain ⟨f37, h37⟩ := h37
    refine ⟨hO1, (kp 213 (by omega) (by omega)).trans hSh, ⟨_, (kp 214 (by omega) (by omega)).trans h14⟩, ⟨_, (kp 215 (by omega) (by omega)).trans h15⟩, (kp 216 (by omega) (by omega)).trans h16, ⟨_, (kp 234 (by omega) (by omega)).trans h34⟩, ⟨_, (kp 235 (by omega) (by omega)).trans h35⟩, ⟨_, (kp 236 (by omega) (by omega)).trans h36⟩, ⟨_, (kp 237 (by omega) (by omega)).trans h37⟩, fun _ => 0, hd1, fun e he => ?_⟩
    obtain ⟨u1, u2, u3, u4⟩ := hro e he
    exact ⟨Nat.zero_le 1, u2, (kp (217 + 1 * e) (by omega) (by omega)).trans u3, Or.inl rfl⟩
  refine am_Rq.gst (a := 1) (show decode (am_by 61) 5 = .ok (.getstatic 49, 3) by decide +kernel) rfl ?_
  refine am_Rq.blk (is := [(.astore_n 3, 1), (.aload_n 3, 1)]) (q := (10, [some (.ref 212), some (.ref 3), some (.int (nI A)), some (.ref 1), none, none, none], [.ref 1])) (by decide +kernel) rfl ?_
  dsimp only
  refine am_Rq.alen (show decode (am_by 61) 10 = .ok (.arraylength, 1) by decide +kernel) hc1_1 (by decide) ?_
  rw [am_ia_len]
  refine am_Rq.blk (is := [(.istore 4, 2), (.iconst 0, 1), (.istore 5, 2)]) (q := (16, [some (.ref 212), some (.ref 3), some (.int (nI A)), some (.ref 1), some (.int (nI 16)), some (.int (nI 0)), none], [])) (by decide +kernel) rfl ?_
  dsimp only
  have hfA : am_fr (fun x => 212 ≤ x ∧ x < 238) hp hp1 := hf1.mono (fun x z => by omega)
  obtain ⟨hp0, hpe⟩ : ∃ x, x = hp := ⟨_, rfl⟩
  rw [← hpe] at hfA ⊢
  refine am_for (n := 16) (fun i lo hp => ∃ z6 : Option Value, lo = [some (.ref 212), some (.ref 3), some (.int (nI A)), some (.ref 1), some (.int (nI 16)), some (.int (nI i)), z6] ∧ (∀ q, q < i → sl_ok t A (sl_ord q) = false) ∧ Sal hp t A ∧ hp[1]? = some (100, am_ia (fun k => nI (sl_ord k)) 16) ∧ Led hp 3 t ∧ am_fr (fun x => 212 ≤ x ∧ x < 238) hp0 hp) ?_ ?_ (i := 0) (by omega) ⟨_, rfl, fun q hq => by omega, hS1, hc1_1, hL1x, hfA⟩
  · rintro i lo hp hi ⟨z6, rfl, hx, hS2, hT, hL2, hfb⟩ ih
    refine am_Rq.blk (is := [(.iload 5, 2), (.iload 4, 2)]) (q := (20, [some (.ref 212), some (.ref 3), some (.int (nI A)), some (.ref 1), some (.int (nI 16)), some (.int (nI i)), z6], [.int (nI 16), .int (nI i)])) (by decide +kernel) rfl ?_
    dsimp only
    refine am_Rq.if2F (show decode (am_by 61) 20 = .ok (.if_icmp .ge 37, 3) by decide +kernel) (by decide) (by rw [nm_ge (by omega) (by omega)]; exact decide_eq_false (by omega)) ?_
    have hol := sl_ord_lt i hi
    refine am_Rq.blk (is := [(.aload_n 3, 1), (.iload 5, 2)]) (q := (26, [some (.ref 212), some (.ref 3), some (.int (nI A)), some (.ref 1), some (.int (nI 16)), some (.int (nI i)), z6], [.int (nI i), .ref 1])) (by decide +kernel) rfl ?_
    dsimp only
    refine am_Rq.ial (k := i) (show decode (am_by 61) 26 = .ok (.iaload, 1) by decide +kernel) hT (by omega) (by omega) ?_
    refine am_Rq.blk (is := [(.istore 6, 2), (.aload_n 1, 1), (.iload 6, 2)]) (q := (32, [some (.ref 212), some (.ref 3), some (.int (nI A)), some (.ref 1), some (.int (nI 16)), some (.int (nI i)), some (.int (nI (sl_ord i)))], [.int (nI (sl_ord i)), .ref 3])) (by decide +kernel) rfl ?_
    dsimp only
    refine am_Rq.callV (show decode (am_by 61) 32 = .ok (.invokevirtual 52, 3) by decide +kernel) rfl [.int (nI (sl_ord i))] [] rfl rfl (Nat.le_of_ble_eq_true rfl) rfl (Led.lg hL2) rfl (c_canConvert (x := nI (sl_ord i)) hL2 ok (by omega)) ?_
    rintro hq _ ⟨e1, rfl⟩
    rw [e1]
    clear e1 hq
    rw [c_cvN hol]
    show am_Rq _ 61 35 [some (.ref 212), some (.ref 3), some (.int (nI A)), some (.ref 1), some (.int (nI 16)), some (.int (nI i)), some (.int (nI (sl_ord i)))] [.int (nI (am_b (c_cv t (sl_ord i) 5)))] _ _
    refine am_Rq.if1 (t := 51) (show decode (am_by 61) 35 = .ok (.ifCond .eq 16, 3) by decide +kernel) (by decide) (fun hb => ?_) (fun hb => ?_)
    ·
      rw [am_b_eq, Bool.not_eq_true'] at hb
      refine am_Rq.blk (is := [(.iinc 5 1, 3)]) (q := (54, [some (.ref 212), some (.ref 3), some (.int (nI A)), some (.ref 1), some (.int (nI 16)), some (.int ((nI i) + (nI 1))), some (.int (nI (sl_ord i)))], [])) (by decide +kernel) rfl ?_
      dsimp only
      rw [show (nI i) + (nI 1) = nI (i + 1) from nI_add _ _]
      refine am_Rq.blk (is := [(.goto (-38), 3)]) (q := (16, [some (.ref 212), some (.ref 3), some (.int (nI A)), some (.ref 1), some (.int (nI 16)), some (.int (nI (i + 1))), some (.int (nI (sl_ord i)))], [])) (by decide +kernel) rfl ?_
      dsimp only
      refine ih _ _ ⟨_, rfl, fun q hq => ?_, hS2, hT, hL2, hfb⟩
      by_cases ee : q = i
      · subst ee; unfold sl_ok; rw [hb]; rfl
      · exact hx q (by omega)
    ·
      rw [am_b_eq, Bool.not_eq_false'] at hb
      refine am_Rq.blk (is := [(.aload_n 0, 1), (.aload_n 1, 1), (.iload 6, 2)]) (q := (42, [some (.ref 212), some (.ref 3), some (.int (nI A)), some (.ref 1), some (.int (nI 16)), some (.int (nI i)), some (.int (nI (sl_ord i)))], [.int (nI (sl_ord i)), .ref 3, .ref 212])) (by decide +kernel) rfl ?_
      dsimp only
      refine am_Rq.callV (show decode (am_by 61) 42 = .ok (.invokevirtual 58, 3) by decide +kernel) rfl [.ref 3, .int (nI (sl_ord i))] [] rfl rfl (Nat.le_of_ble_eq_true rfl) rfl hS2.1 rfl (c_isStable hL2 ok hK hA hS2 hol) ?_
      rintro hp2 _ ⟨rfl, hSs2, hf2⟩
      have hc2_1 := (hf2.2.2 (1) (fun q => by omega)).trans hT
      have hL2x := Led.kept hL2 (fun a ha => hf2.2.2 a (fun q => by obtain ⟨_, _⟩ := ha; omega))
      show am_Rq _ 61 45 [some (.ref 212), some (.ref 3), some (.int (nI A)), some (.ref 1), some (.int (nI 16)), some (.int (nI i)), some (.int (nI (sl_ord i)))] [.int (nI (am_b (sl_st t A (sl_ord i) 5)))] _ _
      refine am_Rq.if1 (t := 51) (show decode (am_by 61) 45 = .ok (.ifCond .eq 6, 3) by decide +kernel) (by decide) (fun hc => ?_) (fun hc => ?_)
      ·
        rw [am_b_eq, Bool.not_eq_true'] at hc
        refine am_Rq.blk (is := [(.iinc 5 1, 3)]) (q := (54, [some (.ref 212), some (.ref 3), some (.int (nI A)), some (.ref 1), some (.int (nI 16)), some (.int ((nI i) + (nI 1))), some (.int (nI (sl_ord i)))], [])) (by decide +kernel) rfl ?_
        dsimp only
        rw [show (nI i) + (nI 1) = nI (i + 1) from nI_add _ _]
        refine am_Rq.blk (is := [(.goto (-38), 3)]) (q := (16, [some (.ref 212), some (.ref 3), some (.int (nI A)), some (.ref 1), some (.int (nI 16)), some (.int (nI (i + 1))), some (.int (nI (sl_ord i)))], [])) (by decide +kernel) rfl ?_
        dsimp only
        refine ih _ _ ⟨_, rfl, fun q hq => ?_, hSs2, hc2_1, hL2x, (hfb.trans (hf2.mono (A' := fun x => 212 ≤ x ∧ x < 238) (fun x q => by omega)))⟩
        by_cases ee : q = i
        · subst ee; unfold sl_ok; rw [hb, hc]; rfl
        · exact hx q (by omega)
      ·
        rw [am_b_eq, Bool.not_eq_false'] at hc
        refine am_Rq.blk (is := [(.iload 6, 2)]) (q := (50, [some (.ref 212), some (.ref 3), some (.int (nI A)), some (.ref 1), some (.int (nI 16)), some (.int (nI i)), some (.int (nI (sl_ord i)))], [.int (nI (sl_ord i))])) (by decide +kernel) rfl ?_
        dsimp only
        refine am_Rq.ret (v := some (.int (nI (sl_ord i)))) (show decode (am_by 61) 50 = .ok (.ireturn, 1) by decide +kernel) rfl rfl ?_
        subst hpe
        refine ⟨_, rfl, ?_, hSs2, (hfb.trans (hf2.mono (A' := fun x => 212 ≤ x ∧ x < 238) (fun x q => by omega)))⟩
        unfold sl_set
        rw [sl_at hi (show sl_ok t A (sl_ord i) = true by unfold sl_ok; rw [hb, hc]; rfl) hx]
        rfl
  · rintro lo hp ⟨z6, rfl, hx, hS2, hT, hL2, hfb⟩
    refine am_Rq.blk (is := [(.iload 5, 2), (.iload 4, 2)]) (q := (20, [some (.ref 212), some (.ref 3), some (.int (nI A)), some (.ref 1), some (.int (nI 16)), some (.int (nI 16)), z6], [.int (nI 16), .int (nI 16)])) (by decide +kernel) rfl ?_
    dsimp only
    refine am_Rq.if2T (t := 57) (show decode (am_by 61) 20 = .ok (.if_icmp .ge 37, 3) by decide +kernel) (by decide) (by rw [nm_ge (by omega) (by omega)]; exact decide_eq_true (by omega)) ?_
    refine am_Rq.blk (is := [(.iconst (-1), 1)]) (q := (58, [some (.ref 212), some (.ref 3), some (.int (nI A)), some (.ref 1), some (.int (nI 16)), some (.int (nI 16)), z6], [.int (am_ic (-1))])) (by decide +kernel) rfl ?_
    dsimp only
    refine am_Rq.ret (v := some (.int (am_ic (-1)))) (show decode (am_by 61) 58 = .ok (.ireturn, 1) by decide +kernel) rfl rfl ?_
    subst hpe
    refine ⟨_, rfl, ?_, hS2, hfb⟩
    unfold sl_set
    rw [sl_findNo (fun x hx2 => by obtain ⟨q, q1, rfl⟩ := sl_all x hx2; exact hx q q1)]
    rfl
theorem c_broughtTo {t : Nat → Nat} (h : Led hp 3 t) {K : Nat} (ok : c_ok K t) (hK : K ≤ 900) {A : Nat} (hA : A ≤ 2000000000) (hS : Sal hp t A) {e k : Nat} (he : e < 16) (hk : k < 8) : am_Rq (d + 5) 83 0 (am_en [.ref 212, .ref 3, .int (nI e), .int (nI k)] 7) [] hp (am_Ret fun hp1 v => v = some (.int (nI (sl_br t A e k 5))) ∧ Sal hp1 t A ∧ am_fr (fun x => 212 ≤ x ∧ x < 238) hp hp1) := by
  show am_Rq _ 83 0 [some (.ref 212), some (.ref 3), some (.int (nI e)), some (.int (nI k)), none, none, none] [] _ _
  have hB := ok.b (by omega)
  refine am_Rq.blk (is := [(.aload_n 0, 1), (.aload_n 1, 1), (.iload_n 2, 1)]) (q := (3, [some (.ref 212), some (.ref 3), some (.int (nI e)), some (.int (nI k)), none, none, none], [.int (nI e), .ref 3, .ref 212])) (by decide +kernel) rfl ?_
  dsimp only
  refine am_Rq.callV (show decode (am_by 83) 3 = .ok (.invokevirtual 62, 3) by decide +kernel) rfl [.ref 3, .int (nI e)] [] rfl rfl (Nat.le_of_ble_eq_true rfl) rfl hS.1 rfl (c_divisionBy (e := e) h ok hK hA hS he) ?_
  rintro hp1 _ ⟨rfl, hS1, hRe, hK1, hf1⟩
  have hL1x := Led.kept h (fun a ha => hf1.2.2 a (fun q => by obtain ⟨_, _⟩ := ha; omega))
  show am_Rq _ 83 6 [some (.ref 212), some (.ref 3), some (.int (nI e)), some (.int (nI k)), none, none, none] [.ref (217 + 1 * e)] _ _
  refine am_Rq.blk (is := [(.astore 4, 2), (.iconst 0, 1), (.istore 5, 2), (.iconst 0, 1), (.istore 6, 2)]) (q := (14, [some (.ref 212), some (.ref 3), some (.int (nI e)), some (.int (nI k)), some (.ref (217 + 1 * e)), some (.int (nI 0)), some (.int (nI 0))], [])) (by decide +kernel) rfl ?_
  dsimp only
  obtain ⟨hp0, hpe⟩ : ∃ x, x = hp := ⟨_, rfl⟩
  rw [← hpe] at hf1 ⊢
  refine am_for (n := 5) (fun i lo hp => lo = [some (.ref 212), some (.ref 3), some (.int (nI e)), some (.int (nI k)), some (.ref (217 + 1 * e)), some (.int (nI (sl_br t A e k i))), some (.int (nI i))] ∧ Sal hp t A ∧ hp[217 + 1 * e]? = some (100, am_ia (fun c => nI (sl_dv t A e c)) 6) ∧ Led hp 3 t ∧ am_fr (fun x => 212 ≤ x ∧ x < 238) hp0 hp) ?_ ?_ (i := 0) (by omega) ⟨rfl, hS1, hRe, hL1x, hf1⟩
  · rintro i lo hp hi ⟨rfl, hS2, hRe, hL2, hfb⟩ ih
    obtain ⟨hO, hSh, ⟨f14, h14⟩, ⟨g15, h15⟩, h16, h34, h35, h36, h37, dd, hdd, hro⟩ := hS2
    have o1 : sl_dv t A e i ≤ A := dv_out_le _ _ _ _ _ _ (by omega)
    refine am_Rq.blk (is := [(.iload 6, 2), (.iconst 5, 1)]) (q := (17, [some (.ref 212), some (.ref 3), some (.int (nI e)), some (.int (nI k)), some (.ref (217 + 1 * e)), some (.int (nI (sl_br t A e k i))), some (.int (nI i))], [.int (nI 5), .int (nI i)])) (by decide +kernel) rfl ?_
    dsimp only
    refine am_Rq.if2F (show decode (am_by 83) 17 = .ok (.if_icmp .ge 39, 3) by decide +kernel) (by decide) (by rw [nm_ge (by omega) (by omega)]; exact decide_eq_false (by omega)) ?_
    refine am_Rq.blk (is := [(.iload 5, 2), (.aload_n 0, 1)]) (q := (23, [some (.ref 212), some (.ref 3), some (.int (nI e)), some (.int (nI k)), some (.ref (217 + 1 * e)), some (.int (nI (sl_br t A e k i))), some (.int (nI i))], [.ref 212, .int (nI (sl_br t A e k i))])) (by decide +kernel) rfl ?_
    dsimp only
    refine am_Rq.getf (v := .ref 213) (show decode (am_by 83) 23 = .ok (.getfield 12, 3) by decide +kernel) rfl hO rfl ?_
    refine am_Rq.blk (is := [(.aload 4, 2), (.iload 6, 2)]) (q := (30, [some (.ref 212), some (.ref 3), some (.int (nI e)), some (.int (nI k)), some (.ref (217 + 1 * e)), some (.int (nI (sl_br t A e k i))), some (.int (nI i))], [.int (nI i), .ref (217 + 1 * e), .ref 213, .int (nI (sl_br t A e k i))])) (by decide +kernel) rfl ?_
    dsimp only
    refine am_Rq.ial (k := i) (show decode (am_by 83) 30 = .ok (.iaload, 1) by decide +kernel) hRe (by omega) (by omega) ?_
    refine am_Rq.blk (is := [(.i2l, 1)]) (q := (32, [some (.ref 212), some (.ref 3), some (.int (nI e)), some (.int (nI k)), some (.ref (217 + 1 * e)), some (.int (nI (sl_br t A e k i))), some (.int (nI i))], [.long ((nI (sl_dv t A e i)).toInt64), .ref 213, .int (nI (sl_br t A e k i))])) (by decide +kernel) rfl ?_
    dsimp only
    rw [show (nI (sl_dv t A e i)).toInt64 = lN (sl_dv t A e i) from nm_l (by omega)]
    refine am_Rq.blk (is := [(.aload_n 1, 1)]) (q := (33, [some (.ref 212), some (.ref 3), some (.int (nI e)), some (.int (nI k)), some (.ref (217 + 1 * e)), some (.int (nI (sl_br t A e k i))), some (.int (nI i))], [.ref 3, .long (lN (sl_dv t A e i)), .ref 213, .int (nI (sl_br t A e k i))])) (by decide +kernel) rfl ?_
    dsimp only
    refine am_Rq.getf (v := .ref (3 + 1)) (show decode (am_by 83) 33 = .ok (.getfield 66, 3) by decide +kernel) rfl (Led.lg hL2) rfl ?_
    refine am_Rq.blk (is := [(.iload 6, 2)]) (q := (38, [some (.ref 212), some (.ref 3), some (.int (nI e)), some (.int (nI k)), some (.ref (217 + 1 * e)), some (.int (nI (sl_br t A e k i))), some (.int (nI i))], [.int (nI i), .ref (3 + 1), .long (lN (sl_dv t A e i)), .ref 213, .int (nI (sl_br t A e k i))])) (by decide +kernel) rfl ?_
    dsimp only
    refine am_Rq.ral (k := i) (show decode (am_by 83) 38 = .ok (.aaload, 1) by decide +kernel) (Led.ca hL2) rfl (by omega) (by omega) ?_
    refine am_Rq.getf (v := .ref (3 + 3 + 2 * i)) (show decode (am_by 83) 39 = .ok (.getfield 75, 3) by decide +kernel) rfl (Led.sc hL2 (by omega)) rfl ?_
    have hu : ∀ k, k < 8 → t (40 + 8 * i + k) < 2 ^ 31 := fun k hk => hB _ (by omega)
    have hsu : sp_sm (fun k => t (40 + 8 * i + k)) 8 < 2 ^ 62 := by
      obtain ⟨a0, a1, a2, a3, a4, a5, a6, a7, a8, a9, a10, a11⟩ := ok.1 i hi
      omega
    refine am_Rq.callV (show decode (am_by 83) 42 = .ok (.invokevirtual 78, 3) by decide +kernel) rfl [.long (lN (sl_dv t A e i)), .ref (3 + 3 + 2 * i)] [.int (nI (sl_br t A e k i))] rfl rfl (Nat.le_of_ble_eq_true rfl) rfl hSh rfl (c_shareOut (u := fun k => t (40 + 8 * i + k)) (n := 8) (A := sl_dv t A e i) hSh h14 h15 (Led.hd hL2 (by omega)) (by omega) (by omega) (by omega) (by omega) (by omega) (by omega) (by omega) (by omega) (by omega) (by omega) hu hsu) ?_
    rintro hp2 _ ⟨rfl, ⟨fs, hS3, hS4, hS5⟩, ⟨gs, hS6⟩, hf2⟩
    have hc2_212 := (hf2.2.2 (212) (fun q => by omega)).trans hO
    have hc2_213 := (hf2.2.2 (213) (fun q => by omega)).trans hSh
    have hc2_2171e := (hf2.2.2 (217 + 1 * e) (fun q => by omega)).trans hRe
    have hL2x := Led.kept hL2 (fun a ha => hf2.2.2 a (fun q => by obtain ⟨_, _⟩ := ha; omega))
    show am_Rq _ 83 45 [some (.ref 212), some (.ref 3), some (.int (nI e)), some (.int (nI k)), some (.ref (217 + 1 * e)), some (.int (nI (sl_br t A e k i))), some (.int (nI i))] [.ref 214, .int (nI (sl_br t A e k i))] _ _
    refine am_Rq.blk (is := [(.iload_n 3, 1)]) (q := (46, [some (.ref 212), some (.ref 3), some (.int (nI e)), some (.int (nI k)), some (.ref (217 + 1 * e)), some (.int (nI (sl_br t A e k i))), some (.int (nI i))], [.int (nI k), .ref 214, .int (nI (sl_br t A e k i))])) (by decide +kernel) rfl ?_
    dsimp only
    refine am_Rq.ial (k := k) (show decode (am_by 83) 46 = .ok (.iaload, 1) by decide +kernel) hS3 (by omega) (by omega) ?_
    rw [hS4 k hk]
    refine am_Rq.blk (is := [(.iadd, 1)]) (q := (48, [some (.ref 212), some (.ref 3), some (.int (nI e)), some (.int (nI k)), some (.ref (217 + 1 * e)), some (.int (nI (sl_br t A e k i))), some (.int (nI i))], [.int ((nI (sl_br t A e k i)) + (nI (sp_sh 8 (sl_dv t A e i) (fun k => t (40 + 8 * i + k)) k)))])) (by decide +kernel) rfl ?_
    dsimp only
    rw [show (nI (sl_br t A e k i)) + (nI (sp_sh 8 (sl_dv t A e i) (fun k => t (40 + 8 * i + k)) k)) = nI ((sl_br t A e k i) + (sp_sh 8 (sl_dv t A e i) (fun k => t (40 + 8 * i + k)) k)) from nI_add _ _]
    refine am_Rq.blk (is := [(.istore 5, 2), (.iinc 6 1, 3)]) (q := (53, [some (.ref 212), some (.ref 3), some (.int (nI e)), some (.int (nI k)), some (.ref (217 + 1 * e)), some (.int (nI ((sl_br t A e k i) + (sp_sh 8 (sl_dv t A e i) (fun k => t (40 + 8 * i + k)) k)))), some (.int ((nI i) + (nI 1)))], [])) (by decide +kernel) rfl ?_
    dsimp only
    rw [show (nI i) + (nI 1) = nI (i + 1) from nI_add _ _]
    refine am_Rq.blk (is := [(.goto (-39), 3)]) (q := (14, [some (.ref 212), some (.ref 3), some (.int (nI e)), some (.int (nI k)), some (.ref (217 + 1 * e)), some (.int (nI ((sl_br t A e k i) + (sp_sh 8 (sl_dv t A e i) (fun k => t (40 + 8 * i + k)) k)))), some (.int (nI (i + 1)))], [])) (by decide +kernel) rfl ?_
    dsimp only
    have kp := fun (q : Nat) (q1 : q ≠ 214) (q2 : q ≠ 215) => hf2.2.2 q (fun z => by omega)
    obtain ⟨f34, h34⟩ := h34
    obtain ⟨f35, h35⟩ := h35
    obtain ⟨f36, h36⟩ := h36
    obtain ⟨f37, h37⟩ := h37
    refine ih _ _ ⟨rfl, ⟨hc2_212, hc2_213, ⟨_, hS3⟩, ⟨_, hS6⟩, (kp 216 (by omega) (by omega)).trans h16, ⟨_, (kp 234 (by omega) (by omega)).trans h34⟩, ⟨_, (kp 235 (by omega) (by omega)).trans h35⟩, ⟨_, (kp 236 (by omega) (by omega)).trans h36⟩, ⟨_, (kp 237 (by omega) (by omega)).trans h37⟩, dd, (kp 233 (by omega) (by omega)).trans hdd, fun e he => ?_⟩, hc2_2171e, hL2x, (hfb.trans (hf2.mono (A' := fun x => 212 ≤ x ∧ x < 238) (fun x q => by omega)))⟩
    obtain ⟨u1, u2, u3, u4⟩ := hro e he
    exact ⟨u1, u2, (kp (217 + 1 * e) (by omega) (by omega)).trans u3, u4⟩
  · rintro lo hp ⟨rfl, hS2, hRe, hL2, hfb⟩
    refine am_Rq.blk (is := [(.iload 6, 2), (.iconst 5, 1)]) (q := (17, [some (.ref 212), some (.ref 3), some (.int (nI e)), some (.int (nI k)), some (.ref (217 + 1 * e)), some (.int (nI (sl_br t A e k 5))), some (.int (nI 5))], [.int (nI 5), .int (nI 5)])) (by decide +kernel) rfl ?_
    dsimp only
    refine am_Rq.if2T (t := 56) (show decode (am_by 83) 17 = .ok (.if_icmp .ge 39, 3) by decide +kernel) (by decide) (by rw [nm_ge (by omega) (by omega)]; exact decide_eq_true (by omega)) ?_
    refine am_Rq.blk (is := [(.iload 5, 2)]) (q := (58, [some (.ref 212), some (.ref 3), some (.int (nI e)), some (.int (nI k)), some (.ref (217 + 1 * e)), some (.int (nI (sl_br t A e k 5))), some (.int (nI 5))], [.int (nI (sl_br t A e k 5))])) (by decide +kernel) rfl ?_
    dsimp only
    refine am_Rq.ret (v := some (.int (nI (sl_br t A e k 5)))) (show decode (am_by 83) 58 = .ok (.ireturn, 1) by decide +kernel) rfl rfl ?_
    subst hpe
    exact ⟨_, rfl, rfl, hS2, hfb⟩
end C17
