/-! The class's sale: divisionBy (rows by prog/c16.py). -/
section C16
variable {d : Nat} {hp : am_H}
theorem c_divisionBy {t : Nat → Nat} (h : Led hp 3 t) {K : Nat} (ok : c_ok K t) (hK : K ≤ 900) {A : Nat} (hA : A ≤ 2000000000) (hS : Sal hp t A) {e : Nat} (he : e < 16) : am_Rq (d + 4) 66 0 (am_en [.ref 212, .ref 3, .int (nI e)] 7) [] hp (am_Ret fun hp1 v => v = some (.ref (217 + 1 * e)) ∧ Sal hp1 t A ∧ hp1[217 + 1 * e]? = some (100, am_ia (fun c => nI (sl_dv t A e c)) 6) ∧ (∀ q, q < 16 → q ≠ e → hp1[217 + 1 * q]? = hp[217 + 1 * q]?) ∧ am_fr (fun x => 212 ≤ x ∧ x < 238) hp hp1) := by
  show am_Rq _ 66 0 [some (.ref 212), some (.ref 3), some (.int (nI e)), none, none, none, none] [] _ _
  obtain ⟨hO, hSh, ⟨f14, hPa⟩, ⟨g15, hRe⟩, h16, ⟨f34, h4⟩, ⟨f35, h5⟩, ⟨g36, h6⟩, ⟨f37, h7⟩, dd, hdd, hro⟩ := hS
  obtain ⟨hd1, f0, hD, hdv⟩ := hro e he
  refine am_Rq.blk (is := [(.aload_n 0, 1)]) (q := (1, [some (.ref 212), some (.ref 3), some (.int (nI e)), none, none, none, none], [.ref 212])) (by decide +kernel) rfl ?_
  dsimp only
  refine am_Rq.getf (v := .ref 216) (show decode (am_by 66) 1 = .ok (.getfield 20, 3) by decide +kernel) rfl hO rfl ?_
  refine am_Rq.blk (is := [(.iload_n 2, 1)]) (q := (5, [some (.ref 212), some (.ref 3), some (.int (nI e)), none, none, none, none], [.int (nI e), .ref 216])) (by decide +kernel) rfl ?_
  dsimp only
  refine am_Rq.ral (k := e) (show decode (am_by 66) 5 = .ok (.aaload, 1) by decide +kernel) h16 rfl (by omega) (by omega) ?_
  refine am_Rq.blk (is := [(.astore_n 3, 1), (.aload_n 0, 1)]) (q := (8, [some (.ref 212), some (.ref 3), some (.int (nI e)), some (.ref (217 + 1 * e)), none, none, none], [.ref 212])) (by decide +kernel) rfl ?_
  dsimp only
  refine am_Rq.getf (v := .ref 233) (show decode (am_by 66) 8 = .ok (.getfield 23, 3) by decide +kernel) rfl hO rfl ?_
  refine am_Rq.blk (is := [(.iload_n 2, 1)]) (q := (12, [some (.ref 212), some (.ref 3), some (.int (nI e)), some (.ref (217 + 1 * e)), none, none, none], [.int (nI e), .ref 233])) (by decide +kernel) rfl ?_
  dsimp only
  refine am_Rq.zal (k := e) (show decode (am_by 66) 12 = .ok (.baload, 1) by decide +kernel) hdd (by omega) (by omega) ?_
  refine am_Rq.if1 (t := 18) (show decode (am_by 66) 13 = .ok (.ifCond .eq 5, 3) by decide +kernel) (by decide) (fun hz0 => ?_) (fun hz0 => ?_)
  ·
    rw [nm_eq0 (by omega)] at hz0
    have hz0 := of_decide_eq_true hz0
    refine am_Rq.blk (is := [(.aload_n 0, 1)]) (q := (19, [some (.ref 212), some (.ref 3), some (.int (nI e)), some (.ref (217 + 1 * e)), none, none, none], [.ref 212])) (by decide +kernel) rfl ?_
    dsimp only
    refine am_Rq.getf (v := .ref 233) (show decode (am_by 66) 19 = .ok (.getfield 23, 3) by decide +kernel) rfl hO rfl ?_
    refine am_Rq.blk (is := [(.iload_n 2, 1), (.iconst 1, 1)]) (q := (24, [some (.ref 212), some (.ref 3), some (.int (nI e)), some (.ref (217 + 1 * e)), none, none, none], [.int (nI 1), .int (nI e), .ref 233])) (by decide +kernel) rfl ?_
    dsimp only
    refine am_Rq.zas (k := e) (x := nI 1) (show decode (am_by 66) 24 = .ok (.bastore, 1) by decide +kernel) hdd (by rfl) (by omega) (by omega) (by omega) ?_
    have hc1_212 := (am_sn (c' := (102, (am_ia (va_up (fun e => nI (dd e)) e (nI 1)) 16))) (show 233 ≠ 212 by omega)).trans hO
    have hc1_213 := (am_sn (c' := (102, (am_ia (va_up (fun e => nI (dd e)) e (nI 1)) 16))) (show 233 ≠ 213 by omega)).trans hSh
    have hc1_214 := (am_sn (c' := (102, (am_ia (va_up (fun e => nI (dd e)) e (nI 1)) 16))) (show 233 ≠ 214 by omega)).trans hPa
    have hc1_215 := (am_sn (c' := (102, (am_ia (va_up (fun e => nI (dd e)) e (nI 1)) 16))) (show 233 ≠ 215 by omega)).trans hRe
    have hc1_216 := (am_sn (c' := (102, (am_ia (va_up (fun e => nI (dd e)) e (nI 1)) 16))) (show 233 ≠ 216 by omega)).trans h16
    have hc1_233 := am_ss (c' := (102, (am_ia (va_up (fun e => nI (dd e)) e (nI 1)) 16))) hdd
    have hc1_234 := (am_sn (c' := (102, (am_ia (va_up (fun e => nI (dd e)) e (nI 1)) 16))) (show 233 ≠ 234 by omega)).trans h4
    have hc1_235 := (am_sn (c' := (102, (am_ia (va_up (fun e => nI (dd e)) e (nI 1)) 16))) (show 233 ≠ 235 by omega)).trans h5
    have hc1_236 := (am_sn (c' := (102, (am_ia (va_up (fun e => nI (dd e)) e (nI 1)) 16))) (show 233 ≠ 236 by omega)).trans h6
    have hc1_237 := (am_sn (c' := (102, (am_ia (va_up (fun e => nI (dd e)) e (nI 1)) 16))) (show 233 ≠ 237 by omega)).trans h7
    have hc1_2171e := (am_sn (c' := (102, (am_ia (va_up (fun e => nI (dd e)) e (nI 1)) 16))) (show 233 ≠ 217 + 1 * e by omega)).trans hD
    have hL1x := Led.kept h (fun q hq => am_sn (c' := (102, (am_ia (va_up (fun e => nI (dd e)) e (nI 1)) 16))) (show 233 ≠ q by obtain ⟨_, _⟩ := hq; omega))
    have hf1 := (am_fr.rf (A := fun q => q = 233)).set (c' := (102, (am_ia (va_up (fun e => nI (dd e)) e (nI 1)) 16))) rfl hdd (by simp [am_ia_len, am_la_len])
    generalize hze1 : (List.set _ 233 _ : am_H) = hz1 at hf1 hc1_212 hc1_213 hc1_214 hc1_215 hc1_216 hc1_233 hc1_234 hc1_235 hc1_236 hc1_237 hc1_2171e hL1x ⊢
    clear hze1
    refine am_Rq.blk (is := [(.aload_n 3, 1), (.iconst 0, 1)]) (q := (27, [some (.ref 212), some (.ref 3), some (.int (nI e)), some (.ref (217 + 1 * e)), none, none, none], [.int (nI 0), .ref (217 + 1 * e)])) (by decide +kernel) rfl ?_
    dsimp only
    refine am_Rq.callS (show decode (am_by 66) 27 = .ok (.invokestatic 82, 3) by decide +kernel) rfl [.ref (217 + 1 * e), .int (nI 0)] [] rfl rfl (Nat.le_of_ble_eq_true rfl) rfl rfl (c_fill hc1_2171e (by omega) (by omega) (nI 0)) ?_
    rintro hp2 _ ⟨rfl, hD2, hf2⟩
    have hc2_212 := (hf2.2.2 (212) (fun q => by omega)).trans hc1_212
    have hc2_213 := (hf2.2.2 (213) (fun q => by omega)).trans hc1_213
    have hc2_214 := (hf2.2.2 (214) (fun q => by omega)).trans hc1_214
    have hc2_215 := (hf2.2.2 (215) (fun q => by omega)).trans hc1_215
    have hc2_216 := (hf2.2.2 (216) (fun q => by omega)).trans hc1_216
    have hc2_233 := (hf2.2.2 (233) (fun q => by omega)).trans hc1_233
    have hc2_234 := (hf2.2.2 (234) (fun q => by omega)).trans hc1_234
    have hc2_235 := (hf2.2.2 (235) (fun q => by omega)).trans hc1_235
    have hc2_236 := (hf2.2.2 (236) (fun q => by omega)).trans hc1_236
    have hc2_237 := (hf2.2.2 (237) (fun q => by omega)).trans hc1_237
    have hL2x := Led.kept hL1x (fun a ha => hf2.2.2 a (fun q => by obtain ⟨_, _⟩ := ha; omega))
    have hDz : hp2[217 + 1 * e]? = some (100, am_ia (fun c => nI (if c < 5 then dv_D (sl_P t e) (sl_R t) A 0 c else 0)) 6) := by
      rw [hD2, c_ia_congr (fun c _ => ?_)]
      show nI 0 = nI (if c < 5 then 0 else 0)
      split <;> rfl
    show am_Rq _ 66 30 [some (.ref 212), some (.ref 3), some (.int (nI e)), some (.ref (217 + 1 * e)), none, none, none] [] _ _
    refine am_Rq.blk (is := [(.aload_n 0, 1), (.aload_n 1, 1), (.iload_n 2, 1)]) (q := (33, [some (.ref 212), some (.ref 3), some (.int (nI e)), some (.ref (217 + 1 * e)), none, none, none], [.int (nI e), .ref 3, .ref 212])) (by decide +kernel) rfl ?_
    dsimp only
    refine am_Rq.callV (show decode (am_by 66) 33 = .ok (.invokevirtual 88, 3) by decide +kernel) rfl [.ref 3, .int (nI e)] [] rfl rfl (Nat.le_of_ble_eq_true rfl) rfl hc2_212 rfl (c_prepare hc2_212 hL2x ok hK hc2_234 hc2_235 hc2_236 he) ?_
    rintro hp3 _ ⟨rfl, hP4, hW5, hM6, hf3⟩
    have hc3_212 := (hf3.2.2 (212) (fun q => by omega)).trans hc2_212
    have hc3_213 := (hf3.2.2 (213) (fun q => by omega)).trans hc2_213
    have hc3_214 := (hf3.2.2 (214) (fun q => by omega)).trans hc2_214
    have hc3_215 := (hf3.2.2 (215) (fun q => by omega)).trans hc2_215
    have hc3_216 := (hf3.2.2 (216) (fun q => by omega)).trans hc2_216
    have hc3_233 := (hf3.2.2 (233) (fun q => by omega)).trans hc2_233
    have hc3_237 := (hf3.2.2 (237) (fun q => by omega)).trans hc2_237
    have hc3_2171e := (hf3.2.2 (217 + 1 * e) (fun q => by omega)).trans hDz
    have hL3x := Led.kept hL2x (fun a ha => hf3.2.2 a (fun q => by obtain ⟨_, _⟩ := ha; omega))
    show am_Rq _ 66 36 [some (.ref 212), some (.ref 3), some (.int (nI e)), some (.ref (217 + 1 * e)), none, none, none] [] _ _
    refine am_Rq.blk (is := [(.aload_n 0, 1)]) (q := (37, [some (.ref 212), some (.ref 3), some (.int (nI e)), some (.ref (217 + 1 * e)), none, none, none], [.ref 212])) (by decide +kernel) rfl ?_
    dsimp only
    refine am_Rq.getf (v := .int (nI A)) (show decode (am_by 66) 37 = .ok (.getfield 41, 3) by decide +kernel) rfl hc3_212 rfl ?_
    refine am_Rq.blk (is := [(.i2l, 1)]) (q := (41, [some (.ref 212), some (.ref 3), some (.int (nI e)), some (.ref (217 + 1 * e)), none, none, none], [.long ((nI A).toInt64)])) (by decide +kernel) rfl ?_
    dsimp only
    rw [show (nI A).toInt64 = lN A from nm_l (by omega)]
    refine am_Rq.blk (is := [(.lstore 4, 2), (.iconst 0, 1), (.istore 6, 2)]) (q := (46, [some (.ref 212), some (.ref 3), some (.int (nI e)), some (.ref (217 + 1 * e)), some (.long (lN A)), none, some (.int (nI 0))], [])) (by decide +kernel) rfl ?_
    dsimp only
    have hfT : am_fr (fun x => 212 ≤ x ∧ x < 217 ∨ 233 ≤ x ∧ x < 238 ∨ x = 217 + 1 * e) hp _ := (((hf1.mono (A' := fun x => 212 ≤ x ∧ x < 217 ∨ 233 ≤ x ∧ x < 238 ∨ x = 217 + 1 * e) (fun x q => by omega)).trans (hf2.mono (A' := fun x => 212 ≤ x ∧ x < 217 ∨ 233 ≤ x ∧ x < 238 ∨ x = 217 + 1 * e) (fun x q => by omega))).trans (hf3.mono (A' := fun x => 212 ≤ x ∧ x < 217 ∨ 233 ≤ x ∧ x < 238 ∨ x = 217 + 1 * e) (fun x q => by omega)))
    obtain ⟨hp0, hpe⟩ : ∃ x, x = hp := ⟨_, rfl⟩
    rw [← hpe] at hfT hro ⊢
    refine am_for (n := 4) (fun i lo hp => lo = [some (.ref 212), some (.ref 3), some (.int (nI e)), some (.ref (217 + 1 * e)), some (.long (lN (dv_L (sl_P t e) (sl_R t) A i))), none, some (.int (nI i))] ∧ hp[217 + 1 * e]? = some (100, am_ia (fun c => nI (if c < 5 then dv_D (sl_P t e) (sl_R t) A i c else 0)) 6) ∧ (∃ f : Nat → Int32, hp[214]? = some (100, am_ia f 8)) ∧ (∃ g : Nat → Int64, hp[215]? = some (101, am_la g 8)) ∧ (∃ f : Nat → Int32, hp[237]? = some (100, am_ia f 5)) ∧ hp[212]? = some (6, [.ref 213, .ref 216, .ref 233, .ref 234, .ref 235, .ref 236, .ref 237, .int (nI A)]) ∧ hp[213]? = some (5, [.ref 214, .ref 215]) ∧ hp[216]? = some (103, (am_ra 217 1 16)) ∧ hp[233]? = some (102, (am_ia (va_up (fun e => nI (dd e)) e (nI 1)) 16)) ∧ hp[234]? = some (100, (am_ia (fun c => nI (sl_P t e c)) 5)) ∧ hp[235]? = some (100, (am_ia (fun c => nI (sl_W t e c)) 5)) ∧ hp[236]? = some (101, (am_la (fun c => lN (sl_M t e c)) 5)) ∧ Led hp 3 t ∧ am_fr (fun x => 212 ≤ x ∧ x < 217 ∨ 233 ≤ x ∧ x < 238 ∨ x = 217 + 1 * e) hp0 hp) ?_ ?_ (i := 0) (by omega) ⟨rfl, hc3_2171e, ⟨_, hc3_214⟩, ⟨_, hc3_215⟩, ⟨_, hc3_237⟩, hc3_212, hc3_213, hc3_216, hc3_233, hP4, hW5, hM6, hL3x, hfT⟩
    · rintro i lo hp hi ⟨rfl, hDi, ⟨fa, hPb⟩, ⟨gb, hRb⟩, ⟨fc, hCb⟩, k0, k1, k2, k3, k4, k5, k6, hLb, hfb⟩ ih
      refine am_Rq.blk (is := [(.iload 6, 2), (.iconst 4, 1)]) (q := (49, [some (.ref 212), some (.ref 3), some (.int (nI e)), some (.ref (217 + 1 * e)), some (.long (lN (dv_L (sl_P t e) (sl_R t) A i))), none, some (.int (nI i))], [.int (nI 4), .int (nI i)])) (by decide +kernel) rfl ?_
      dsimp only
      refine am_Rq.if2F (show decode (am_by 66) 49 = .ok (.if_icmp .ge 21, 3) by decide +kernel) (by decide) (by rw [nm_ge (by omega) (by omega)]; exact decide_eq_false (by omega)) ?_
      refine am_Rq.blk (is := [(.aload_n 0, 1), (.aload_n 1, 1), (.iload 6, 2), (.lload 4, 2), (.aload_n 3, 1)]) (q := (59, [some (.ref 212), some (.ref 3), some (.int (nI e)), some (.ref (217 + 1 * e)), some (.long (lN (dv_L (sl_P t e) (sl_R t) A i))), none, some (.int (nI i))], [.ref (217 + 1 * e), .long (lN (dv_L (sl_P t e) (sl_R t) A i)), .int (nI i), .ref 3, .ref 212])) (by decide +kernel) rfl ?_
      dsimp only
      refine am_Rq.callV (show decode (am_by 66) 59 = .ok (.invokevirtual 92, 3) by decide +kernel) rfl [.ref 3, .int (nI i), .long (lN (dv_L (sl_P t e) (sl_R t) A i)), .ref (217 + 1 * e)] [] rfl rfl (Nat.le_of_ble_eq_true rfl) rfl k0 rfl (c_payRank (P := sl_P t e) (D := fun c => if c < 5 then dv_D (sl_P t e) (sl_R t) A i c else 0) (r := i) (Lf := dv_L (sl_P t e) (sl_R t) A i) k0 k1 hPb hRb hLb ok hK k4 (fun c hc => sl_P_le ok hc) hCb he hDi hi (Nat.le_trans (dv_L_le _ _ _ _) hA)) ?_
      rintro hp4 _ ⟨rfl, hDn, ⟨fa2, hPb2⟩, ⟨gb2, hRb2⟩, ⟨fc2, hCb2⟩, hf4⟩
      have hc4_212 := (hf4.2.2 (212) (fun q => by omega)).trans k0
      have hc4_213 := (hf4.2.2 (213) (fun q => by omega)).trans k1
      have hc4_216 := (hf4.2.2 (216) (fun q => by omega)).trans k2
      have hc4_233 := (hf4.2.2 (233) (fun q => by omega)).trans k3
      have hc4_234 := (hf4.2.2 (234) (fun q => by omega)).trans k4
      have hc4_235 := (hf4.2.2 (235) (fun q => by omega)).trans k5
      have hc4_236 := (hf4.2.2 (236) (fun q => by omega)).trans k6
      have hL4x := Led.kept hLb (fun a ha => hf4.2.2 a (fun q => by obtain ⟨_, _⟩ := ha; omega))
      have hDn2 : hp4[217 + 1 * e]? = some (100, am_ia (fun c => nI (if c < 5 then dv_D (sl_P t e) (sl_R t) A (i + 1) c else 0)) 6) := by
        rw [hDn, c_ia_congr (fun c _ => ?_)]
        by_cases h5 : c < 5
        · simp only [if_pos h5]
          rfl
        · simp only [if_neg h5]
      show am_Rq _ 66 62 [some (.ref 212), some (.ref 3), some (.int (nI e)), some (.ref (217 + 1 * e)), some (.long (lN (dv_L (sl_P t e) (sl_R t) A i))), none, some (.int (nI i))] [.long (lN (dv_L (sl_P t e) (sl_R t) A (i + 1)))] _ _
      refine am_Rq.blk (is := [(.lstore 4, 2), (.iinc 6 1, 3)]) (q := (67, [some (.ref 212), some (.ref 3), some (.int (nI e)), some (.ref (217 + 1 * e)), some (.long (lN (dv_L (sl_P t e) (sl_R t) A (i + 1)))), none, some (.int ((nI i) + (nI 1)))], [])) (by decide +kernel) rfl ?_
      dsimp only
      rw [show (nI i) + (nI 1) = nI (i + 1) from nI_add _ _]
      refine am_Rq.blk (is := [(.goto (-21), 3)]) (q := (46, [some (.ref 212), some (.ref 3), some (.int (nI e)), some (.ref (217 + 1 * e)), some (.long (lN (dv_L (sl_P t e) (sl_R t) A (i + 1)))), none, some (.int (nI (i + 1)))], [])) (by decide +kernel) rfl ?_
      dsimp only
      exact ih _ _ ⟨rfl, hDn2, ⟨_, hPb2⟩, ⟨_, hRb2⟩, ⟨_, hCb2⟩, hc4_212, hc4_213, hc4_216, hc4_233, hc4_234, hc4_235, hc4_236, hL4x, (hfb.trans (hf4.mono (A' := fun x => 212 ≤ x ∧ x < 217 ∨ 233 ≤ x ∧ x < 238 ∨ x = 217 + 1 * e) (fun x q => by omega)))⟩
    · rintro lo hp ⟨rfl, hDi, ⟨fa, hPb⟩, ⟨gb, hRb⟩, ⟨fc, hCb⟩, k0, k1, k2, k3, k4, k5, k6, hLb, hfb⟩
      refine am_Rq.blk (is := [(.iload 6, 2), (.iconst 4, 1)]) (q := (49, [some (.ref 212), some (.ref 3), some (.int (nI e)), some (.ref (217 + 1 * e)), some (.long (lN (dv_L (sl_P t e) (sl_R t) A 4))), none, some (.int (nI 4))], [.int (nI 4), .int (nI 4)])) (by decide +kernel) rfl ?_
      dsimp only
      refine am_Rq.if2T (t := 70) (show decode (am_by 66) 49 = .ok (.if_icmp .ge 21, 3) by decide +kernel) (by decide) (by rw [nm_ge (by omega) (by omega)]; exact decide_eq_true (by omega)) ?_
      refine am_Rq.blk (is := [(.aload_n 0, 1), (.lload 4, 2), (.aload_n 3, 1)]) (q := (74, [some (.ref 212), some (.ref 3), some (.int (nI e)), some (.ref (217 + 1 * e)), some (.long (lN (dv_L (sl_P t e) (sl_R t) A 4))), none, some (.int (nI 4))], [.ref (217 + 1 * e), .long (lN (dv_L (sl_P t e) (sl_R t) A 4)), .ref 212])) (by decide +kernel) rfl ?_
      dsimp only
      refine am_Rq.callV (show decode (am_by 66) 74 = .ok (.invokevirtual 96, 3) by decide +kernel) rfl [.long (lN (dv_L (sl_P t e) (sl_R t) A 4)), .ref (217 + 1 * e)] [] rfl rfl (Nat.le_of_ble_eq_true rfl) rfl k0 rfl (c_payMosts (W := sl_W t e) (M := sl_M t e) (D := fun c => if c < 5 then dv_D (sl_P t e) (sl_R t) A 4 c else 0) (Lf := dv_L (sl_P t e) (sl_R t) A 4) k0 k5 (fun c hc => sl_W_le ok hc) k6 (fun c hc => sl_M_le ok hc) (Nat.le_trans (dv_L_le _ _ _ _) hA) he hDi) ?_
      rintro hp5 _ ⟨rfl, hWm, hDm, hf5⟩
      have hc5_212 := (hf5.2.2 (212) (fun q => by omega)).trans k0
      have hc5_213 := (hf5.2.2 (213) (fun q => by omega)).trans k1
      have hc5_216 := (hf5.2.2 (216) (fun q => by omega)).trans k2
      have hc5_233 := (hf5.2.2 (233) (fun q => by omega)).trans k3
      have hc5_234 := (hf5.2.2 (234) (fun q => by omega)).trans k4
      have hc5_236 := (hf5.2.2 (236) (fun q => by omega)).trans k6
      have hc5_214 := (hf5.2.2 (214) (fun q => by omega)).trans hPb
      have hc5_215 := (hf5.2.2 (215) (fun q => by omega)).trans hRb
      have hc5_237 := (hf5.2.2 (237) (fun q => by omega)).trans hCb
      have hL5x := Led.kept hLb (fun a ha => hf5.2.2 a (fun q => by obtain ⟨_, _⟩ := ha; omega))
      show am_Rq _ 66 77 [some (.ref 212), some (.ref 3), some (.int (nI e)), some (.ref (217 + 1 * e)), some (.long (lN (dv_L (sl_P t e) (sl_R t) A 4))), none, some (.int (nI 4))] [.long (lN (dv_cp (sl_M t e) 5 (dv_L (sl_P t e) (sl_R t) A 4) (sl_W t e) (fun c => if c < 5 then dv_D (sl_P t e) (sl_R t) A 4 c else 0)).1)] _ _
      refine am_Rq.blk (is := [(.lstore 4, 2), (.aload_n 0, 1), (.lload 4, 2), (.aload_n 3, 1)]) (q := (83, [some (.ref 212), some (.ref 3), some (.int (nI e)), some (.ref (217 + 1 * e)), some (.long (lN (dv_cp (sl_M t e) 5 (dv_L (sl_P t e) (sl_R t) A 4) (sl_W t e) (fun c => if c < 5 then dv_D (sl_P t e) (sl_R t) A 4 c else 0)).1)), none, some (.int (nI 4))], [.ref (217 + 1 * e), .long (lN (dv_cp (sl_M t e) 5 (dv_L (sl_P t e) (sl_R t) A 4) (sl_W t e) (fun c => if c < 5 then dv_D (sl_P t e) (sl_R t) A 4 c else 0)).1), .ref 212])) (by decide +kernel) rfl ?_
      dsimp only
      obtain ⟨y1, y2, y3⟩ := dv_cp_congr (M := sl_M t e) 5 (dv_L (sl_P t e) (sl_R t) A 4) (sl_W t e) (fun c => if c < 5 then dv_D (sl_P t e) (sl_R t) A 4 c else 0) (dv_D (sl_P t e) (sl_R t) A 4)
      have hcs := dv_c_sum (sl_P t e) (sl_R t) (sl_W t e) (sl_M t e) A
      unfold dv_c at hcs
      rw [← y1] at hcs
      refine am_Rq.callV (show decode (am_by 66) 83 = .ok (.invokevirtual 100, 3) by decide +kernel) rfl [.long (lN (dv_cp (sl_M t e) 5 (dv_L (sl_P t e) (sl_R t) A 4) (sl_W t e) (fun c => if c < 5 then dv_D (sl_P t e) (sl_R t) A 4 c else 0)).1), .ref (217 + 1 * e)] [] rfl rfl (Nat.le_of_ble_eq_true rfl) rfl hc5_212 rfl (c_shareRest (W := (dv_cp (sl_M t e) 5 (dv_L (sl_P t e) (sl_R t) A 4) (sl_W t e) (fun c => if c < 5 then dv_D (sl_P t e) (sl_R t) A 4 c else 0)).2.1) (D := (dv_cp (sl_M t e) 5 (dv_L (sl_P t e) (sl_R t) A 4) (sl_W t e) (fun c => if c < 5 then dv_D (sl_P t e) (sl_R t) A 4 c else 0)).2.2) (Lf := (dv_cp (sl_M t e) 5 (dv_L (sl_P t e) (sl_R t) A 4) (sl_W t e) (fun c => if c < 5 then dv_D (sl_P t e) (sl_R t) A 4 c else 0)).1) hc5_212 hc5_213 hc5_214 hc5_215 hWm (fun c hc => Nat.le_trans (dv_cp_W _ _ _ _ _) (sl_W_le ok hc)) (by omega) he hDm) ?_
      rintro hp6 _ ⟨rfl, hDs, ⟨fa3, hPb3⟩, ⟨gb3, hRb3⟩, hf6⟩
      have hc6_212 := (hf6.2.2 (212) (fun q => by omega)).trans hc5_212
      have hc6_213 := (hf6.2.2 (213) (fun q => by omega)).trans hc5_213
      have hc6_216 := (hf6.2.2 (216) (fun q => by omega)).trans hc5_216
      have hc6_233 := (hf6.2.2 (233) (fun q => by omega)).trans hc5_233
      have hc6_234 := (hf6.2.2 (234) (fun q => by omega)).trans hc5_234
      have hc6_235 := (hf6.2.2 (235) (fun q => by omega)).trans hWm
      have hc6_236 := (hf6.2.2 (236) (fun q => by omega)).trans hc5_236
      have hc6_237 := (hf6.2.2 (237) (fun q => by omega)).trans hc5_237
      have hL6x := Led.kept hL5x (fun a ha => hf6.2.2 a (fun q => by obtain ⟨_, _⟩ := ha; omega))
      have hDe : hp6[217 + 1 * e]? = some (100, am_ia (fun c => nI (sl_dv t A e c)) 6) := by
        rw [hDs, c_ia_congr (fun c hc => ?_)]
        unfold sl_dv dv_out dv_c
        by_cases h5 : c < 5
        · rw [if_pos h5, if_pos h5, y3 c (by rw [if_pos h5]), y1, y2]
        · rw [if_neg h5, if_neg h5, dv_cp_out (by omega), if_neg h5, y1, y2]
      show am_Rq _ 66 86 [some (.ref 212), some (.ref 3), some (.int (nI e)), some (.ref (217 + 1 * e)), some (.long (lN (dv_cp (sl_M t e) 5 (dv_L (sl_P t e) (sl_R t) A 4) (sl_W t e) (fun c => if c < 5 then dv_D (sl_P t e) (sl_R t) A 4 c else 0)).1)), none, some (.int (nI 4))] [] _ _
      refine am_Rq.blk (is := [(.aload_n 3, 1)]) (q := (87, [some (.ref 212), some (.ref 3), some (.int (nI e)), some (.ref (217 + 1 * e)), some (.long (lN (dv_cp (sl_M t e) 5 (dv_L (sl_P t e) (sl_R t) A 4) (sl_W t e) (fun c => if c < 5 then dv_D (sl_P t e) (sl_R t) A 4 c else 0)).1)), none, some (.int (nI 4))], [.ref (217 + 1 * e)])) (by decide +kernel) rfl ?_
      dsimp only
      have hfE : am_fr (fun x => 212 ≤ x ∧ x < 217 ∨ 233 ≤ x ∧ x < 238 ∨ x = 217 + 1 * e) hp0 _ := ((hfb.trans (hf5.mono (A' := fun x => 212 ≤ x ∧ x < 217 ∨ 233 ≤ x ∧ x < 238 ∨ x = 217 + 1 * e) (fun x q => by omega))).trans (hf6.mono (A' := fun x => 212 ≤ x ∧ x < 217 ∨ 233 ≤ x ∧ x < 238 ∨ x = 217 + 1 * e) (fun x q => by omega)))
      refine am_Rq.ret (v := some (.ref (217 + 1 * e))) (show decode (am_by 66) 87 = .ok (.areturn, 1) by decide +kernel) rfl rfl ?_
      subst hpe
      refine ⟨_, rfl, rfl, ⟨hc6_212, hc6_213, ⟨_, hPb3⟩, ⟨_, hRb3⟩, hc6_216, ⟨_, hc6_234⟩, ⟨_, hc6_235⟩, ⟨_, hc6_236⟩, ⟨_, hc6_237⟩, va_up dd e 1, by rw [← c_upN]; exact hc6_233, fun q hq => ?_⟩, hDe, fun q hq hne => hfE.2.2 (217 + 1 * q) (fun z => by omega), hfE.mono (A' := fun x => 212 ≤ x ∧ x < 238) (fun x z => by omega)⟩
      by_cases ee : q = e
      · subst ee
        rw [va_up_self]
        exact ⟨by omega, _, hDe, Or.inr rfl⟩
      · obtain ⟨u1, u2, u3, u4⟩ := hro q hq
        rw [va_up_ne _ _ ee]
        exact ⟨u1, u2, (hfE.2.2 (217 + 1 * q) (fun z => by omega)).trans u3, u4⟩
  ·
    rw [nm_eq0 (by omega)] at hz0
    have hz0 := of_decide_eq_false hz0
    refine am_Rq.blk (is := [(.aload_n 3, 1)]) (q := (17, [some (.ref 212), some (.ref 3), some (.int (nI e)), some (.ref (217 + 1 * e)), none, none, none], [.ref (217 + 1 * e)])) (by decide +kernel) rfl ?_
    dsimp only
    refine am_Rq.ret (v := some (.ref (217 + 1 * e))) (show decode (am_by 66) 17 = .ok (.areturn, 1) by decide +kernel) rfl rfl ?_
    have hff : f0 = fun c => nI (sl_dv t A e c) := hdv.resolve_left (by omega)
    subst hff
    exact ⟨_, rfl, rfl, ⟨hO, hSh, ⟨_, hPa⟩, ⟨_, hRe⟩, h16, ⟨_, h4⟩, ⟨_, h5⟩, ⟨_, h6⟩, ⟨_, h7⟩, dd, hdd, hro⟩, hD, fun _ _ _ => rfl, am_fr.rf⟩
end C16
