/-! The reference: conversion, undo (rows by prog/m6.py). -/
section M6
variable {d : Nat} {hp : am_H}
theorem m_conversion {th kn co : Nat} (hM : hp[238]? = some (7, [.int (nI th), .ref 239, .ref 240, .int (nI kn), .ref 241, .ref 242, .ref 243, .ref 244, .long (lN co), .ref 245])) {s : Nat → Nat} (hS : hp[239]? = some (100, am_ia (fun i => nI (s i)) 160)) {c : Nat} (h1 : 1 ≤ c) (hc : c ≤ s 0) (hc5 : c < 5) (h0 : s 0 < 2 ^ 31) : am_Rq (d + 2) 118 0 (am_en [.ref 238, .int (nI c)] 2) [] hp (am_Ret fun hp1 v => hp1 = hp.set 238 (7, m_ob 0 kn co) ∧ v = some (.int (nI (s (1 + 8 * (c - 1) + 6))))) := by
  show am_Rq _ 118 0 [some (.ref 238), some (.int (nI c))] [] _ _
  refine am_Rq.blk (is := [(.aload_n 0, 1), (.aload_n 0, 1), (.iload_n 1, 1)]) (q := (3, [some (.ref 238), some (.int (nI c))], [.int (nI c), .ref 238, .ref 238])) (by decide +kernel) rfl ?_
  dsimp only
  refine am_Rq.callV (show decode (am_by 118) 3 = .ok (.invokevirtual 64, 3) by decide +kernel) rfl [.int (nI c)] [.ref 238] rfl rfl (Nat.le_of_ble_eq_true rfl) rfl hM rfl (m_isClass hM hS (nI c)) ?_
  rintro hq _ ⟨e1, rfl⟩
  rw [e1]
  clear e1 hq
  show am_Rq _ 118 6 [some (.ref 238), some (.int (nI c))] [.int (nI (am_b (rg_r (nI 0) (nI (s 0)) (nI c)))), .ref 238] _ _
  refine am_Rq.if1F (show decode (am_by 118) 6 = .ok (.ifCond .eq 7, 3) by decide +kernel) (by decide) (by rw [am_b_eq, rg_le (by omega) hc h0]; rfl) ?_
  refine am_Rq.blk (is := [(.iload_n 1, 1)]) (q := (10, [some (.ref 238), some (.int (nI c))], [.int (nI c), .ref 238])) (by decide +kernel) rfl ?_
  dsimp only
  refine am_Rq.if1T (t := 17) (show decode (am_by 118) 10 = .ok (.ifCond .ne 7, 3) by decide +kernel) (by decide) (by rw [nm_ne0 (by omega)]; exact decide_eq_true (by omega)) ?_
  refine am_Rq.blk (is := [(.iconst 0, 1), (.iconst 0, 1), (.iconst 0, 1)]) (q := (20, [some (.ref 238), some (.int (nI c))], [.int (nI 0), .int (nI 0), .int (nI 0), .ref 238])) (by decide +kernel) rfl ?_
  dsimp only
  refine am_Rq.callV (show decode (am_by 118) 20 = .ok (.invokevirtual 57, 3) by decide +kernel) rfl [.int (nI (am_b false)), .int (nI (am_b false)), .int (nI (am_b false))] [] rfl rfl (Nat.le_of_ble_eq_true rfl) rfl hM rfl (m_refused hM false false false) ?_
  rintro _ _ ⟨rfl, rfl⟩
  have hM1 := am_ss (c' := (7, m_ob 0 kn co)) hM
  have hS1 := (am_sn (c' := (7, m_ob 0 kn co)) (show 238 ≠ 239 by decide)).trans hS
  show am_Rq _ 118 23 [some (.ref 238), some (.int (nI c))] [.int (nI (am_b false))] _ _
  refine am_Rq.if1T (t := 30) (show decode (am_by 118) 23 = .ok (.ifCond .eq 7, 3) by decide +kernel) (by decide) (rfl) ?_
  refine am_Rq.blk (is := [(.aload_n 0, 1), (.iload_n 1, 1), (.bipush 6, 2)]) (q := (34, [some (.ref 238), some (.int (nI c))], [.int (nI 6), .int (nI c), .ref 238])) (by decide +kernel) rfl ?_
  dsimp only
  refine am_Rq.callV (show decode (am_by 118) 34 = .ok (.invokevirtual 45, 3) by decide +kernel) rfl [.int (nI c), .int (nI 6)] [] rfl rfl (Nat.le_of_ble_eq_true rfl) rfl hM1 rfl (m_of hM1 hS1 h1 hc5 (by omega)) ?_
  rintro hq _ ⟨e1, rfl⟩
  rw [e1]
  clear e1 hq
  show am_Rq _ 118 37 [some (.ref 238), some (.int (nI c))] [.int (nI (s (1 + 8 * (c - 1) + 6)))] _ _
  refine am_Rq.ret (v := some (.int (nI (s (1 + 8 * (c - 1) + 6))))) (show decode (am_by 118) 37 = .ok (.ireturn, 1) by decide +kernel) rfl rfl ?_
  exact ⟨_, rfl, rfl, rfl⟩
theorem m_conversion_no1 {th kn co : Nat} (hM : hp[238]? = some (7, [.int (nI th), .ref 239, .ref 240, .int (nI kn), .ref 241, .ref 242, .ref 243, .ref 244, .long (lN co), .ref 245])) {s : Nat → Nat} (hS : hp[239]? = some (100, am_ia (fun i => nI (s i)) 160)) {x : Int32} (hx : rg_r (nI 0) (nI (s 0)) x = false) : am_Rq (d + 2) 118 0 (am_en [.ref 238, .int x] 2) [] hp (am_Ret fun hp1 v => hp1 = hp.set 238 (7, m_ob 1 kn co) ∧ v = some (.int (nI (0)))) := by
  show am_Rq _ 118 0 [some (.ref 238), some (.int x)] [] _ _
  refine am_Rq.blk (is := [(.aload_n 0, 1), (.aload_n 0, 1), (.iload_n 1, 1)]) (q := (3, [some (.ref 238), some (.int x)], [.int x, .ref 238, .ref 238])) (by decide +kernel) rfl ?_
  dsimp only
  refine am_Rq.callV (show decode (am_by 118) 3 = .ok (.invokevirtual 64, 3) by decide +kernel) rfl [.int x] [.ref 238] rfl rfl (Nat.le_of_ble_eq_true rfl) rfl hM rfl (m_isClass hM hS (x)) ?_
  rintro hq _ ⟨e1, rfl⟩
  rw [e1]
  clear e1 hq
  show am_Rq _ 118 6 [some (.ref 238), some (.int x)] [.int (nI (am_b (rg_r (nI 0) (nI (s 0)) (x)))), .ref 238] _ _
  refine am_Rq.if1T (t := 13) (show decode (am_by 118) 6 = .ok (.ifCond .eq 7, 3) by decide +kernel) (by decide) (by rw [am_b_eq, hx]; rfl) ?_
  refine am_Rq.blk (is := [(.iconst 1, 1), (.goto 4, 3)]) (q := (18, [some (.ref 238), some (.int x)], [.int (nI 1), .ref 238])) (by decide +kernel) rfl ?_
  dsimp only
  refine am_Rq.blk (is := [(.iconst 0, 1), (.iconst 0, 1)]) (q := (20, [some (.ref 238), some (.int x)], [.int (nI 0), .int (nI 0), .int (nI 1), .ref 238])) (by decide +kernel) rfl ?_
  dsimp only
  refine am_Rq.callV (show decode (am_by 118) 20 = .ok (.invokevirtual 57, 3) by decide +kernel) rfl [.int (nI (am_b true)), .int (nI (am_b false)), .int (nI (am_b false))] [] rfl rfl (Nat.le_of_ble_eq_true rfl) rfl hM rfl (m_refused hM true false false) ?_
  rintro _ _ ⟨rfl, rfl⟩
  have hM1 := am_ss (c' := (7, m_ob 1 kn co)) hM
  have hS1 := (am_sn (c' := (7, m_ob 1 kn co)) (show 238 ≠ 239 by decide)).trans hS
  show am_Rq _ 118 23 [some (.ref 238), some (.int x)] [.int (nI (am_b true))] _ _
  refine am_Rq.if1F (show decode (am_by 118) 23 = .ok (.ifCond .eq 7, 3) by decide +kernel) (by decide) (rfl) ?_
  refine am_Rq.blk (is := [(.iconst 0, 1), (.goto 10, 3)]) (q := (37, [some (.ref 238), some (.int x)], [.int (nI 0)])) (by decide +kernel) rfl ?_
  dsimp only
  refine am_Rq.ret (v := some (.int (nI 0))) (show decode (am_by 118) 37 = .ok (.ireturn, 1) by decide +kernel) rfl rfl ?_
  exact ⟨_, rfl, rfl, rfl⟩
theorem m_conversion_no2 {th kn co : Nat} (hM : hp[238]? = some (7, [.int (nI th), .ref 239, .ref 240, .int (nI kn), .ref 241, .ref 242, .ref 243, .ref 244, .long (lN co), .ref 245])) {s : Nat → Nat} (hS : hp[239]? = some (100, am_ia (fun i => nI (s i)) 160)) (h0 : s 0 < 2 ^ 31) : am_Rq (d + 2) 118 0 (am_en [.ref 238, .int (nI 0)] 2) [] hp (am_Ret fun hp1 v => hp1 = hp.set 238 (7, m_ob 1 kn co) ∧ v = some (.int (nI (0)))) := by
  show am_Rq _ 118 0 [some (.ref 238), some (.int (nI 0))] [] _ _
  refine am_Rq.blk (is := [(.aload_n 0, 1), (.aload_n 0, 1), (.iload_n 1, 1)]) (q := (3, [some (.ref 238), some (.int (nI 0))], [.int (nI 0), .ref 238, .ref 238])) (by decide +kernel) rfl ?_
  dsimp only
  refine am_Rq.callV (show decode (am_by 118) 3 = .ok (.invokevirtual 64, 3) by decide +kernel) rfl [.int (nI 0)] [.ref 238] rfl rfl (Nat.le_of_ble_eq_true rfl) rfl hM rfl (m_isClass hM hS (nI 0)) ?_
  rintro hq _ ⟨e1, rfl⟩
  rw [e1]
  clear e1 hq
  show am_Rq _ 118 6 [some (.ref 238), some (.int (nI 0))] [.int (nI (am_b (rg_r (nI 0) (nI (s 0)) (nI 0)))), .ref 238] _ _
  refine am_Rq.if1F (show decode (am_by 118) 6 = .ok (.ifCond .eq 7, 3) by decide +kernel) (by decide) (by rw [am_b_eq, rg_le (by omega) (show 0 ≤ s 0 by omega) h0]; rfl) ?_
  refine am_Rq.blk (is := [(.iload_n 1, 1)]) (q := (10, [some (.ref 238), some (.int (nI 0))], [.int (nI 0), .ref 238])) (by decide +kernel) rfl ?_
  dsimp only
  refine am_Rq.if1F (show decode (am_by 118) 10 = .ok (.ifCond .ne 7, 3) by decide +kernel) (by decide) (rfl) ?_
  refine am_Rq.blk (is := [(.iconst 1, 1), (.goto 4, 3)]) (q := (18, [some (.ref 238), some (.int (nI 0))], [.int (nI 1), .ref 238])) (by decide +kernel) rfl ?_
  dsimp only
  refine am_Rq.blk (is := [(.iconst 0, 1), (.iconst 0, 1)]) (q := (20, [some (.ref 238), some (.int (nI 0))], [.int (nI 0), .int (nI 0), .int (nI 1), .ref 238])) (by decide +kernel) rfl ?_
  dsimp only
  refine am_Rq.callV (show decode (am_by 118) 20 = .ok (.invokevirtual 57, 3) by decide +kernel) rfl [.int (nI (am_b true)), .int (nI (am_b false)), .int (nI (am_b false))] [] rfl rfl (Nat.le_of_ble_eq_true rfl) rfl hM rfl (m_refused hM true false false) ?_
  rintro _ _ ⟨rfl, rfl⟩
  have hM1 := am_ss (c' := (7, m_ob 1 kn co)) hM
  have hS1 := (am_sn (c' := (7, m_ob 1 kn co)) (show 238 ≠ 239 by decide)).trans hS
  show am_Rq _ 118 23 [some (.ref 238), some (.int (nI 0))] [.int (nI (am_b true))] _ _
  refine am_Rq.if1F (show decode (am_by 118) 23 = .ok (.ifCond .eq 7, 3) by decide +kernel) (by decide) (rfl) ?_
  refine am_Rq.blk (is := [(.iconst 0, 1), (.goto 10, 3)]) (q := (37, [some (.ref 238), some (.int (nI 0))], [.int (nI 0)])) (by decide +kernel) rfl ?_
  dsimp only
  refine am_Rq.ret (v := some (.int (nI 0))) (show decode (am_by 118) 37 = .ok (.ireturn, 1) by decide +kernel) rfl rfl ?_
  exact ⟨_, rfl, rfl, rfl⟩
theorem m_undo_no {th kn co : Nat} (hM : hp[238]? = some (7, [.int (nI th), .ref 239, .ref 240, .int (nI kn), .ref 241, .ref 242, .ref 243, .ref 244, .long (lN co), .ref 245])) {s : Nat → Nat} (hS : hp[239]? = some (100, am_ia (fun i => nI (s i)) 160)) (h0 : kn = 0) : am_Rq (d + 2) 136 0 (am_en [.ref 238] 2) [] hp (am_Ret fun hp1 v => hp1 = hp.set 238 (7, m_ob 1 kn co) ∧ v = some (.int (nI (0)))) := by
  show am_Rq _ 136 0 [some (.ref 238), none] [] _ _
  subst h0
  refine am_Rq.blk (is := [(.aload_n 0, 1), (.aload_n 0, 1)]) (q := (2, [some (.ref 238), none], [.ref 238, .ref 238])) (by decide +kernel) rfl ?_
  dsimp only
  refine am_Rq.getf (v := .int (nI 0)) (show decode (am_by 136) 2 = .ok (.getfield 32, 3) by decide +kernel) rfl hM rfl ?_
  refine am_Rq.if1F (show decode (am_by 136) 5 = .ok (.ifCond .ne 7, 3) by decide +kernel) (by decide) (rfl) ?_
  refine am_Rq.blk (is := [(.iconst 1, 1), (.goto 4, 3)]) (q := (13, [some (.ref 238), none], [.int (nI 1), .ref 238])) (by decide +kernel) rfl ?_
  dsimp only
  refine am_Rq.blk (is := [(.iconst 0, 1), (.iconst 0, 1)]) (q := (15, [some (.ref 238), none], [.int (nI 0), .int (nI 0), .int (nI 1), .ref 238])) (by decide +kernel) rfl ?_
  dsimp only
  refine am_Rq.callV (show decode (am_by 136) 15 = .ok (.invokevirtual 57, 3) by decide +kernel) rfl [.int (nI (am_b true)), .int (nI (am_b false)), .int (nI (am_b false))] [] rfl rfl (Nat.le_of_ble_eq_true rfl) rfl hM rfl (m_refused hM true false false) ?_
  rintro _ _ ⟨rfl, rfl⟩
  have hM1 := am_ss (c' := (7, m_ob 1 0 co)) hM
  have hS1 := (am_sn (c' := (7, m_ob 1 0 co)) (show 238 ≠ 239 by decide)).trans hS
  show am_Rq _ 136 18 [some (.ref 238), none] [.int (nI (am_b true))] _ _
  refine am_Rq.if1F (show decode (am_by 136) 18 = .ok (.ifCond .eq 5, 3) by decide +kernel) (by decide) (rfl) ?_
  refine am_Rq.blk (is := [(.iconst 0, 1)]) (q := (22, [some (.ref 238), none], [.int (nI 0)])) (by decide +kernel) rfl ?_
  dsimp only
  refine am_Rq.ret (v := some (.int (nI 0))) (show decode (am_by 136) 22 = .ok (.ireturn, 1) by decide +kernel) rfl rfl ?_
  exact ⟨_, rfl, rfl, rfl⟩
theorem m_undo {th kn co : Nat} (hM : hp[238]? = some (7, [.int (nI th), .ref 239, .ref 240, .int (nI kn), .ref 241, .ref 242, .ref 243, .ref 244, .long (lN co), .ref 245])) {s : Nat → Nat} (hS : hp[239]? = some (100, am_ia (fun i => nI (s i)) 160)) {f : Nat → Int32} (hF : hp[240]? = some (100, am_ia f 1280)) (hk1 : 1 ≤ kn) (hkn : kn ≤ 8)  : am_Rq (d + 1) 136 0 (am_en [.ref 238] 2) [] hp (am_Ret fun hp1 v => v = some (.int (nI (kn - 1))) ∧ hp1[238]? = some (7, m_ob 0 (kn - 1) co) ∧ (∃ f1 : Nat → Int32, hp1[239]? = some (100, am_ia f1 160) ∧ ∀ k, k < 160 → f1 k = f (160 * (kn - 1) + k)) ∧ hp1[240]? = some (100, am_ia f 1280) ∧ am_fr (fun x => 238 ≤ x ∧ x < 241) hp hp1) := by
  show am_Rq _ 136 0 [some (.ref 238), none] [] _ _
  refine am_Rq.blk (is := [(.aload_n 0, 1), (.aload_n 0, 1)]) (q := (2, [some (.ref 238), none], [.ref 238, .ref 238])) (by decide +kernel) rfl ?_
  dsimp only
  refine am_Rq.getf (v := .int (nI kn)) (show decode (am_by 136) 2 = .ok (.getfield 32, 3) by decide +kernel) rfl hM rfl ?_
  refine am_Rq.if1T (t := 12) (show decode (am_by 136) 5 = .ok (.ifCond .ne 7, 3) by decide +kernel) (by decide) (by rw [nm_ne0 (by omega)]; exact decide_eq_true (by omega)) ?_
  refine am_Rq.blk (is := [(.iconst 0, 1), (.iconst 0, 1), (.iconst 0, 1)]) (q := (15, [some (.ref 238), none], [.int (nI 0), .int (nI 0), .int (nI 0), .ref 238])) (by decide +kernel) rfl ?_
  dsimp only
  refine am_Rq.callV (show decode (am_by 136) 15 = .ok (.invokevirtual 57, 3) by decide +kernel) rfl [.int (nI (am_b false)), .int (nI (am_b false)), .int (nI (am_b false))] [] rfl rfl (Nat.le_of_ble_eq_true rfl) rfl hM rfl (m_refused hM false false false) ?_
  rintro _ _ ⟨rfl, rfl⟩
  have hM1 := am_ss (c' := (7, m_ob 0 kn co)) hM
  have hS1 := (am_sn (c' := (7, m_ob 0 kn co)) (show 238 ≠ 239 by decide)).trans hS
  show am_Rq _ 136 18 [some (.ref 238), none] [.int (nI (am_b false))] _ _
  refine am_Rq.if1T (t := 23) (show decode (am_by 136) 18 = .ok (.ifCond .eq 5, 3) by decide +kernel) (by decide) (rfl) ?_
  have hF1 := (am_sn (c' := (7, m_ob 0 kn co)) (show 238 ≠ 240 by decide)).trans hF
  refine am_Rq.blk (is := [(.aload_n 0, 1), (.dup, 1)]) (q := (25, [some (.ref 238), none], [.ref 238, .ref 238])) (by decide +kernel) rfl ?_
  dsimp only
  refine am_Rq.getf (v := .int (nI kn)) (show decode (am_by 136) 25 = .ok (.getfield 32, 3) by decide +kernel) rfl hM1 rfl ?_
  refine am_Rq.blk (is := [(.iconst 1, 1), (.isub, 1)]) (q := (30, [some (.ref 238), none], [.int ((nI kn) - (nI 1)), .ref 238])) (by decide +kernel) rfl ?_
  dsimp only
  rw [show (nI kn) - (nI 1) = nI (kn - 1) from nm_isub (by omega)]
  refine am_Rq.putf (show decode (am_by 136) 30 = .ok (.putfield 32, 3) by decide +kernel) rfl hM1 (Nat.le_of_ble_eq_true rfl) rfl (Or.inl rfl) (by omega) ?_
  have hc1_238 := am_ss (c' := (7, [.int (nI 0), .ref 239, .ref 240, .int (nI (kn - 1)), .ref 241, .ref 242, .ref 243, .ref 244, .long (lN co), .ref 245])) hM1
  have hc1_239 := (am_sn (c' := (7, [.int (nI 0), .ref 239, .ref 240, .int (nI (kn - 1)), .ref 241, .ref 242, .ref 243, .ref 244, .long (lN co), .ref 245])) (show 238 ≠ 239 by omega)).trans hS1
  have hc1_240 := (am_sn (c' := (7, [.int (nI 0), .ref 239, .ref 240, .int (nI (kn - 1)), .ref 241, .ref 242, .ref 243, .ref 244, .long (lN co), .ref 245])) (show 238 ≠ 240 by omega)).trans hF1
  have hf1 := (am_fr.rf (A := fun q => q = 238)).set (c' := (7, [.int (nI 0), .ref 239, .ref 240, .int (nI (kn - 1)), .ref 241, .ref 242, .ref 243, .ref 244, .long (lN co), .ref 245])) rfl hM1 rfl
  refine am_Rq.blk (is := [(.iconst 0, 1), (.istore_n 1, 1)]) (q := (35, [some (.ref 238), some (.int (nI 0))], [])) (by decide +kernel) rfl ?_
  dsimp only
  have hfr : am_fr (fun x => 238 ≤ x ∧ x < 241) hp _ := ((am_fr.rf (A := fun x => 238 ≤ x ∧ x < 241)).set (c' := (7, m_ob 0 kn co)) ⟨by decide, by decide⟩ hM rfl).trans (hf1.mono (A' := fun x => 238 ≤ x ∧ x < 241) (fun x q => by subst q; exact ⟨by decide, by decide⟩))
  refine am_for (n := 160) (fun i lo hq => lo = [some (.ref 238), some (.int (nI i))] ∧ (∃ f1 : Nat → Int32, hq[239]? = some (100, am_ia f1 160) ∧ ∀ k, k < i → f1 k = f (160 * (kn - 1) + k)) ∧ hq[238]? = some (7, [.int (nI 0), .ref 239, .ref 240, .int (nI (kn - 1)), .ref 241, .ref 242, .ref 243, .ref 244, .long (lN co), .ref 245]) ∧ hq[240]? = some (100, am_ia f 1280) ∧ am_fr (fun x => 238 ≤ x ∧ x < 241) hp hq) ?_ ?_ (i := 0) (by omega) ⟨rfl, ⟨_, hc1_239, fun k hk => by omega⟩, hc1_238, hc1_240, hfr⟩
  · rintro i lo hq hi ⟨rfl, ⟨f1, hS9, hx⟩, hM9, hF9, hf9⟩ ih
    refine am_Rq.blk (is := [(.iload_n 1, 1), (.sipush 160, 3)]) (q := (39, [some (.ref 238), some (.int (nI i))], [.int (nI 160), .int (nI i)])) (by decide +kernel) rfl ?_
    dsimp only
    refine am_Rq.if2F (show decode (am_by 136) 39 = .ok (.if_icmp .ge 30, 3) by decide +kernel) (by decide) (by rw [nm_ge (by omega) (by omega)]; exact decide_eq_false (by omega)) ?_
    refine am_Rq.blk (is := [(.aload_n 0, 1)]) (q := (43, [some (.ref 238), some (.int (nI i))], [.ref 238])) (by decide +kernel) rfl ?_
    dsimp only
    refine am_Rq.getf (v := .ref 239) (show decode (am_by 136) 43 = .ok (.getfield 7, 3) by decide +kernel) rfl hM9 rfl ?_
    refine am_Rq.blk (is := [(.iload_n 1, 1), (.aload_n 0, 1)]) (q := (48, [some (.ref 238), some (.int (nI i))], [.ref 238, .int (nI i), .ref 239])) (by decide +kernel) rfl ?_
    dsimp only
    refine am_Rq.getf (v := .ref 240) (show decode (am_by 136) 48 = .ok (.getfield 13, 3) by decide +kernel) rfl hM9 rfl ?_
    refine am_Rq.blk (is := [(.sipush 160, 3), (.aload_n 0, 1)]) (q := (55, [some (.ref 238), some (.int (nI i))], [.ref 238, .int (nI 160), .ref 240, .int (nI i), .ref 239])) (by decide +kernel) rfl ?_
    dsimp only
    refine am_Rq.getf (v := .int (nI (kn - 1))) (show decode (am_by 136) 55 = .ok (.getfield 32, 3) by decide +kernel) rfl hM9 rfl ?_
    refine am_Rq.blk (is := [(.imul, 1)]) (q := (59, [some (.ref 238), some (.int (nI i))], [.int ((nI 160) * (nI (kn - 1))), .ref 240, .int (nI i), .ref 239])) (by decide +kernel) rfl ?_
    dsimp only
    rw [show (nI 160) * (nI (kn - 1)) = nI (160 * (kn - 1)) from nm_imul _ _]
    refine am_Rq.blk (is := [(.iload_n 1, 1), (.iadd, 1)]) (q := (61, [some (.ref 238), some (.int (nI i))], [.int ((nI (160 * (kn - 1))) + (nI i)), .ref 240, .int (nI i), .ref 239])) (by decide +kernel) rfl ?_
    dsimp only
    rw [show (nI (160 * (kn - 1))) + (nI i) = nI ((160 * (kn - 1)) + i) from nI_add _ _]
    refine am_Rq.ial (k := (160 * (kn - 1)) + i) (show decode (am_by 136) 61 = .ok (.iaload, 1) by decide +kernel) hF9 (by omega) (by omega) ?_
    refine am_Rq.ias (k := i) (x := f ((160 * (kn - 1)) + i)) (show decode (am_by 136) 62 = .ok (.iastore, 1) by decide +kernel) hS9 (by omega) (by omega) (by omega) ?_
    refine am_Rq.blk (is := [(.iinc 1 1, 3)]) (q := (66, [some (.ref 238), some (.int ((nI i) + (nI 1)))], [])) (by decide +kernel) rfl ?_
    dsimp only
    rw [show (nI i) + (nI 1) = nI (i + 1) from nI_add _ _]
    refine am_Rq.blk (is := [(.goto (-31), 3)]) (q := (35, [some (.ref 238), some (.int (nI (i + 1)))], [])) (by decide +kernel) rfl ?_
    dsimp only
    refine ih _ _ ⟨rfl, ⟨_, (am_ss hS9), fun k hk => ?_⟩, ((am_sn (by decide)).trans hM9), ((am_sn (by decide)).trans hF9), hf9.set ⟨by decide, by decide⟩ hS9 (by simp [am_ia_len])⟩
    by_cases e : k = i
    · rw [e, va_up_self]
    · rw [va_up_ne _ _ e]; exact hx k (by omega)
  · rintro lo hq ⟨rfl, ⟨f1, hS9, hx⟩, hM9, hF9, hf9⟩
    refine am_Rq.blk (is := [(.iload_n 1, 1), (.sipush 160, 3)]) (q := (39, [some (.ref 238), some (.int (nI 160))], [.int (nI 160), .int (nI 160)])) (by decide +kernel) rfl ?_
    dsimp only
    refine am_Rq.if2T (t := 69) (show decode (am_by 136) 39 = .ok (.if_icmp .ge 30, 3) by decide +kernel) (by decide) (by rw [nm_ge (by omega) (by omega)]; exact decide_eq_true (by omega)) ?_
    refine am_Rq.blk (is := [(.aload_n 0, 1)]) (q := (70, [some (.ref 238), some (.int (nI 160))], [.ref 238])) (by decide +kernel) rfl ?_
    dsimp only
    refine am_Rq.getf (v := .int (nI (kn - 1))) (show decode (am_by 136) 70 = .ok (.getfield 32, 3) by decide +kernel) rfl hM9 rfl ?_
    refine am_Rq.ret (v := some (.int (nI (kn - 1)))) (show decode (am_by 136) 73 = .ok (.ireturn, 1) by decide +kernel) rfl rfl ?_
    exact ⟨_, rfl, rfl, hM9, ⟨f1, hS9, hx⟩, hF9, hf9⟩
end M6
