/-! The reference's sale: what it asks of its row (rows by prog/m15.py). -/
theorem mt_s0 {K : Nat} {s : Nat → Nat} (ok : c_ok K (mt s)) : s 0 ≤ 4 := by
  have := ok.2.2.2.2.2.2.1
  rw [mt_n] at this
  omega
theorem mt_bd {K : Nat} {s : Nat → Nat} (ok : c_ok K (mt s)) : m_bd s := by
  refine ⟨mt_s0 ok, fun c hc => ?_, fun c h1 hc => ?_⟩
  · rw [← mt_i hc]
    exact (ok.1 c hc).2.2.2.2.2.2.2.2.2.1
  · have h4 := mt_s0 ok
    obtain ⟨a0, a1, a2, a3, a4, a5, a6, a7, a8, -⟩ := ok.1 c (by omega)
    rw [← mt_f h1 hc (by omega) (show 0 < 7 by omega), ← mt_f h1 hc (by omega) (show 6 < 7 by omega)]
    have e : mt s (8 * c + 0) = mt s (8 * c) := rfl
    omega
theorem mt_ic {K : Nat} {s : Nat → Nat} (ok : c_ok K (mt s)) {c : Nat} (hc : c ≤ s 0) : m_cv s c (m_iss s c) = c_ic (mt s) c := by
  have h4 := mt_s0 ok
  unfold m_cv c_ic
  by_cases h : c = 0
  · subst h
    rw [if_pos rfl, show mt s (8 * 0) = 1 from mt_d (s := s) (c := 0) (k := 0) (Or.inl rfl) (by omega) (by omega), show mt s (8 * 0 + 6) = 1000 from mt_d (s := s) (c := 0) (k := 6) (Or.inl rfl) (by omega) (by omega), mt_i (by omega)]
    omega
  · rw [if_neg h, ← mt_i (by omega), ← mt_f (by omega) hc (by omega) (show 6 < 7 by omega), ← mt_f (by omega) hc (by omega) (show 0 < 7 by omega)]
    rfl
section M15
variable {d : Nat} {hp : am_H}
theorem m_issT {th kn co : Nat} (hM : hp[238]? = some (7, [.int (nI th), .ref 239, .ref 240, .int (nI kn), .ref 241, .ref 242, .ref 243, .ref 244, .long (lN co), .ref 245])) {s : Nat → Nat} (hS : hp[239]? = some (100, am_ia (fun i => nI (s i)) 160)) {c : Nat} (hc : c < 5) : am_Rq d 98 0 (am_en [.ref 238, .int (nI c)] 4) [] hp (am_Ret fun hp1 v => hp1 = hp ∧ v = some (.int (nI (mt s (8 * c + 7))))) := by
  rw [mt_i hc]
  exact m_issued hM hS hc
theorem m_ofT {th kn co : Nat} (hM : hp[238]? = some (7, [.int (nI th), .ref 239, .ref 240, .int (nI kn), .ref 241, .ref 242, .ref 243, .ref 244, .long (lN co), .ref 245])) {s : Nat → Nat} (hS : hp[239]? = some (100, am_ia (fun i => nI (s i)) 160)) {c k : Nat} (h1 : 1 ≤ c) (hc : c ≤ s 0) (h5 : c < 5) (hk : k < 7) : am_Rq d 101 0 (am_en [.ref 238, .int (nI c), .int (nI k)] 3) [] hp (am_Ret fun hp1 v => hp1 = hp ∧ v = some (.int (nI (mt s (8 * c + k))))) := by
  rw [mt_f h1 hc h5 hk]
  exact m_of hM hS h1 h5 (by omega)
theorem m_convT {th kn co : Nat} (hM : hp[238]? = some (7, [.int (nI th), .ref 239, .ref 240, .int (nI kn), .ref 241, .ref 242, .ref 243, .ref 244, .long (lN co), .ref 245])) {s : Nat → Nat} (hS : hp[239]? = some (100, am_ia (fun i => nI (s i)) 160)) {K : Nat} (ok : c_ok K (mt s)) (hK : K ≤ 900) {c : Nat} (hc : c ≤ s 0) : am_Rq (d + 1) 100 0 (am_en [.ref 238, .int (nI c), .int (nI (mt s (8 * c + 7)))] 3) [] hp (am_Ret fun hp1 v => hp1 = hp ∧ v = some (.long (lN (c_ic (mt s) c)))) := by
  have h4 := mt_s0 ok
  rw [← mt_ic ok hc, mt_i (by omega)]
  exact m_convC hM hS (mt_bd ok) hc ((mt_bd ok).2.1 c (by omega))
theorem m_isIn {e c : Nat} (he : e < 16) (hc : c < 5) : am_Rq d 128 0 (am_en [.int (nI e), .int (nI c)] 2) [] hp (am_Ret fun hp1 v => hp1 = hp ∧ v = some (.int (nI (am_b (decide (1 ≤ c) && Nat.testBit e (c - 1)))))) := by
  show am_Rq _ 128 0 [some (.int (nI e)), some (.int (nI c))] [] _ _
  refine am_Rq.blk (is := [(.iload_n 1, 1)]) (q := (1, [some (.int (nI e)), some (.int (nI c))], [.int (nI c)])) (by decide +kernel) rfl ?_
  dsimp only
  refine am_Rq.if1 (t := 19) (show decode (am_by 128) 1 = .ok (.ifCond .le 18, 3) by decide +kernel) (by decide) (fun h0 => ?_) (fun h0 => ?_)
  ·
    rw [nm_le0 (by omega)] at h0
    have h0 := of_decide_eq_true h0
    refine am_Rq.blk (is := [(.iconst 0, 1)]) (q := (20, [some (.int (nI e)), some (.int (nI c))], [.int (nI 0)])) (by decide +kernel) rfl ?_
    dsimp only
    refine am_Rq.ret (v := some (.int (nI 0))) (show decode (am_by 128) 20 = .ok (.ireturn, 1) by decide +kernel) rfl rfl ?_
    exact ⟨_, rfl, rfl, by rw [decide_eq_false (by omega)]; rfl⟩
  ·
    rw [nm_le0 (by omega)] at h0
    have h0 := of_decide_eq_false h0
    refine am_Rq.blk (is := [(.iload_n 0, 1), (.iload_n 1, 1), (.iconst 1, 1), (.isub, 1), (.ishr, 1), (.iconst 1, 1), (.iand, 1), (.iconst 1, 1)]) (q := (12, [some (.int (nI e)), some (.int (nI c))], [.int (nI 1), .int (((nI e) >>> (((nI c) - (nI 1)) &&& 31)) &&& (nI 1))])) (by decide +kernel) rfl ?_
    dsimp only
    refine am_Rq.if2 (t := 19) (show decode (am_by 128) 12 = .ok (.if_icmp .ne 7, 3) by decide +kernel) (by decide) (fun hb => ?_) (fun hb => ?_)
    ·
      rw [c_bits e he c hc (by omega), Bool.not_eq_true'] at hb
      refine am_Rq.blk (is := [(.iconst 0, 1)]) (q := (20, [some (.int (nI e)), some (.int (nI c))], [.int (nI 0)])) (by decide +kernel) rfl ?_
      dsimp only
      refine am_Rq.ret (v := some (.int (nI 0))) (show decode (am_by 128) 20 = .ok (.ireturn, 1) by decide +kernel) rfl rfl ?_
      exact ⟨_, rfl, rfl, by rw [hb, Bool.and_false]; rfl⟩
    ·
      rw [c_bits e he c hc (by omega), Bool.not_eq_false'] at hb
      refine am_Rq.blk (is := [(.iconst 1, 1), (.goto 4, 3)]) (q := (20, [some (.int (nI e)), some (.int (nI c))], [.int (nI 1)])) (by decide +kernel) rfl ?_
      dsimp only
      refine am_Rq.ret (v := some (.int (nI 1))) (show decode (am_by 128) 20 = .ok (.ireturn, 1) by decide +kernel) rfl rfl ?_
      exact ⟨_, rfl, rfl, by rw [hb, decide_eq_true (by omega)]; rfl⟩
theorem m_isIn1 {e c : Nat} (he : e < 16) (hc : c < 5) (h1 : 1 ≤ c) : am_Rq d 128 0 (am_en [.int (nI e), .int (nI c)] 2) [] hp (am_Ret fun hp1 v => hp1 = hp ∧ v = some (.int (nI (am_b (Nat.testBit e (c - 1)))))) := by
  have h := m_isIn (d := d) (hp := hp) he hc
  rw [decide_eq_true h1, Bool.true_and] at h
  exact h
theorem m_isPref {th kn co : Nat} (hM : hp[238]? = some (7, [.int (nI th), .ref 239, .ref 240, .int (nI kn), .ref 241, .ref 242, .ref 243, .ref 244, .long (lN co), .ref 245])) {s : Nat → Nat} (hS : hp[239]? = some (100, am_ia (fun i => nI (s i)) 160)) {K : Nat} (ok : c_ok K (mt s)) (hK : K ≤ 900) {e c : Nat} (he : e < 16) (hc : c < 5) : am_Rq (d + 1) 127 0 (am_en [.ref 238, .int (nI e), .int (nI c)] 3) [] hp (am_Ret fun hp1 v => hp1 = hp ∧ v = some (.int (nI (am_b (decide (1 ≤ c) && (decide (0 < mt s (8 * c + 7)) && !Nat.testBit e (c - 1))))))) := by
  show am_Rq _ 127 0 [some (.ref 238), some (.int (nI e)), some (.int (nI c))] [] _ _
  have hB := ok.b (by omega)
  have b7 := hB (8 * c + 7) (by omega)
  refine am_Rq.blk (is := [(.iload_n 2, 1)]) (q := (1, [some (.ref 238), some (.int (nI e)), some (.int (nI c))], [.int (nI c)])) (by decide +kernel) rfl ?_
  dsimp only
  refine am_Rq.if1 (t := 24) (show decode (am_by 127) 1 = .ok (.ifCond .le 23, 3) by decide +kernel) (by decide) (fun h0 => ?_) (fun h0 => ?_)
  ·
    rw [nm_le0 (by omega)] at h0
    have h0 := of_decide_eq_true h0
    refine am_Rq.blk (is := [(.iconst 0, 1)]) (q := (25, [some (.ref 238), some (.int (nI e)), some (.int (nI c))], [.int (nI 0)])) (by decide +kernel) rfl ?_
    dsimp only
    refine am_Rq.ret (v := some (.int (nI 0))) (show decode (am_by 127) 25 = .ok (.ireturn, 1) by decide +kernel) rfl rfl ?_
    exact ⟨_, rfl, rfl, by rw [decide_eq_false (by omega)]; rfl⟩
  ·
    rw [nm_le0 (by omega)] at h0
    have h0 := of_decide_eq_false h0
    refine am_Rq.blk (is := [(.aload_n 0, 1), (.iload_n 2, 1)]) (q := (6, [some (.ref 238), some (.int (nI e)), some (.int (nI c))], [.int (nI c), .ref 238])) (by decide +kernel) rfl ?_
    dsimp only
    refine am_Rq.callV (show decode (am_by 127) 6 = .ok (.invokevirtual 49, 3) by decide +kernel) rfl [.int (nI c)] [] rfl rfl (Nat.le_of_ble_eq_true rfl) rfl hM rfl (m_issT hM hS (c := c) (hc)) ?_
    rintro hq _ ⟨e1, rfl⟩
    rw [e1]
    clear e1 hq
    show am_Rq _ 127 9 [some (.ref 238), some (.int (nI e)), some (.int (nI c))] [.int (nI (mt s (8 * c + 7)))] _ _
    refine am_Rq.if1 (t := 24) (show decode (am_by 127) 9 = .ok (.ifCond .le 15, 3) by decide +kernel) (by decide) (fun h7 => ?_) (fun h7 => ?_)
    ·
      rw [nm_le0 (by omega)] at h7
      have h7 := of_decide_eq_true h7
      refine am_Rq.blk (is := [(.iconst 0, 1)]) (q := (25, [some (.ref 238), some (.int (nI e)), some (.int (nI c))], [.int (nI 0)])) (by decide +kernel) rfl ?_
      dsimp only
      refine am_Rq.ret (v := some (.int (nI 0))) (show decode (am_by 127) 25 = .ok (.ireturn, 1) by decide +kernel) rfl rfl ?_
      exact ⟨_, rfl, rfl, by rw [decide_eq_false (show ¬ 0 < mt s (8 * c + 7) by omega), Bool.false_and, Bool.and_false]; rfl⟩
    ·
      rw [nm_le0 (by omega)] at h7
      have h7 := of_decide_eq_false h7
      refine am_Rq.blk (is := [(.iload_n 1, 1), (.iload_n 2, 1)]) (q := (14, [some (.ref 238), some (.int (nI e)), some (.int (nI c))], [.int (nI c), .int (nI e)])) (by decide +kernel) rfl ?_
      dsimp only
      refine am_Rq.callS (show decode (am_by 127) 14 = .ok (.invokestatic 92, 3) by decide +kernel) rfl [.int (nI e), .int (nI c)] [] rfl rfl (Nat.le_of_ble_eq_true rfl) rfl rfl (m_isIn1 he hc (by omega)) ?_
      rintro hq _ ⟨e1, rfl⟩
      rw [e1]
      clear e1 hq
      show am_Rq _ 127 17 [some (.ref 238), some (.int (nI e)), some (.int (nI c))] [.int (nI (am_b (Nat.testBit e (c - 1))))] _ _
      refine am_Rq.if1 (t := 24) (show decode (am_by 127) 17 = .ok (.ifCond .ne 7, 3) by decide +kernel) (by decide) (fun hb => ?_) (fun hb => ?_)
      ·
        rw [am_b_ne] at hb
        refine am_Rq.blk (is := [(.iconst 0, 1)]) (q := (25, [some (.ref 238), some (.int (nI e)), some (.int (nI c))], [.int (nI 0)])) (by decide +kernel) rfl ?_
        dsimp only
        refine am_Rq.ret (v := some (.int (nI 0))) (show decode (am_by 127) 25 = .ok (.ireturn, 1) by decide +kernel) rfl rfl ?_
        exact ⟨_, rfl, rfl, by rw [hb, Bool.not_true, Bool.and_false, Bool.and_false]; rfl⟩
      ·
        rw [am_b_ne] at hb
        refine am_Rq.blk (is := [(.iconst 1, 1), (.goto 4, 3)]) (q := (25, [some (.ref 238), some (.int (nI e)), some (.int (nI c))], [.int (nI 1)])) (by decide +kernel) rfl ?_
        dsimp only
        refine am_Rq.ret (v := some (.int (nI 1))) (show decode (am_by 127) 25 = .ok (.ireturn, 1) by decide +kernel) rfl rfl ?_
        exact ⟨_, rfl, rfl, by rw [hb, decide_eq_true (show 1 ≤ c by omega), decide_eq_true (show 0 < mt s (8 * c + 7) by omega)]; rfl⟩
theorem m_pref {th kn co : Nat} (hM : hp[238]? = some (7, [.int (nI th), .ref 239, .ref 240, .int (nI kn), .ref 241, .ref 242, .ref 243, .ref 244, .long (lN co), .ref 245])) {s : Nat → Nat} (hS : hp[239]? = some (100, am_ia (fun i => nI (s i)) 160)) {K : Nat} (ok : c_ok K (mt s)) (hK : K ≤ 900) {c : Nat} (h1 : 1 ≤ c) (hc : c ≤ s 0) : am_Rq (d + 1) 129 0 (am_en [.ref 238, .int (nI c)] 2) [] hp (am_Ret fun hp1 v => hp1 = hp ∧ v = some (.long (lN (mt s (8 * c + 7) * mt s (8 * c) * mt s (8 * c + 1))))) := by
  show am_Rq _ 129 0 [some (.ref 238), some (.int (nI c))] [] _ _
  have h4 := mt_s0 ok
  have hB := ok.b (by omega)
  have b7 := hB (8 * c + 7) (by omega)
  have b0 := hB (8 * c) (by omega)
  have b1 := hB (8 * c + 1) (by omega)
  have b4 := hB (8 * c + 4) (by omega)
  refine am_Rq.blk (is := [(.aload_n 0, 1), (.iload_n 1, 1)]) (q := (2, [some (.ref 238), some (.int (nI c))], [.int (nI c), .ref 238])) (by decide +kernel) rfl ?_
  dsimp only
  refine am_Rq.callV (show decode (am_by 129) 2 = .ok (.invokevirtual 49, 3) by decide +kernel) rfl [.int (nI c)] [] rfl rfl (Nat.le_of_ble_eq_true rfl) rfl hM rfl (m_issT hM hS (c := c) (by omega)) ?_
  rintro hq _ ⟨e1, rfl⟩
  rw [e1]
  clear e1 hq
  show am_Rq _ 129 5 [some (.ref 238), some (.int (nI c))] [.int (nI (mt s (8 * c + 7)))] _ _
  refine am_Rq.blk (is := [(.i2l, 1)]) (q := (6, [some (.ref 238), some (.int (nI c))], [.long ((nI (mt s (8 * c + 7))).toInt64)])) (by decide +kernel) rfl ?_
  dsimp only
  rw [show (nI (mt s (8 * c + 7))).toInt64 = lN (mt s (8 * c + 7)) from nm_l (by omega)]
  refine am_Rq.blk (is := [(.aload_n 0, 1), (.iload_n 1, 1), (.iconst 0, 1)]) (q := (9, [some (.ref 238), some (.int (nI c))], [.int (nI 0), .int (nI c), .ref 238, .long (lN (mt s (8 * c + 7)))])) (by decide +kernel) rfl ?_
  dsimp only
  refine am_Rq.callV (show decode (am_by 129) 9 = .ok (.invokevirtual 45, 3) by decide +kernel) rfl [.int (nI c), .int (nI 0)] [.long (lN (mt s (8 * c + 7)))] rfl rfl (Nat.le_of_ble_eq_true rfl) rfl hM rfl (m_ofT hM hS (c := c) (k := 0) (by omega) (by omega) (by omega) (by omega)) ?_
  rintro hq _ ⟨e1, rfl⟩
  rw [e1]
  clear e1 hq
  rw [Nat.add_zero]
  show am_Rq _ 129 12 [some (.ref 238), some (.int (nI c))] [.int (nI (mt s (8 * c))), .long (lN (mt s (8 * c + 7)))] _ _
  refine am_Rq.blk (is := [(.i2l, 1)]) (q := (13, [some (.ref 238), some (.int (nI c))], [.long ((nI (mt s (8 * c))).toInt64), .long (lN (mt s (8 * c + 7)))])) (by decide +kernel) rfl ?_
  dsimp only
  rw [show (nI (mt s (8 * c))).toInt64 = lN (mt s (8 * c)) from nm_l (by omega)]
  refine am_Rq.blk (is := [(.lmul, 1)]) (q := (14, [some (.ref 238), some (.int (nI c))], [.long ((lN (mt s (8 * c + 7))) * (lN (mt s (8 * c))))])) (by decide +kernel) rfl ?_
  dsimp only
  rw [show (lN (mt s (8 * c + 7))) * (lN (mt s (8 * c))) = lN ((mt s (8 * c + 7)) * (mt s (8 * c))) from lN_mul _ _]
  refine am_Rq.blk (is := [(.aload_n 0, 1), (.iload_n 1, 1), (.iconst 1, 1)]) (q := (17, [some (.ref 238), some (.int (nI c))], [.int (nI 1), .int (nI c), .ref 238, .long (lN ((mt s (8 * c + 7)) * (mt s (8 * c))))])) (by decide +kernel) rfl ?_
  dsimp only
  refine am_Rq.callV (show decode (am_by 129) 17 = .ok (.invokevirtual 45, 3) by decide +kernel) rfl [.int (nI c), .int (nI 1)] [.long (lN ((mt s (8 * c + 7)) * (mt s (8 * c))))] rfl rfl (Nat.le_of_ble_eq_true rfl) rfl hM rfl (m_ofT hM hS (c := c) (k := 1) (by omega) (by omega) (by omega) (by omega)) ?_
  rintro hq _ ⟨e1, rfl⟩
  rw [e1]
  clear e1 hq
  show am_Rq _ 129 20 [some (.ref 238), some (.int (nI c))] [.int (nI (mt s (8 * c + 1))), .long (lN ((mt s (8 * c + 7)) * (mt s (8 * c))))] _ _
  refine am_Rq.blk (is := [(.i2l, 1)]) (q := (21, [some (.ref 238), some (.int (nI c))], [.long ((nI (mt s (8 * c + 1))).toInt64), .long (lN ((mt s (8 * c + 7)) * (mt s (8 * c))))])) (by decide +kernel) rfl ?_
  dsimp only
  rw [show (nI (mt s (8 * c + 1))).toInt64 = lN (mt s (8 * c + 1)) from nm_l (by omega)]
  refine am_Rq.blk (is := [(.lmul, 1)]) (q := (22, [some (.ref 238), some (.int (nI c))], [.long ((lN ((mt s (8 * c + 7)) * (mt s (8 * c)))) * (lN (mt s (8 * c + 1))))])) (by decide +kernel) rfl ?_
  dsimp only
  rw [show (lN ((mt s (8 * c + 7)) * (mt s (8 * c)))) * (lN (mt s (8 * c + 1))) = lN (((mt s (8 * c + 7)) * (mt s (8 * c))) * (mt s (8 * c + 1))) from lN_mul _ _]
  refine am_Rq.ret (v := some (.long (lN (((mt s (8 * c + 7)) * (mt s (8 * c))) * (mt s (8 * c + 1)))))) (show decode (am_by 129) 22 = .ok (.lreturn, 1) by decide +kernel) rfl rfl ?_
  exact ⟨_, rfl, rfl, rfl⟩
theorem m_mostOf {th kn co : Nat} (hM : hp[238]? = some (7, [.int (nI th), .ref 239, .ref 240, .int (nI kn), .ref 241, .ref 242, .ref 243, .ref 244, .long (lN co), .ref 245])) {s : Nat → Nat} (hS : hp[239]? = some (100, am_ia (fun i => nI (s i)) 160)) {K : Nat} (ok : c_ok K (mt s)) (hK : K ≤ 900) {c : Nat} (h1 : 1 ≤ c) (hc : c ≤ s 0) : am_Rq (d + 2) 132 0 (am_en [.ref 238, .int (nI c)] 4) [] hp (am_Ret fun hp1 v => hp1 = hp ∧ v = some (.long (lN (mt s (8 * c + 7) * mt s (8 * c) * mt s (8 * c + 4) - mt s (8 * c + 7) * mt s (8 * c) * mt s (8 * c + 1))))) := by
  show am_Rq _ 132 0 [some (.ref 238), some (.int (nI c)), none, none] [] _ _
  have h4 := mt_s0 ok
  have hB := ok.b (by omega)
  have b7 := hB (8 * c + 7) (by omega)
  have b0 := hB (8 * c) (by omega)
  have b1 := hB (8 * c + 1) (by omega)
  have b4 := hB (8 * c + 4) (by omega)
  obtain ⟨a0, a1, a2, a3, a4, a5, a6, a7, a8, a9, -⟩ := ok.1 c (by omega)
  have hx1 : mt s (8 * c + 7) * mt s (8 * c) * mt s (8 * c + 4) ≤ 20000 * 1000 * 900 := Nat.mul_le_mul (Nat.mul_le_mul a9 a1) a5
  have hx2 : mt s (8 * c + 7) * mt s (8 * c) * mt s (8 * c + 1) ≤ 20000 * 1000 * 300 := Nat.mul_le_mul (Nat.mul_le_mul a9 a1) a2
  refine am_Rq.blk (is := [(.aload_n 0, 1), (.iload_n 1, 1)]) (q := (2, [some (.ref 238), some (.int (nI c)), none, none], [.int (nI c), .ref 238])) (by decide +kernel) rfl ?_
  dsimp only
  refine am_Rq.callV (show decode (am_by 132) 2 = .ok (.invokevirtual 49, 3) by decide +kernel) rfl [.int (nI c)] [] rfl rfl (Nat.le_of_ble_eq_true rfl) rfl hM rfl (m_issT hM hS (c := c) (by omega)) ?_
  rintro hq _ ⟨e1, rfl⟩
  rw [e1]
  clear e1 hq
  show am_Rq _ 132 5 [some (.ref 238), some (.int (nI c)), none, none] [.int (nI (mt s (8 * c + 7)))] _ _
  refine am_Rq.blk (is := [(.i2l, 1)]) (q := (6, [some (.ref 238), some (.int (nI c)), none, none], [.long ((nI (mt s (8 * c + 7))).toInt64)])) (by decide +kernel) rfl ?_
  dsimp only
  rw [show (nI (mt s (8 * c + 7))).toInt64 = lN (mt s (8 * c + 7)) from nm_l (by omega)]
  refine am_Rq.blk (is := [(.aload_n 0, 1), (.iload_n 1, 1), (.iconst 0, 1)]) (q := (9, [some (.ref 238), some (.int (nI c)), none, none], [.int (nI 0), .int (nI c), .ref 238, .long (lN (mt s (8 * c + 7)))])) (by decide +kernel) rfl ?_
  dsimp only
  refine am_Rq.callV (show decode (am_by 132) 9 = .ok (.invokevirtual 45, 3) by decide +kernel) rfl [.int (nI c), .int (nI 0)] [.long (lN (mt s (8 * c + 7)))] rfl rfl (Nat.le_of_ble_eq_true rfl) rfl hM rfl (m_ofT hM hS (c := c) (k := 0) (by omega) (by omega) (by omega) (by omega)) ?_
  rintro hq _ ⟨e1, rfl⟩
  rw [e1]
  clear e1 hq
  rw [Nat.add_zero]
  show am_Rq _ 132 12 [some (.ref 238), some (.int (nI c)), none, none] [.int (nI (mt s (8 * c))), .long (lN (mt s (8 * c + 7)))] _ _
  refine am_Rq.blk (is := [(.i2l, 1)]) (q := (13, [some (.ref 238), some (.int (nI c)), none, none], [.long ((nI (mt s (8 * c))).toInt64), .long (lN (mt s (8 * c + 7)))])) (by decide +kernel) rfl ?_
  dsimp only
  rw [show (nI (mt s (8 * c))).toInt64 = lN (mt s (8 * c)) from nm_l (by omega)]
  refine am_Rq.blk (is := [(.lmul, 1)]) (q := (14, [some (.ref 238), some (.int (nI c)), none, none], [.long ((lN (mt s (8 * c + 7))) * (lN (mt s (8 * c))))])) (by decide +kernel) rfl ?_
  dsimp only
  rw [show (lN (mt s (8 * c + 7))) * (lN (mt s (8 * c))) = lN ((mt s (8 * c + 7)) * (mt s (8 * c))) from lN_mul _ _]
  refine am_Rq.blk (is := [(.aload_n 0, 1), (.iload_n 1, 1), (.iconst 4, 1)]) (q := (17, [some (.ref 238), some (.int (nI c)), none, none], [.int (nI 4), .int (nI c), .ref 238, .long (lN ((mt s (8 * c + 7)) * (mt s (8 * c))))])) (by decide +kernel) rfl ?_
  dsimp only
  refine am_Rq.callV (show decode (am_by 132) 17 = .ok (.invokevirtual 45, 3) by decide +kernel) rfl [.int (nI c), .int (nI 4)] [.long (lN ((mt s (8 * c + 7)) * (mt s (8 * c))))] rfl rfl (Nat.le_of_ble_eq_true rfl) rfl hM rfl (m_ofT hM hS (c := c) (k := 4) (by omega) (by omega) (by omega) (by omega)) ?_
  rintro hq _ ⟨e1, rfl⟩
  rw [e1]
  clear e1 hq
  show am_Rq _ 132 20 [some (.ref 238), some (.int (nI c)), none, none] [.int (nI (mt s (8 * c + 4))), .long (lN ((mt s (8 * c + 7)) * (mt s (8 * c))))] _ _
  refine am_Rq.blk (is := [(.i2l, 1)]) (q := (21, [some (.ref 238), some (.int (nI c)), none, none], [.long ((nI (mt s (8 * c + 4))).toInt64), .long (lN ((mt s (8 * c + 7)) * (mt s (8 * c))))])) (by decide +kernel) rfl ?_
  dsimp only
  rw [show (nI (mt s (8 * c + 4))).toInt64 = lN (mt s (8 * c + 4)) from nm_l (by omega)]
  refine am_Rq.blk (is := [(.lmul, 1)]) (q := (22, [some (.ref 238), some (.int (nI c)), none, none], [.long ((lN ((mt s (8 * c + 7)) * (mt s (8 * c)))) * (lN (mt s (8 * c + 4))))])) (by decide +kernel) rfl ?_
  dsimp only
  rw [show (lN ((mt s (8 * c + 7)) * (mt s (8 * c)))) * (lN (mt s (8 * c + 4))) = lN (((mt s (8 * c + 7)) * (mt s (8 * c))) * (mt s (8 * c + 4))) from lN_mul _ _]
  refine am_Rq.blk (is := [(.aload_n 0, 1), (.iload_n 1, 1)]) (q := (24, [some (.ref 238), some (.int (nI c)), none, none], [.int (nI c), .ref 238, .long (lN (((mt s (8 * c + 7)) * (mt s (8 * c))) * (mt s (8 * c + 4))))])) (by decide +kernel) rfl ?_
  dsimp only
  refine am_Rq.callV (show decode (am_by 132) 24 = .ok (.invokevirtual 102, 3) by decide +kernel) rfl [.int (nI c)] [.long (lN (((mt s (8 * c + 7)) * (mt s (8 * c))) * (mt s (8 * c + 4))))] rfl rfl (Nat.le_of_ble_eq_true rfl) rfl hM rfl (m_pref hM hS ok hK h1 hc) ?_
  rintro hq _ ⟨e1, rfl⟩
  rw [e1]
  clear e1 hq
  show am_Rq _ 132 27 [some (.ref 238), some (.int (nI c)), none, none] [.long (lN (mt s (8 * c + 7) * mt s (8 * c) * mt s (8 * c + 1))), .long (lN (((mt s (8 * c + 7)) * (mt s (8 * c))) * (mt s (8 * c + 4))))] _ _
  refine am_Rq.blk (is := [(.lsub, 1), (.lstore_n 2, 1), (.lload_n 2, 1), (.lconst 0, 1), (.lcmp, 1)]) (q := (32, [some (.ref 238), some (.int (nI c)), some (.long ((lN (((mt s (8 * c + 7)) * (mt s (8 * c))) * (mt s (8 * c + 4)))) - (lN (mt s (8 * c + 7) * mt s (8 * c) * mt s (8 * c + 1))))), none], [.int (lg_cmp ((lN (((mt s (8 * c + 7)) * (mt s (8 * c))) * (mt s (8 * c + 4)))) - (lN (mt s (8 * c + 7) * mt s (8 * c) * mt s (8 * c + 1)))) (lN 0))])) (by decide +kernel) rfl ?_
  dsimp only
  refine am_Rq.if1 (t := 39) (show decode (am_by 132) 32 = .ok (.ifCond .ge 7, 3) by decide +kernel) (by decide) (fun hg => ?_) (fun hg => ?_)
  ·
    rw [nm_cge] at hg
    have hg := of_decide_eq_true hg
    have hle : mt s (8 * c + 7) * mt s (8 * c) * mt s (8 * c + 1) ≤ mt s (8 * c + 7) * mt s (8 * c) * mt s (8 * c + 4) := by
      rw [Int64.le_iff_toInt_le, Jvm.Kit.i64_sub (by rw [nm_t (by omega), nm_t (by omega)]; omega) (by rw [nm_t (by omega), nm_t (by omega)]; omega), nm_t (n := 0) (by decide), nm_t (by omega), nm_t (by omega)] at hg
      omega
    refine am_Rq.blk (is := [(.lload_n 2, 1)]) (q := (40, [some (.ref 238), some (.int (nI c)), some (.long ((lN (((mt s (8 * c + 7)) * (mt s (8 * c))) * (mt s (8 * c + 4)))) - (lN (mt s (8 * c + 7) * mt s (8 * c) * mt s (8 * c + 1))))), none], [.long ((lN (((mt s (8 * c + 7)) * (mt s (8 * c))) * (mt s (8 * c + 4)))) - (lN (mt s (8 * c + 7) * mt s (8 * c) * mt s (8 * c + 1))))])) (by decide +kernel) rfl ?_
    dsimp only
    refine am_Rq.ret (v := some (.long ((lN (((mt s (8 * c + 7)) * (mt s (8 * c))) * (mt s (8 * c + 4)))) - (lN (mt s (8 * c + 7) * mt s (8 * c) * mt s (8 * c + 1)))))) (show decode (am_by 132) 40 = .ok (.lreturn, 1) by decide +kernel) rfl rfl ?_
    refine ⟨_, rfl, rfl, ?_⟩
    rw [lN_sub hle]
  ·
    rw [nm_cge] at hg
    have hg := of_decide_eq_false hg
    have hle : mt s (8 * c + 7) * mt s (8 * c) * mt s (8 * c + 4) ≤ mt s (8 * c + 7) * mt s (8 * c) * mt s (8 * c + 1) := by
      rw [Int64.le_iff_toInt_le, Jvm.Kit.i64_sub (by rw [nm_t (by omega), nm_t (by omega)]; omega) (by rw [nm_t (by omega), nm_t (by omega)]; omega), nm_t (n := 0) (by decide), nm_t (by omega), nm_t (by omega)] at hg
      omega
    refine am_Rq.blk (is := [(.lconst 0, 1), (.goto 4, 3)]) (q := (40, [some (.ref 238), some (.int (nI c)), some (.long ((lN (((mt s (8 * c + 7)) * (mt s (8 * c))) * (mt s (8 * c + 4)))) - (lN (mt s (8 * c + 7) * mt s (8 * c) * mt s (8 * c + 1))))), none], [.long (lN 0)])) (by decide +kernel) rfl ?_
    dsimp only
    refine am_Rq.ret (v := some (.long (lN 0))) (show decode (am_by 132) 40 = .ok (.lreturn, 1) by decide +kernel) rfl rfl ?_
    refine ⟨_, rfl, rfl, ?_⟩
    rw [show mt s (8 * c + 7) * mt s (8 * c) * mt s (8 * c + 4) - mt s (8 * c + 7) * mt s (8 * c) * mt s (8 * c + 1) = 0 by omega]
end M15
