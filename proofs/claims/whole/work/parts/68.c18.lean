/-! The class: set, gets, brings, flip (rows by prog/c18.py). -/
theorem sl_fl_step {p : Nat → Bool} {n a b : Nat} : sl_fl p (n + 1) a b = if b - a ≤ 1 then b else if p (a + (b - a) / 2) then sl_fl p n (a + (b - a) / 2) b else sl_fl p n a (a + (b - a) / 2) := rfl
theorem c_nm2 {c : Nat} (h : c < 2 ^ 31) : am_c2 .eq (nI c) (am_ic (-1)) = false := by
  have h1 := c_nm1 h
  simp only [am_c2] at h1 ⊢
  exact decide_eq_false (of_decide_eq_true h1)
theorem sl_v_inj {t : Nat → Nat} {a b : Nat} (h : sl_v (sl_set t a) = sl_v (sl_set t b)) : sl_set t a = sl_set t b := by
  have hn : ∀ {e : Nat}, e < 16 → nI e ≠ am_ic (-1) := fun he q => by
    have h1 := of_decide_eq_true (c_nm1 (c := _) (show _ < 2 ^ 31 from Nat.lt_of_lt_of_le he (by decide)))
    exact h1 q
  cases ha : sl_set t a with
  | none =>
    cases hb : sl_set t b with
    | none => rfl
    | some y => rw [ha, hb] at h; exact absurd h.symm (hn (sl_set_lt hb))
  | some x =>
    have hx := sl_set_lt ha
    cases hb : sl_set t b with
    | none => rw [ha, hb] at h; exact absurd h (hn hx)
    | some y =>
      have hy := sl_set_lt hb
      rw [ha, hb] at h
      rw [(nI_eq (by omega) (by omega)).mp h]
section C18
variable {d : Nat} {hp : am_H}
theorem c_set (hO : hp[2]? = some (0, [.ref 3, .ref 26, .ref 212])) {t : Nat → Nat} (h : Led hp 3 t) {K : Nat} (ok : c_ok K t) (hK : K ≤ 900) (hT : hp[1]? = some (100, am_ia (fun k => nI (sl_ord k)) 16)) {A0 : Nat} {t0 : Nat → Nat} (hS : Sal hp t0 A0) {A : Nat} (hA : A ≤ 2000000000) : am_Rq (d + 7) 59 0 (am_en [.ref 2, .int (nI A)] 2) [] hp (am_Ret fun hp1 v => v = some (.int (sl_v (sl_set t A))) ∧ (∃ t1 A1, Sal hp1 t1 A1) ∧ am_fr (fun x => 212 ≤ x ∧ x < 238) hp hp1) := by
  show am_Rq _ 59 0 [some (.ref 2), some (.int (nI A))] [] _ _
  have hB := ok.b (by omega)
  refine am_Rq.blk (is := [(.aload_n 0, 1), (.iload_n 1, 1)]) (q := (2, [some (.ref 2), some (.int (nI A))], [.int (nI A), .ref 2])) (by decide +kernel) rfl ?_
  dsimp only
  refine am_Rq.callV (show decode (am_by 59) 2 = .ok (.invokevirtual 134, 3) by decide +kernel) rfl [.int (nI A)] [] rfl rfl (Nat.le_of_ble_eq_true rfl) rfl hO rfl (c_requireAmount ((rg_le (by omega) hA (by omega))) (by omega)) ?_
  rintro hq _ ⟨e1, rfl⟩
  rw [e1]
  clear e1 hq
  show am_Rq _ 59 5 [some (.ref 2), some (.int (nI A))] [] _ _
  refine am_Rq.blk (is := [(.aload_n 0, 1)]) (q := (6, [some (.ref 2), some (.int (nI A))], [.ref 2])) (by decide +kernel) rfl ?_
  dsimp only
  refine am_Rq.getf (v := .ref 212) (show decode (am_by 59) 6 = .ok (.getfield 26, 3) by decide +kernel) rfl hO rfl ?_
  refine am_Rq.blk (is := [(.aload_n 0, 1)]) (q := (10, [some (.ref 2), some (.int (nI A))], [.ref 2, .ref 212])) (by decide +kernel) rfl ?_
  dsimp only
  refine am_Rq.getf (v := .ref 3) (show decode (am_by 59) 10 = .ok (.getfield 12, 3) by decide +kernel) rfl hO rfl ?_
  refine am_Rq.blk (is := [(.iload_n 1, 1)]) (q := (14, [some (.ref 2), some (.int (nI A))], [.int (nI A), .ref 3, .ref 212])) (by decide +kernel) rfl ?_
  dsimp only
  refine am_Rq.callV (show decode (am_by 59) 14 = .ok (.invokevirtual 137, 3) by decide +kernel) rfl [.ref 3, .int (nI A)] [] rfl rfl (Nat.le_of_ble_eq_true rfl) rfl hS.1 rfl (c_stableSet (A := A) h ok hK hT hS hA) ?_
  rintro hp1 _ ⟨rfl, hSs1, hf1⟩
  have hc1_2 := (hf1.2.2 (2) (fun q => by omega)).trans hO
  have hc1_1 := (hf1.2.2 (1) (fun q => by omega)).trans hT
  have hL1x := Led.kept h (fun a ha => hf1.2.2 a (fun q => by obtain ⟨_, _⟩ := ha; omega))
  show am_Rq _ 59 17 [some (.ref 2), some (.int (nI A))] [.int (sl_v (sl_set t A))] _ _
  refine am_Rq.ret (v := some (.int (sl_v (sl_set t A)))) (show decode (am_by 59) 17 = .ok (.ireturn, 1) by decide +kernel) rfl rfl ?_
  exact ⟨_, rfl, rfl, ⟨_, _, hSs1⟩, (hf1.mono (A' := fun x => 212 ≤ x ∧ x < 238) (fun x q => by omega))⟩
theorem c_set_no (hO : hp[2]? = some (0, [.ref 3, .ref 26, .ref 212])) {t : Nat → Nat} (h : Led hp 3 t) {K : Nat} (ok : c_ok K t) (hK : K ≤ 900) (hT : hp[1]? = some (100, am_ia (fun k => nI (sl_ord k)) 16)) {A0 : Nat} {t0 : Nat → Nat} (hS : Sal hp t0 A0) {x : Int32} (hx : rg_r (nI 0) (nI 2000000000) x = false) : am_Rq (d + 7) 59 0 (am_en [.ref 2, .int x] 2) [] hp (c_No 0 hp) := by
  show am_Rq _ 59 0 [some (.ref 2), some (.int x)] [] _ _
  have hB := ok.b (by omega)
  refine am_Rq.blk (is := [(.aload_n 0, 1), (.iload_n 1, 1)]) (q := (2, [some (.ref 2), some (.int x)], [.int x, .ref 2])) (by decide +kernel) rfl ?_
  dsimp only
  exact am_Rq.callNo (show decode (am_by 59) 2 = .ok (.invokevirtual 134, 3) by decide +kernel) rfl [.int x] [] rfl rfl (Nat.le_of_ble_eq_true rfl) rfl hO rfl rfl (c_requireAmount_no (hx) (by omega)) ⟨rfl, rfl⟩
theorem c_gets_no1 (hO : hp[2]? = some (0, [.ref 3, .ref 26, .ref 212])) {t : Nat → Nat} (h : Led hp 3 t) {K : Nat} (ok : c_ok K t) (hK : K ≤ 900) (hT : hp[1]? = some (100, am_ia (fun k => nI (sl_ord k)) 16)) {A0 : Nat} {t0 : Nat → Nat} (hS : Sal hp t0 A0) {x y z : Int32} (hx : rg_r (nI 0) (nI 2000000000) x = false) : am_Rq (d + 7) 80 0 (am_en [.ref 2, .int x, .int y, .int z] 5) [] hp (c_No 0 hp) := by
  show am_Rq _ 80 0 [some (.ref 2), some (.int x), some (.int y), some (.int z), none] [] _ _
  have hB := ok.b (by omega)
  refine am_Rq.blk (is := [(.aload_n 0, 1), (.iload_n 1, 1)]) (q := (2, [some (.ref 2), some (.int x), some (.int y), some (.int z), none], [.int x, .ref 2])) (by decide +kernel) rfl ?_
  dsimp only
  exact am_Rq.callNo (show decode (am_by 80) 2 = .ok (.invokevirtual 134, 3) by decide +kernel) rfl [.int x] [] rfl rfl (Nat.le_of_ble_eq_true rfl) rfl hO rfl rfl (c_requireAmount_no (hx) (by omega)) ⟨rfl, rfl⟩
theorem c_gets_no2 (hO : hp[2]? = some (0, [.ref 3, .ref 26, .ref 212])) {t : Nat → Nat} (h : Led hp 3 t) {K : Nat} (ok : c_ok K t) (hK : K ≤ 900) (hT : hp[1]? = some (100, am_ia (fun k => nI (sl_ord k)) 16)) {A0 : Nat} {t0 : Nat → Nat} (hS : Sal hp t0 A0) {A : Nat} (hA : A ≤ 2000000000) {x z : Int32} (hx : (decide (0 ≤ x) && (decide (x ≤ nI 15) && c_cv t x.toNatClampNeg 5)) = false) : am_Rq (d + 7) 80 0 (am_en [.ref 2, .int (nI A), .int x, .int z] 5) [] hp (c_No 0 hp) := by
  show am_Rq _ 80 0 [some (.ref 2), some (.int (nI A)), some (.int x), some (.int z), none] [] _ _
  have hB := ok.b (by omega)
  refine am_Rq.blk (is := [(.aload_n 0, 1), (.iload_n 1, 1)]) (q := (2, [some (.ref 2), some (.int (nI A)), some (.int x), some (.int z), none], [.int (nI A), .ref 2])) (by decide +kernel) rfl ?_
  dsimp only
  refine am_Rq.callV (show decode (am_by 80) 2 = .ok (.invokevirtual 134, 3) by decide +kernel) rfl [.int (nI A)] [] rfl rfl (Nat.le_of_ble_eq_true rfl) rfl hO rfl (c_requireAmount ((rg_le (by omega) hA (by omega))) (by omega)) ?_
  rintro hq _ ⟨e1, rfl⟩
  rw [e1]
  clear e1 hq
  show am_Rq _ 80 5 [some (.ref 2), some (.int (nI A)), some (.int x), some (.int z), none] [] _ _
  refine am_Rq.blk (is := [(.aload_n 0, 1)]) (q := (6, [some (.ref 2), some (.int (nI A)), some (.int x), some (.int z), none], [.ref 2])) (by decide +kernel) rfl ?_
  dsimp only
  refine am_Rq.getf (v := .ref 3) (show decode (am_by 80) 6 = .ok (.getfield 12, 3) by decide +kernel) rfl hO rfl ?_
  refine am_Rq.blk (is := [(.iload_n 2, 1)]) (q := (10, [some (.ref 2), some (.int (nI A)), some (.int x), some (.int z), none], [.int x, .ref 3])) (by decide +kernel) rfl ?_
  dsimp only
  refine am_Rq.callV (show decode (am_by 80) 10 = .ok (.invokevirtual 141, 3) by decide +kernel) rfl [.int x] [] rfl rfl (Nat.le_of_ble_eq_true rfl) rfl (Led.lg h) rfl (c_canConvert h ok (by omega) x) ?_
  rintro hq _ ⟨e1, rfl⟩
  rw [e1]
  clear e1 hq
  show am_Rq _ 80 13 [some (.ref 2), some (.int (nI A)), some (.int x), some (.int z), none] [.int (nI (am_b (decide (0 ≤ x) && (decide (x ≤ nI 15) && c_cv t x.toNatClampNeg 5))))] _ _
  refine am_Rq.if1F (show decode (am_by 80) 13 = .ok (.ifCond .ne 11, 3) by decide +kernel) (by decide) (by rw [am_b_ne, hx]) ?_
  refine am_Rq.thrN (k := 0) (ic := 36) (show decode (am_by 80) 16 = .ok (.new 34, 3) by decide +kernel) rfl (by omega) rfl (show decode (am_by 80) 19 = .ok (.dup, 1) by decide +kernel) (show decode (am_by 80) 20 = .ok (.invokespecial 36, 3) by decide +kernel) (show decode (am_by 80) 23 = .ok (.athrow, 1) by decide +kernel) ?_
  exact ⟨rfl, rfl⟩
theorem c_gets_no3 (hO : hp[2]? = some (0, [.ref 3, .ref 26, .ref 212])) {t : Nat → Nat} (h : Led hp 3 t) {K : Nat} (ok : c_ok K t) (hK : K ≤ 900) (hT : hp[1]? = some (100, am_ia (fun k => nI (sl_ord k)) 16)) {A0 : Nat} {t0 : Nat → Nat} (hS : Sal hp t0 A0) {A : Nat} (hA : A ≤ 2000000000) {e : Nat} (he : e < 16) (hcv : c_cv t e 5 = true) {z : Int32} (hz : am_c2 .eq z (am_ic (-1)) = false) (hx : rg_r (nI 0) (nI (t 153) - nI 1) z = false) : am_Rq (d + 7) 80 0 (am_en [.ref 2, .int (nI A), .int (nI e), .int z] 5) [] hp (c_No 2 hp) := by
  show am_Rq _ 80 0 [some (.ref 2), some (.int (nI A)), some (.int (nI e)), some (.int z), none] [] _ _
  have hB := ok.b (by omega)
  refine am_Rq.blk (is := [(.aload_n 0, 1), (.iload_n 1, 1)]) (q := (2, [some (.ref 2), some (.int (nI A)), some (.int (nI e)), some (.int z), none], [.int (nI A), .ref 2])) (by decide +kernel) rfl ?_
  dsimp only
  refine am_Rq.callV (show decode (am_by 80) 2 = .ok (.invokevirtual 134, 3) by decide +kernel) rfl [.int (nI A)] [] rfl rfl (Nat.le_of_ble_eq_true rfl) rfl hO rfl (c_requireAmount ((rg_le (by omega) hA (by omega))) (by omega)) ?_
  rintro hq _ ⟨e1, rfl⟩
  rw [e1]
  clear e1 hq
  show am_Rq _ 80 5 [some (.ref 2), some (.int (nI A)), some (.int (nI e)), some (.int z), none] [] _ _
  refine am_Rq.blk (is := [(.aload_n 0, 1)]) (q := (6, [some (.ref 2), some (.int (nI A)), some (.int (nI e)), some (.int z), none], [.ref 2])) (by decide +kernel) rfl ?_
  dsimp only
  refine am_Rq.getf (v := .ref 3) (show decode (am_by 80) 6 = .ok (.getfield 12, 3) by decide +kernel) rfl hO rfl ?_
  refine am_Rq.blk (is := [(.iload_n 2, 1)]) (q := (10, [some (.ref 2), some (.int (nI A)), some (.int (nI e)), some (.int z), none], [.int (nI e), .ref 3])) (by decide +kernel) rfl ?_
  dsimp only
  refine am_Rq.callV (show decode (am_by 80) 10 = .ok (.invokevirtual 141, 3) by decide +kernel) rfl [.int (nI e)] [] rfl rfl (Nat.le_of_ble_eq_true rfl) rfl (Led.lg h) rfl (c_canConvert h ok (by omega) (nI e)) ?_
  rintro hq _ ⟨e1, rfl⟩
  rw [e1]
  clear e1 hq
  rw [c_cvN he]
  show am_Rq _ 80 13 [some (.ref 2), some (.int (nI A)), some (.int (nI e)), some (.int z), none] [.int (nI (am_b (c_cv t e 5)))] _ _
  refine am_Rq.if1T (t := 24) (show decode (am_by 80) 13 = .ok (.ifCond .ne 11, 3) by decide +kernel) (by decide) (by rw [am_b_ne, hcv]) ?_
  refine am_Rq.blk (is := [(.iload_n 3, 1), (.iconst (-1), 1)]) (q := (26, [some (.ref 2), some (.int (nI A)), some (.int (nI e)), some (.int z), none], [.int (am_ic (-1)), .int z])) (by decide +kernel) rfl ?_
  dsimp only
  refine am_Rq.if2F (show decode (am_by 80) 26 = .ok (.if_icmp .eq 8, 3) by decide +kernel) (by decide) (hz) ?_
  refine am_Rq.blk (is := [(.aload_n 0, 1), (.iload_n 3, 1)]) (q := (31, [some (.ref 2), some (.int (nI A)), some (.int (nI e)), some (.int z), none], [.int z, .ref 2])) (by decide +kernel) rfl ?_
  dsimp only
  exact am_Rq.callNo (show decode (am_by 80) 31 = .ok (.invokevirtual 58, 3) by decide +kernel) rfl [.int z] [] rfl rfl (Nat.le_of_ble_eq_true rfl) rfl hO rfl rfl (c_requireClass_no hO h (hx) (by omega)) ⟨rfl, rfl⟩
theorem c_gets1 (hO : hp[2]? = some (0, [.ref 3, .ref 26, .ref 212])) {t : Nat → Nat} (h : Led hp 3 t) {K : Nat} (ok : c_ok K t) (hK : K ≤ 900) (hT : hp[1]? = some (100, am_ia (fun k => nI (sl_ord k)) 16)) {A0 : Nat} {t0 : Nat → Nat} (hS : Sal hp t0 A0) {A : Nat} (hA : A ≤ 2000000000) {e : Nat} (he : e < 16) (hcv : c_cv t e 5 = true)  : am_Rq (d + 7) 80 0 (am_en [.ref 2, .int (nI A), .int (nI e), .int (am_ic (-1))] 5) [] hp (am_Ret fun hp1 v => v = some (.int (nI (sl_dv t A e 5))) ∧ (∃ t1 A1, Sal hp1 t1 A1) ∧ am_fr (fun x => 212 ≤ x ∧ x < 238) hp hp1) := by
  show am_Rq _ 80 0 [some (.ref 2), some (.int (nI A)), some (.int (nI e)), some (.int (am_ic (-1))), none] [] _ _
  have hB := ok.b (by omega)
  refine am_Rq.blk (is := [(.aload_n 0, 1), (.iload_n 1, 1)]) (q := (2, [some (.ref 2), some (.int (nI A)), some (.int (nI e)), some (.int (am_ic (-1))), none], [.int (nI A), .ref 2])) (by decide +kernel) rfl ?_
  dsimp only
  refine am_Rq.callV (show decode (am_by 80) 2 = .ok (.invokevirtual 134, 3) by decide +kernel) rfl [.int (nI A)] [] rfl rfl (Nat.le_of_ble_eq_true rfl) rfl hO rfl (c_requireAmount ((rg_le (by omega) hA (by omega))) (by omega)) ?_
  rintro hq _ ⟨e1, rfl⟩
  rw [e1]
  clear e1 hq
  show am_Rq _ 80 5 [some (.ref 2), some (.int (nI A)), some (.int (nI e)), some (.int (am_ic (-1))), none] [] _ _
  refine am_Rq.blk (is := [(.aload_n 0, 1)]) (q := (6, [some (.ref 2), some (.int (nI A)), some (.int (nI e)), some (.int (am_ic (-1))), none], [.ref 2])) (by decide +kernel) rfl ?_
  dsimp only
  refine am_Rq.getf (v := .ref 3) (show decode (am_by 80) 6 = .ok (.getfield 12, 3) by decide +kernel) rfl hO rfl ?_
  refine am_Rq.blk (is := [(.iload_n 2, 1)]) (q := (10, [some (.ref 2), some (.int (nI A)), some (.int (nI e)), some (.int (am_ic (-1))), none], [.int (nI e), .ref 3])) (by decide +kernel) rfl ?_
  dsimp only
  refine am_Rq.callV (show decode (am_by 80) 10 = .ok (.invokevirtual 141, 3) by decide +kernel) rfl [.int (nI e)] [] rfl rfl (Nat.le_of_ble_eq_true rfl) rfl (Led.lg h) rfl (c_canConvert h ok (by omega) (nI e)) ?_
  rintro hq _ ⟨e1, rfl⟩
  rw [e1]
  clear e1 hq
  rw [c_cvN he]
  show am_Rq _ 80 13 [some (.ref 2), some (.int (nI A)), some (.int (nI e)), some (.int (am_ic (-1))), none] [.int (nI (am_b (c_cv t e 5)))] _ _
  refine am_Rq.if1T (t := 24) (show decode (am_by 80) 13 = .ok (.ifCond .ne 11, 3) by decide +kernel) (by decide) (by rw [am_b_ne, hcv]) ?_
  refine am_Rq.blk (is := [(.iload_n 3, 1), (.iconst (-1), 1)]) (q := (26, [some (.ref 2), some (.int (nI A)), some (.int (nI e)), some (.int (am_ic (-1))), none], [.int (am_ic (-1)), .int (am_ic (-1))])) (by decide +kernel) rfl ?_
  dsimp only
  refine am_Rq.if2T (t := 34) (show decode (am_by 80) 26 = .ok (.if_icmp .eq 8, 3) by decide +kernel) (by decide) (rfl) ?_
  refine am_Rq.blk (is := [(.aload_n 0, 1)]) (q := (35, [some (.ref 2), some (.int (nI A)), some (.int (nI e)), some (.int (am_ic (-1))), none], [.ref 2])) (by decide +kernel) rfl ?_
  dsimp only
  refine am_Rq.getf (v := .ref 212) (show decode (am_by 80) 35 = .ok (.getfield 26, 3) by decide +kernel) rfl hO rfl ?_
  refine am_Rq.blk (is := [(.iload_n 1, 1)]) (q := (39, [some (.ref 2), some (.int (nI A)), some (.int (nI e)), some (.int (am_ic (-1))), none], [.int (nI A), .ref 212])) (by decide +kernel) rfl ?_
  dsimp only
  obtain ⟨hSO, hSh, h14, h15, h16, h34, h35, h36, h37, dd, hdd, hro⟩ := hS
  refine am_Rq.callV (show decode (am_by 80) 39 = .ok (.invokevirtual 145, 3) by decide +kernel) rfl [.int (nI A)] [] rfl rfl (Nat.le_of_ble_eq_true rfl) rfl hSO rfl (c_begin hSO hdd) ?_
  rintro hp1 _ ⟨rfl, hO1, hd1, hf1⟩
  have hc1_2 := (hf1.2.2 (2) (fun q => by omega)).trans hO
  have hc1_1 := (hf1.2.2 (1) (fun q => by omega)).trans hT
  have hL1x := Led.kept h (fun a ha => hf1.2.2 a (fun q => by obtain ⟨_, _⟩ := ha; omega))
  show am_Rq _ 80 42 [some (.ref 2), some (.int (nI A)), some (.int (nI e)), some (.int (am_ic (-1))), none] [] _ _
  have kp : ∀ q, q ≠ 212 → q ≠ 233 → hp1[q]? = hp[q]? := fun q q1 q2 => hf1.2.2 q (fun z => by omega)
  have hSb : Sal hp1 t A := by
    obtain ⟨f14, h14⟩ := h14
    obtain ⟨f15, h15⟩ := h15
    obtain ⟨f34, h34⟩ := h34
    obtain ⟨f35, h35⟩ := h35
    obtain ⟨f36, h36⟩ := h36
    obtain ⟨f37, h37⟩ := h37
    refine ⟨hO1, (kp 213 (by omega) (by omega)).trans hSh, ⟨_, (kp 214 (by omega) (by omega)).trans h14⟩, ⟨_, (kp 215 (by omega) (by omega)).trans h15⟩, (kp 216 (by omega) (by omega)).trans h16, ⟨_, (kp 234 (by omega) (by omega)).trans h34⟩, ⟨_, (kp 235 (by omega) (by omega)).trans h35⟩, ⟨_, (kp 236 (by omega) (by omega)).trans h36⟩, ⟨_, (kp 237 (by omega) (by omega)).trans h37⟩, fun _ => 0, hd1, fun e he => ?_⟩
    obtain ⟨u1, u2, u3, u4⟩ := hro e he
    exact ⟨Nat.zero_le 1, u2, (kp (217 + 1 * e) (by omega) (by omega)).trans u3, Or.inl rfl⟩
  refine am_Rq.blk (is := [(.aload_n 0, 1)]) (q := (43, [some (.ref 2), some (.int (nI A)), some (.int (nI e)), some (.int (am_ic (-1))), none], [.ref 2])) (by decide +kernel) rfl ?_
  dsimp only
  refine am_Rq.getf (v := .ref 212) (show decode (am_by 80) 43 = .ok (.getfield 26, 3) by decide +kernel) rfl hc1_2 rfl ?_
  refine am_Rq.blk (is := [(.aload_n 0, 1)]) (q := (47, [some (.ref 2), some (.int (nI A)), some (.int (nI e)), some (.int (am_ic (-1))), none], [.ref 2, .ref 212])) (by decide +kernel) rfl ?_
  dsimp only
  refine am_Rq.getf (v := .ref 3) (show decode (am_by 80) 47 = .ok (.getfield 12, 3) by decide +kernel) rfl hc1_2 rfl ?_
  refine am_Rq.blk (is := [(.iload_n 2, 1)]) (q := (51, [some (.ref 2), some (.int (nI A)), some (.int (nI e)), some (.int (am_ic (-1))), none], [.int (nI e), .ref 3, .ref 212])) (by decide +kernel) rfl ?_
  dsimp only
  refine am_Rq.callV (show decode (am_by 80) 51 = .ok (.invokevirtual 148, 3) by decide +kernel) rfl [.ref 3, .int (nI e)] [] rfl rfl (Nat.le_of_ble_eq_true rfl) rfl hO1 rfl (c_divisionBy (e := e) hL1x ok hK hA hSb he) ?_
  rintro hp2 _ ⟨rfl, hSd, hRe, hKd, hf2⟩
  show am_Rq _ 80 54 [some (.ref 2), some (.int (nI A)), some (.int (nI e)), some (.int (am_ic (-1))), none] [.ref (217 + 1 * e)] _ _
  refine am_Rq.blk (is := [(.astore 4, 2), (.iload_n 3, 1), (.iconst (-1), 1)]) (q := (58, [some (.ref 2), some (.int (nI A)), some (.int (nI e)), some (.int (am_ic (-1))), some (.ref (217 + 1 * e))], [.int (am_ic (-1)), .int (am_ic (-1))])) (by decide +kernel) rfl ?_
  dsimp only
  refine am_Rq.if2F (show decode (am_by 80) 58 = .ok (.if_icmp .ne 10, 3) by decide +kernel) (by decide) (rfl) ?_
  refine am_Rq.blk (is := [(.aload 4, 2), (.iconst 5, 1)]) (q := (64, [some (.ref 2), some (.int (nI A)), some (.int (nI e)), some (.int (am_ic (-1))), some (.ref (217 + 1 * e))], [.int (nI 5), .ref (217 + 1 * e)])) (by decide +kernel) rfl ?_
  dsimp only
  refine am_Rq.ial (k := 5) (show decode (am_by 80) 64 = .ok (.iaload, 1) by decide +kernel) hRe (by omega) (by omega) ?_
  refine am_Rq.blk (is := [(.goto 7, 3)]) (q := (72, [some (.ref 2), some (.int (nI A)), some (.int (nI e)), some (.int (am_ic (-1))), some (.ref (217 + 1 * e))], [.int (nI (sl_dv t A e 5))])) (by decide +kernel) rfl ?_
  dsimp only
  refine am_Rq.ret (v := some (.int (nI (sl_dv t A e 5)))) (show decode (am_by 80) 72 = .ok (.ireturn, 1) by decide +kernel) rfl rfl ?_
  exact ⟨_, rfl, rfl, ⟨_, _, hSd⟩, ((hf1.mono (A' := fun x => 212 ≤ x ∧ x < 238) (fun x q => by omega)).trans (hf2.mono (A' := fun x => 212 ≤ x ∧ x < 238) (fun x q => by omega)))⟩
theorem c_gets2 (hO : hp[2]? = some (0, [.ref 3, .ref 26, .ref 212])) {t : Nat → Nat} (h : Led hp 3 t) {K : Nat} (ok : c_ok K t) (hK : K ≤ 900) (hT : hp[1]? = some (100, am_ia (fun k => nI (sl_ord k)) 16)) {A0 : Nat} {t0 : Nat → Nat} (hS : Sal hp t0 A0) {A : Nat} (hA : A ≤ 2000000000) {e : Nat} (he : e < 16) (hcv : c_cv t e 5 = true) {c : Nat} (hc : c < t 153) : am_Rq (d + 7) 80 0 (am_en [.ref 2, .int (nI A), .int (nI e), .int (nI c)] 5) [] hp (am_Ret fun hp1 v => v = some (.int (nI (sl_dv t A e c))) ∧ (∃ t1 A1, Sal hp1 t1 A1) ∧ am_fr (fun x => 212 ≤ x ∧ x < 238) hp hp1) := by
  show am_Rq _ 80 0 [some (.ref 2), some (.int (nI A)), some (.int (nI e)), some (.int (nI c)), none] [] _ _
  have hB := ok.b (by omega)
  refine am_Rq.blk (is := [(.aload_n 0, 1), (.iload_n 1, 1)]) (q := (2, [some (.ref 2), some (.int (nI A)), some (.int (nI e)), some (.int (nI c)), none], [.int (nI A), .ref 2])) (by decide +kernel) rfl ?_
  dsimp only
  refine am_Rq.callV (show decode (am_by 80) 2 = .ok (.invokevirtual 134, 3) by decide +kernel) rfl [.int (nI A)] [] rfl rfl (Nat.le_of_ble_eq_true rfl) rfl hO rfl (c_requireAmount ((rg_le (by omega) hA (by omega))) (by omega)) ?_
  rintro hq _ ⟨e1, rfl⟩
  rw [e1]
  clear e1 hq
  show am_Rq _ 80 5 [some (.ref 2), some (.int (nI A)), some (.int (nI e)), some (.int (nI c)), none] [] _ _
  refine am_Rq.blk (is := [(.aload_n 0, 1)]) (q := (6, [some (.ref 2), some (.int (nI A)), some (.int (nI e)), some (.int (nI c)), none], [.ref 2])) (by decide +kernel) rfl ?_
  dsimp only
  refine am_Rq.getf (v := .ref 3) (show decode (am_by 80) 6 = .ok (.getfield 12, 3) by decide +kernel) rfl hO rfl ?_
  refine am_Rq.blk (is := [(.iload_n 2, 1)]) (q := (10, [some (.ref 2), some (.int (nI A)), some (.int (nI e)), some (.int (nI c)), none], [.int (nI e), .ref 3])) (by decide +kernel) rfl ?_
  dsimp only
  refine am_Rq.callV (show decode (am_by 80) 10 = .ok (.invokevirtual 141, 3) by decide +kernel) rfl [.int (nI e)] [] rfl rfl (Nat.le_of_ble_eq_true rfl) rfl (Led.lg h) rfl (c_canConvert h ok (by omega) (nI e)) ?_
  rintro hq _ ⟨e1, rfl⟩
  rw [e1]
  clear e1 hq
  rw [c_cvN he]
  show am_Rq _ 80 13 [some (.ref 2), some (.int (nI A)), some (.int (nI e)), some (.int (nI c)), none] [.int (nI (am_b (c_cv t e 5)))] _ _
  refine am_Rq.if1T (t := 24) (show decode (am_by 80) 13 = .ok (.ifCond .ne 11, 3) by decide +kernel) (by decide) (by rw [am_b_ne, hcv]) ?_
  refine am_Rq.blk (is := [(.iload_n 3, 1), (.iconst (-1), 1)]) (q := (26, [some (.ref 2), some (.int (nI A)), some (.int (nI e)), some (.int (nI c)), none], [.int (am_ic (-1)), .int (nI c)])) (by decide +kernel) rfl ?_
  dsimp only
  have h153 := ok.2.2.2.2.2.2.1
  refine am_Rq.if2F (show decode (am_by 80) 26 = .ok (.if_icmp .eq 8, 3) by decide +kernel) (by decide) (c_nm2 (by omega)) ?_
  refine am_Rq.blk (is := [(.aload_n 0, 1), (.iload_n 3, 1)]) (q := (31, [some (.ref 2), some (.int (nI A)), some (.int (nI e)), some (.int (nI c)), none], [.int (nI c), .ref 2])) (by decide +kernel) rfl ?_
  dsimp only
  refine am_Rq.callV (show decode (am_by 80) 31 = .ok (.invokevirtual 58, 3) by decide +kernel) rfl [.int (nI c)] [] rfl rfl (Nat.le_of_ble_eq_true rfl) rfl hO rfl (c_requireClass hO h (rg_lt hc (hB _ (by omega))) (by omega)) ?_
  rintro hq _ ⟨e1, rfl⟩
  rw [e1]
  clear e1 hq
  show am_Rq _ 80 34 [some (.ref 2), some (.int (nI A)), some (.int (nI e)), some (.int (nI c)), none] [] _ _
  refine am_Rq.blk (is := [(.aload_n 0, 1)]) (q := (35, [some (.ref 2), some (.int (nI A)), some (.int (nI e)), some (.int (nI c)), none], [.ref 2])) (by decide +kernel) rfl ?_
  dsimp only
  refine am_Rq.getf (v := .ref 212) (show decode (am_by 80) 35 = .ok (.getfield 26, 3) by decide +kernel) rfl hO rfl ?_
  refine am_Rq.blk (is := [(.iload_n 1, 1)]) (q := (39, [some (.ref 2), some (.int (nI A)), some (.int (nI e)), some (.int (nI c)), none], [.int (nI A), .ref 212])) (by decide +kernel) rfl ?_
  dsimp only
  obtain ⟨hSO, hSh, h14, h15, h16, h34, h35, h36, h37, dd, hdd, hro⟩ := hS
  refine am_Rq.callV (show decode (am_by 80) 39 = .ok (.invokevirtual 145, 3) by decide +kernel) rfl [.int (nI A)] [] rfl rfl (Nat.le_of_ble_eq_true rfl) rfl hSO rfl (c_begin hSO hdd) ?_
  rintro hp1 _ ⟨rfl, hO1, hd1, hf1⟩
  have hc1_2 := (hf1.2.2 (2) (fun q => by omega)).trans hO
  have hc1_1 := (hf1.2.2 (1) (fun q => by omega)).trans hT
  have hL1x := Led.kept h (fun a ha => hf1.2.2 a (fun q => by obtain ⟨_, _⟩ := ha; omega))
  show am_Rq _ 80 42 [some (.ref 2), some (.int (nI A)), some (.int (nI e)), some (.int (nI c)), none] [] _ _
  have kp : ∀ q, q ≠ 212 → q ≠ 233 → hp1[q]? = hp[q]? := fun q q1 q2 => hf1.2.2 q (fun z => by omega)
  have hSb : Sal hp1 t A := by
    obtain ⟨f14, h14⟩ := h14
    obtain ⟨f15, h15⟩ := h15
    obtain ⟨f34, h34⟩ := h34
    obtain ⟨f35, h35⟩ := h35
    obtain ⟨f36, h36⟩ := h36
    obtain ⟨f37, h37⟩ := h37
    refine ⟨hO1, (kp 213 (by omega) (by omega)).trans hSh, ⟨_, (kp 214 (by omega) (by omega)).trans h14⟩, ⟨_, (kp 215 (by omega) (by omega)).trans h15⟩, (kp 216 (by omega) (by omega)).trans h16, ⟨_, (kp 234 (by omega) (by omega)).trans h34⟩, ⟨_, (kp 235 (by omega) (by omega)).trans h35⟩, ⟨_, (kp 236 (by omega) (by omega)).trans h36⟩, ⟨_, (kp 237 (by omega) (by omega)).trans h37⟩, fun _ => 0, hd1, fun e he => ?_⟩
    obtain ⟨u1, u2, u3, u4⟩ := hro e he
    exact ⟨Nat.zero_le 1, u2, (kp (217 + 1 * e) (by omega) (by omega)).trans u3, Or.inl rfl⟩
  refine am_Rq.blk (is := [(.aload_n 0, 1)]) (q := (43, [some (.ref 2), some (.int (nI A)), some (.int (nI e)), some (.int (nI c)), none], [.ref 2])) (by decide +kernel) rfl ?_
  dsimp only
  refine am_Rq.getf (v := .ref 212) (show decode (am_by 80) 43 = .ok (.getfield 26, 3) by decide +kernel) rfl hc1_2 rfl ?_
  refine am_Rq.blk (is := [(.aload_n 0, 1)]) (q := (47, [some (.ref 2), some (.int (nI A)), some (.int (nI e)), some (.int (nI c)), none], [.ref 2, .ref 212])) (by decide +kernel) rfl ?_
  dsimp only
  refine am_Rq.getf (v := .ref 3) (show decode (am_by 80) 47 = .ok (.getfield 12, 3) by decide +kernel) rfl hc1_2 rfl ?_
  refine am_Rq.blk (is := [(.iload_n 2, 1)]) (q := (51, [some (.ref 2), some (.int (nI A)), some (.int (nI e)), some (.int (nI c)), none], [.int (nI e), .ref 3, .ref 212])) (by decide +kernel) rfl ?_
  dsimp only
  refine am_Rq.callV (show decode (am_by 80) 51 = .ok (.invokevirtual 148, 3) by decide +kernel) rfl [.ref 3, .int (nI e)] [] rfl rfl (Nat.le_of_ble_eq_true rfl) rfl hO1 rfl (c_divisionBy (e := e) hL1x ok hK hA hSb he) ?_
  rintro hp2 _ ⟨rfl, hSd, hRe, hKd, hf2⟩
  show am_Rq _ 80 54 [some (.ref 2), some (.int (nI A)), some (.int (nI e)), some (.int (nI c)), none] [.ref (217 + 1 * e)] _ _
  refine am_Rq.blk (is := [(.astore 4, 2), (.iload_n 3, 1), (.iconst (-1), 1)]) (q := (58, [some (.ref 2), some (.int (nI A)), some (.int (nI e)), some (.int (nI c)), some (.ref (217 + 1 * e))], [.int (am_ic (-1)), .int (nI c)])) (by decide +kernel) rfl ?_
  dsimp only
  refine am_Rq.if2T (t := 68) (show decode (am_by 80) 58 = .ok (.if_icmp .ne 10, 3) by decide +kernel) (by decide) (c_nm1 (by omega)) ?_
  refine am_Rq.blk (is := [(.aload 4, 2), (.iload_n 3, 1)]) (q := (71, [some (.ref 2), some (.int (nI A)), some (.int (nI e)), some (.int (nI c)), some (.ref (217 + 1 * e))], [.int (nI c), .ref (217 + 1 * e)])) (by decide +kernel) rfl ?_
  dsimp only
  refine am_Rq.ial (k := c) (show decode (am_by 80) 71 = .ok (.iaload, 1) by decide +kernel) hRe (by omega) (by omega) ?_
  refine am_Rq.ret (v := some (.int (nI (sl_dv t A e c)))) (show decode (am_by 80) 72 = .ok (.ireturn, 1) by decide +kernel) rfl rfl ?_
  exact ⟨_, rfl, rfl, ⟨_, _, hSd⟩, ((hf1.mono (A' := fun x => 212 ≤ x ∧ x < 238) (fun x q => by omega)).trans (hf2.mono (A' := fun x => 212 ≤ x ∧ x < 238) (fun x q => by omega)))⟩
theorem c_brings_no1 (hO : hp[2]? = some (0, [.ref 3, .ref 26, .ref 212])) {t : Nat → Nat} (h : Led hp 3 t) {K : Nat} (ok : c_ok K t) (hK : K ≤ 900) (hT : hp[1]? = some (100, am_ia (fun k => nI (sl_ord k)) 16)) {A0 : Nat} {t0 : Nat → Nat} (hS : Sal hp t0 A0) {x y : Int32} (hx : rg_r (nI 0) (nI 2000000000) x = false) : am_Rq (d + 7) 82 0 (am_en [.ref 2, .int x, .int y] 4) [] hp (c_No 0 hp) := by
  show am_Rq _ 82 0 [some (.ref 2), some (.int x), some (.int y), none] [] _ _
  have hB := ok.b (by omega)
  refine am_Rq.blk (is := [(.aload_n 0, 1), (.iload_n 1, 1)]) (q := (2, [some (.ref 2), some (.int x), some (.int y), none], [.int x, .ref 2])) (by decide +kernel) rfl ?_
  dsimp only
  exact am_Rq.callNo (show decode (am_by 82) 2 = .ok (.invokevirtual 134, 3) by decide +kernel) rfl [.int x] [] rfl rfl (Nat.le_of_ble_eq_true rfl) rfl hO rfl rfl (c_requireAmount_no (hx) (by omega)) ⟨rfl, rfl⟩
theorem c_brings_no2 (hO : hp[2]? = some (0, [.ref 3, .ref 26, .ref 212])) {t : Nat → Nat} (h : Led hp 3 t) {K : Nat} (ok : c_ok K t) (hK : K ≤ 900) (hT : hp[1]? = some (100, am_ia (fun k => nI (sl_ord k)) 16)) {A0 : Nat} {t0 : Nat → Nat} (hS : Sal hp t0 A0) {A : Nat} (hA : A ≤ 2000000000) {y : Int32} (hy : rg_r (nI 0) (nI 7) y = false) : am_Rq (d + 7) 82 0 (am_en [.ref 2, .int (nI A), .int y] 4) [] hp (c_No 2 hp) := by
  show am_Rq _ 82 0 [some (.ref 2), some (.int (nI A)), some (.int y), none] [] _ _
  have hB := ok.b (by omega)
  refine am_Rq.blk (is := [(.aload_n 0, 1), (.iload_n 1, 1)]) (q := (2, [some (.ref 2), some (.int (nI A)), some (.int y), none], [.int (nI A), .ref 2])) (by decide +kernel) rfl ?_
  dsimp only
  refine am_Rq.callV (show decode (am_by 82) 2 = .ok (.invokevirtual 134, 3) by decide +kernel) rfl [.int (nI A)] [] rfl rfl (Nat.le_of_ble_eq_true rfl) rfl hO rfl (c_requireAmount ((rg_le (by omega) hA (by omega))) (by omega)) ?_
  rintro hq _ ⟨e1, rfl⟩
  rw [e1]
  clear e1 hq
  show am_Rq _ 82 5 [some (.ref 2), some (.int (nI A)), some (.int y), none] [] _ _
  refine am_Rq.blk (is := [(.aload_n 0, 1), (.iload_n 2, 1)]) (q := (7, [some (.ref 2), some (.int (nI A)), some (.int y), none], [.int y, .ref 2])) (by decide +kernel) rfl ?_
  dsimp only
  exact am_Rq.callNo (show decode (am_by 82) 7 = .ok (.invokevirtual 62, 3) by decide +kernel) rfl [.int y] [] rfl rfl (Nat.le_of_ble_eq_true rfl) rfl hO rfl rfl (c_requireHolder_no (hy) (by omega)) ⟨rfl, rfl⟩
theorem c_brings1 (hO : hp[2]? = some (0, [.ref 3, .ref 26, .ref 212])) {t : Nat → Nat} (h : Led hp 3 t) {K : Nat} (ok : c_ok K t) (hK : K ≤ 900) (hT : hp[1]? = some (100, am_ia (fun k => nI (sl_ord k)) 16)) {A0 : Nat} {t0 : Nat → Nat} (hS : Sal hp t0 A0) {A k : Nat} (hA : A ≤ 2000000000) (hk : k < 8) (hs : sl_set t A = none) : am_Rq (d + 7) 82 0 (am_en [.ref 2, .int (nI A), .int (nI k)] 4) [] hp (am_Ret fun hp1 v => v = some (.int (am_ic (-1))) ∧ (∃ t1 A1, Sal hp1 t1 A1) ∧ am_fr (fun x => 212 ≤ x ∧ x < 238) hp hp1) := by
  show am_Rq _ 82 0 [some (.ref 2), some (.int (nI A)), some (.int (nI k)), none] [] _ _
  have hB := ok.b (by omega)
  refine am_Rq.blk (is := [(.aload_n 0, 1), (.iload_n 1, 1)]) (q := (2, [some (.ref 2), some (.int (nI A)), some (.int (nI k)), none], [.int (nI A), .ref 2])) (by decide +kernel) rfl ?_
  dsimp only
  refine am_Rq.callV (show decode (am_by 82) 2 = .ok (.invokevirtual 134, 3) by decide +kernel) rfl [.int (nI A)] [] rfl rfl (Nat.le_of_ble_eq_true rfl) rfl hO rfl (c_requireAmount ((rg_le (by omega) hA (by omega))) (by omega)) ?_
  rintro hq _ ⟨e1, rfl⟩
  rw [e1]
  clear e1 hq
  show am_Rq _ 82 5 [some (.ref 2), some (.int (nI A)), some (.int (nI k)), none] [] _ _
  refine am_Rq.blk (is := [(.aload_n 0, 1), (.iload_n 2, 1)]) (q := (7, [some (.ref 2), some (.int (nI A)), some (.int (nI k)), none], [.int (nI k), .ref 2])) (by decide +kernel) rfl ?_
  dsimp only
  refine am_Rq.callV (show decode (am_by 82) 7 = .ok (.invokevirtual 62, 3) by decide +kernel) rfl [.int (nI k)] [] rfl rfl (Nat.le_of_ble_eq_true rfl) rfl hO rfl (c_requireHolder (rg_le (by omega) (show k ≤ 7 by omega) (by omega)) (by omega)) ?_
  rintro hq _ ⟨e1, rfl⟩
  rw [e1]
  clear e1 hq
  show am_Rq _ 82 10 [some (.ref 2), some (.int (nI A)), some (.int (nI k)), none] [] _ _
  refine am_Rq.blk (is := [(.aload_n 0, 1)]) (q := (11, [some (.ref 2), some (.int (nI A)), some (.int (nI k)), none], [.ref 2])) (by decide +kernel) rfl ?_
  dsimp only
  refine am_Rq.getf (v := .ref 212) (show decode (am_by 82) 11 = .ok (.getfield 26, 3) by decide +kernel) rfl hO rfl ?_
  refine am_Rq.blk (is := [(.aload_n 0, 1)]) (q := (15, [some (.ref 2), some (.int (nI A)), some (.int (nI k)), none], [.ref 2, .ref 212])) (by decide +kernel) rfl ?_
  dsimp only
  refine am_Rq.getf (v := .ref 3) (show decode (am_by 82) 15 = .ok (.getfield 12, 3) by decide +kernel) rfl hO rfl ?_
  refine am_Rq.blk (is := [(.iload_n 1, 1)]) (q := (19, [some (.ref 2), some (.int (nI A)), some (.int (nI k)), none], [.int (nI A), .ref 3, .ref 212])) (by decide +kernel) rfl ?_
  dsimp only
  refine am_Rq.callV (show decode (am_by 82) 19 = .ok (.invokevirtual 137, 3) by decide +kernel) rfl [.ref 3, .int (nI A)] [] rfl rfl (Nat.le_of_ble_eq_true rfl) rfl hS.1 rfl (c_stableSet (A := A) h ok hK hT hS hA) ?_
  rintro hp1 _ ⟨rfl, hSs1, hf1⟩
  have hc1_2 := (hf1.2.2 (2) (fun q => by omega)).trans hO
  have hc1_1 := (hf1.2.2 (1) (fun q => by omega)).trans hT
  have hL1x := Led.kept h (fun a ha => hf1.2.2 a (fun q => by obtain ⟨_, _⟩ := ha; omega))
  show am_Rq _ 82 22 [some (.ref 2), some (.int (nI A)), some (.int (nI k)), none] [.int (sl_v (sl_set t A))] _ _
  rw [hs]
  show am_Rq _ 82 22 [some (.ref 2), some (.int (nI A)), some (.int (nI k)), none] [.int (am_ic (-1))] _ _
  refine am_Rq.blk (is := [(.istore_n 3, 1), (.iload_n 3, 1), (.iconst (-1), 1)]) (q := (25, [some (.ref 2), some (.int (nI A)), some (.int (nI k)), some (.int (am_ic (-1)))], [.int (am_ic (-1)), .int (am_ic (-1))])) (by decide +kernel) rfl ?_
  dsimp only
  refine am_Rq.if2F (show decode (am_by 82) 25 = .ok (.if_icmp .ne 7, 3) by decide +kernel) (by decide) (rfl) ?_
  refine am_Rq.blk (is := [(.iconst (-1), 1), (.goto 16, 3)]) (q := (45, [some (.ref 2), some (.int (nI A)), some (.int (nI k)), some (.int (am_ic (-1)))], [.int (am_ic (-1))])) (by decide +kernel) rfl ?_
  dsimp only
  refine am_Rq.ret (v := some (.int (am_ic (-1)))) (show decode (am_by 82) 45 = .ok (.ireturn, 1) by decide +kernel) rfl rfl ?_
  exact ⟨_, rfl, rfl, ⟨_, _, hSs1⟩, (hf1.mono (A' := fun x => 212 ≤ x ∧ x < 238) (fun x q => by omega))⟩
theorem c_brings2 (hO : hp[2]? = some (0, [.ref 3, .ref 26, .ref 212])) {t : Nat → Nat} (h : Led hp 3 t) {K : Nat} (ok : c_ok K t) (hK : K ≤ 900) (hT : hp[1]? = some (100, am_ia (fun k => nI (sl_ord k)) 16)) {A0 : Nat} {t0 : Nat → Nat} (hS : Sal hp t0 A0) {A k : Nat} (hA : A ≤ 2000000000) (hk : k < 8) {e : Nat} (hs : sl_set t A = some e) : am_Rq (d + 7) 82 0 (am_en [.ref 2, .int (nI A), .int (nI k)] 4) [] hp (am_Ret fun hp1 v => v = some (.int (nI (sl_br t A e k 5))) ∧ (∃ t1 A1, Sal hp1 t1 A1) ∧ am_fr (fun x => 212 ≤ x ∧ x < 238) hp hp1) := by
  show am_Rq _ 82 0 [some (.ref 2), some (.int (nI A)), some (.int (nI k)), none] [] _ _
  have hB := ok.b (by omega)
  refine am_Rq.blk (is := [(.aload_n 0, 1), (.iload_n 1, 1)]) (q := (2, [some (.ref 2), some (.int (nI A)), some (.int (nI k)), none], [.int (nI A), .ref 2])) (by decide +kernel) rfl ?_
  dsimp only
  refine am_Rq.callV (show decode (am_by 82) 2 = .ok (.invokevirtual 134, 3) by decide +kernel) rfl [.int (nI A)] [] rfl rfl (Nat.le_of_ble_eq_true rfl) rfl hO rfl (c_requireAmount ((rg_le (by omega) hA (by omega))) (by omega)) ?_
  rintro hq _ ⟨e1, rfl⟩
  rw [e1]
  clear e1 hq
  show am_Rq _ 82 5 [some (.ref 2), some (.int (nI A)), some (.int (nI k)), none] [] _ _
  refine am_Rq.blk (is := [(.aload_n 0, 1), (.iload_n 2, 1)]) (q := (7, [some (.ref 2), some (.int (nI A)), some (.int (nI k)), none], [.int (nI k), .ref 2])) (by decide +kernel) rfl ?_
  dsimp only
  refine am_Rq.callV (show decode (am_by 82) 7 = .ok (.invokevirtual 62, 3) by decide +kernel) rfl [.int (nI k)] [] rfl rfl (Nat.le_of_ble_eq_true rfl) rfl hO rfl (c_requireHolder (rg_le (by omega) (show k ≤ 7 by omega) (by omega)) (by omega)) ?_
  rintro hq _ ⟨e1, rfl⟩
  rw [e1]
  clear e1 hq
  show am_Rq _ 82 10 [some (.ref 2), some (.int (nI A)), some (.int (nI k)), none] [] _ _
  refine am_Rq.blk (is := [(.aload_n 0, 1)]) (q := (11, [some (.ref 2), some (.int (nI A)), some (.int (nI k)), none], [.ref 2])) (by decide +kernel) rfl ?_
  dsimp only
  refine am_Rq.getf (v := .ref 212) (show decode (am_by 82) 11 = .ok (.getfield 26, 3) by decide +kernel) rfl hO rfl ?_
  refine am_Rq.blk (is := [(.aload_n 0, 1)]) (q := (15, [some (.ref 2), some (.int (nI A)), some (.int (nI k)), none], [.ref 2, .ref 212])) (by decide +kernel) rfl ?_
  dsimp only
  refine am_Rq.getf (v := .ref 3) (show decode (am_by 82) 15 = .ok (.getfield 12, 3) by decide +kernel) rfl hO rfl ?_
  refine am_Rq.blk (is := [(.iload_n 1, 1)]) (q := (19, [some (.ref 2), some (.int (nI A)), some (.int (nI k)), none], [.int (nI A), .ref 3, .ref 212])) (by decide +kernel) rfl ?_
  dsimp only
  refine am_Rq.callV (show decode (am_by 82) 19 = .ok (.invokevirtual 137, 3) by decide +kernel) rfl [.ref 3, .int (nI A)] [] rfl rfl (Nat.le_of_ble_eq_true rfl) rfl hS.1 rfl (c_stableSet (A := A) h ok hK hT hS hA) ?_
  rintro hp1 _ ⟨rfl, hSs1, hf1⟩
  have hc1_2 := (hf1.2.2 (2) (fun q => by omega)).trans hO
  have hc1_1 := (hf1.2.2 (1) (fun q => by omega)).trans hT
  have hL1x := Led.kept h (fun a ha => hf1.2.2 a (fun q => by obtain ⟨_, _⟩ := ha; omega))
  show am_Rq _ 82 22 [some (.ref 2), some (.int (nI A)), some (.int (nI k)), none] [.int (sl_v (sl_set t A))] _ _
  rw [hs]
  have he := sl_set_lt hs
  show am_Rq _ 82 22 [some (.ref 2), some (.int (nI A)), some (.int (nI k)), none] [.int (nI e)] _ _
  refine am_Rq.blk (is := [(.istore_n 3, 1), (.iload_n 3, 1), (.iconst (-1), 1)]) (q := (25, [some (.ref 2), some (.int (nI A)), some (.int (nI k)), some (.int (nI e))], [.int (am_ic (-1)), .int (nI e)])) (by decide +kernel) rfl ?_
  dsimp only
  refine am_Rq.if2T (t := 32) (show decode (am_by 82) 25 = .ok (.if_icmp .ne 7, 3) by decide +kernel) (by decide) (c_nm1 (by omega)) ?_
  refine am_Rq.blk (is := [(.aload_n 0, 1)]) (q := (33, [some (.ref 2), some (.int (nI A)), some (.int (nI k)), some (.int (nI e))], [.ref 2])) (by decide +kernel) rfl ?_
  dsimp only
  refine am_Rq.getf (v := .ref 212) (show decode (am_by 82) 33 = .ok (.getfield 26, 3) by decide +kernel) rfl hc1_2 rfl ?_
  refine am_Rq.blk (is := [(.aload_n 0, 1)]) (q := (37, [some (.ref 2), some (.int (nI A)), some (.int (nI k)), some (.int (nI e))], [.ref 2, .ref 212])) (by decide +kernel) rfl ?_
  dsimp only
  refine am_Rq.getf (v := .ref 3) (show decode (am_by 82) 37 = .ok (.getfield 12, 3) by decide +kernel) rfl hc1_2 rfl ?_
  refine am_Rq.blk (is := [(.iload_n 3, 1), (.iload_n 2, 1)]) (q := (42, [some (.ref 2), some (.int (nI A)), some (.int (nI k)), some (.int (nI e))], [.int (nI k), .int (nI e), .ref 3, .ref 212])) (by decide +kernel) rfl ?_
  dsimp only
  refine am_Rq.callV (show decode (am_by 82) 42 = .ok (.invokevirtual 152, 3) by decide +kernel) rfl [.ref 3, .int (nI e), .int (nI k)] [] rfl rfl (Nat.le_of_ble_eq_true rfl) rfl hSs1.1 rfl (c_broughtTo hL1x ok hK hA hSs1 he hk) ?_
  rintro hp2 _ ⟨rfl, hSt2, hf2⟩
  have hc2_2 := (hf2.2.2 (2) (fun q => by omega)).trans hc1_2
  have hc2_1 := (hf2.2.2 (1) (fun q => by omega)).trans hc1_1
  have hL2x := Led.kept hL1x (fun a ha => hf2.2.2 a (fun q => by obtain ⟨_, _⟩ := ha; omega))
  show am_Rq _ 82 45 [some (.ref 2), some (.int (nI A)), some (.int (nI k)), some (.int (nI e))] [.int (nI (sl_br t A e k 5))] _ _
  refine am_Rq.ret (v := some (.int (nI (sl_br t A e k 5)))) (show decode (am_by 82) 45 = .ok (.ireturn, 1) by decide +kernel) rfl rfl ?_
  exact ⟨_, rfl, rfl, ⟨_, _, hSt2⟩, ((hf1.mono (A' := fun x => 212 ≤ x ∧ x < 238) (fun x q => by omega)).trans (hf2.mono (A' := fun x => 212 ≤ x ∧ x < 238) (fun x q => by omega)))⟩
theorem c_flip_no1 (hO : hp[2]? = some (0, [.ref 3, .ref 26, .ref 212])) {t : Nat → Nat} (h : Led hp 3 t) {K : Nat} (ok : c_ok K t) (hK : K ≤ 900) (hT : hp[1]? = some (100, am_ia (fun k => nI (sl_ord k)) 16)) {A0 : Nat} {t0 : Nat → Nat} (hS : Sal hp t0 A0) {x y : Int32} (hx : rg_r (nI 0) (nI 2000000000) x = false) : am_Rq (d + 7) 85 0 (am_en [.ref 2, .int x, .int y] 8) [] hp (c_No 0 hp) := by
  show am_Rq _ 85 0 [some (.ref 2), some (.int x), some (.int y), none, none, none, none, none] [] _ _
  have hB := ok.b (by omega)
  refine am_Rq.blk (is := [(.aload_n 0, 1), (.iload_n 1, 1)]) (q := (2, [some (.ref 2), some (.int x), some (.int y), none, none, none, none, none], [.int x, .ref 2])) (by decide +kernel) rfl ?_
  dsimp only
  exact am_Rq.callNo (show decode (am_by 85) 2 = .ok (.invokevirtual 134, 3) by decide +kernel) rfl [.int x] [] rfl rfl (Nat.le_of_ble_eq_true rfl) rfl hO rfl rfl (c_requireAmount_no (hx) (by omega)) ⟨rfl, rfl⟩
theorem c_flip_no2 (hO : hp[2]? = some (0, [.ref 3, .ref 26, .ref 212])) {t : Nat → Nat} (h : Led hp 3 t) {K : Nat} (ok : c_ok K t) (hK : K ≤ 900) (hT : hp[1]? = some (100, am_ia (fun k => nI (sl_ord k)) 16)) {A0 : Nat} {t0 : Nat → Nat} (hS : Sal hp t0 A0) {A : Nat} (hA : A ≤ 2000000000) {y : Int32} (hy : rg_r (nI 0) (nI 2000000000) y = false) : am_Rq (d + 7) 85 0 (am_en [.ref 2, .int (nI A), .int y] 8) [] hp (c_No 0 hp) := by
  show am_Rq _ 85 0 [some (.ref 2), some (.int (nI A)), some (.int y), none, none, none, none, none] [] _ _
  have hB := ok.b (by omega)
  refine am_Rq.blk (is := [(.aload_n 0, 1), (.iload_n 1, 1)]) (q := (2, [some (.ref 2), some (.int (nI A)), some (.int y), none, none, none, none, none], [.int (nI A), .ref 2])) (by decide +kernel) rfl ?_
  dsimp only
  refine am_Rq.callV (show decode (am_by 85) 2 = .ok (.invokevirtual 134, 3) by decide +kernel) rfl [.int (nI A)] [] rfl rfl (Nat.le_of_ble_eq_true rfl) rfl hO rfl (c_requireAmount ((rg_le (by omega) hA (by omega))) (by omega)) ?_
  rintro hq _ ⟨e1, rfl⟩
  rw [e1]
  clear e1 hq
  show am_Rq _ 85 5 [some (.ref 2), some (.int (nI A)), some (.int y), none, none, none, none, none] [] _ _
  refine am_Rq.blk (is := [(.aload_n 0, 1), (.iload_n 2, 1)]) (q := (7, [some (.ref 2), some (.int (nI A)), some (.int y), none, none, none, none, none], [.int y, .ref 2])) (by decide +kernel) rfl ?_
  dsimp only
  exact am_Rq.callNo (show decode (am_by 85) 7 = .ok (.invokevirtual 134, 3) by decide +kernel) rfl [.int y] [] rfl rfl (Nat.le_of_ble_eq_true rfl) rfl hO rfl rfl (c_requireAmount_no (hy) (by omega)) ⟨rfl, rfl⟩
theorem c_flip_no3 (hO : hp[2]? = some (0, [.ref 3, .ref 26, .ref 212])) {t : Nat → Nat} (h : Led hp 3 t) {K : Nat} (ok : c_ok K t) (hK : K ≤ 900) (hT : hp[1]? = some (100, am_ia (fun k => nI (sl_ord k)) 16)) {A0 : Nat} {t0 : Nat → Nat} (hS : Sal hp t0 A0) {A Z : Nat} (hA : A ≤ 2000000000) (hZ : Z ≤ 2000000000) (hge : Z ≤ A) : am_Rq (d + 7) 85 0 (am_en [.ref 2, .int (nI A), .int (nI Z)] 8) [] hp (c_No 0 hp) := by
  show am_Rq _ 85 0 [some (.ref 2), some (.int (nI A)), some (.int (nI Z)), none, none, none, none, none] [] _ _
  have hB := ok.b (by omega)
  refine am_Rq.blk (is := [(.aload_n 0, 1), (.iload_n 1, 1)]) (q := (2, [some (.ref 2), some (.int (nI A)), some (.int (nI Z)), none, none, none, none, none], [.int (nI A), .ref 2])) (by decide +kernel) rfl ?_
  dsimp only
  refine am_Rq.callV (show decode (am_by 85) 2 = .ok (.invokevirtual 134, 3) by decide +kernel) rfl [.int (nI A)] [] rfl rfl (Nat.le_of_ble_eq_true rfl) rfl hO rfl (c_requireAmount ((rg_le (by omega) hA (by omega))) (by omega)) ?_
  rintro hq _ ⟨e1, rfl⟩
  rw [e1]
  clear e1 hq
  show am_Rq _ 85 5 [some (.ref 2), some (.int (nI A)), some (.int (nI Z)), none, none, none, none, none] [] _ _
  refine am_Rq.blk (is := [(.aload_n 0, 1), (.iload_n 2, 1)]) (q := (7, [some (.ref 2), some (.int (nI A)), some (.int (nI Z)), none, none, none, none, none], [.int (nI Z), .ref 2])) (by decide +kernel) rfl ?_
  dsimp only
  refine am_Rq.callV (show decode (am_by 85) 7 = .ok (.invokevirtual 134, 3) by decide +kernel) rfl [.int (nI Z)] [] rfl rfl (Nat.le_of_ble_eq_true rfl) rfl hO rfl (c_requireAmount ((rg_le (by omega) hZ (by omega))) (by omega)) ?_
  rintro hq _ ⟨e1, rfl⟩
  rw [e1]
  clear e1 hq
  show am_Rq _ 85 10 [some (.ref 2), some (.int (nI A)), some (.int (nI Z)), none, none, none, none, none] [] _ _
  refine am_Rq.blk (is := [(.iload_n 1, 1), (.iload_n 2, 1)]) (q := (12, [some (.ref 2), some (.int (nI A)), some (.int (nI Z)), none, none, none, none, none], [.int (nI Z), .int (nI A)])) (by decide +kernel) rfl ?_
  dsimp only
  refine am_Rq.if2F (show decode (am_by 85) 12 = .ok (.if_icmp .lt 11, 3) by decide +kernel) (by decide) (by rw [nm_lt (by omega) (by omega)]; exact decide_eq_false (by omega)) ?_
  refine am_Rq.thrN (k := 0) (ic := 36) (show decode (am_by 85) 15 = .ok (.new 34, 3) by decide +kernel) rfl (by omega) rfl (show decode (am_by 85) 18 = .ok (.dup, 1) by decide +kernel) (show decode (am_by 85) 19 = .ok (.invokespecial 36, 3) by decide +kernel) (show decode (am_by 85) 22 = .ok (.athrow, 1) by decide +kernel) ?_
  exact ⟨rfl, rfl⟩
theorem c_flip1 (hO : hp[2]? = some (0, [.ref 3, .ref 26, .ref 212])) {t : Nat → Nat} (h : Led hp 3 t) {K : Nat} (ok : c_ok K t) (hK : K ≤ 900) (hT : hp[1]? = some (100, am_ia (fun k => nI (sl_ord k)) 16)) {A0 : Nat} {t0 : Nat → Nat} (hS : Sal hp t0 A0) {A Z : Nat} (hA : A ≤ 2000000000) (hZ : Z ≤ 2000000000) (hlt : A < Z) (hs : sl_set t Z = sl_set t A) : am_Rq (d + 7) 85 0 (am_en [.ref 2, .int (nI A), .int (nI Z)] 8) [] hp (am_Ret fun hp1 v => v = some (.int (am_ic (-1))) ∧ (∃ t1 A1, Sal hp1 t1 A1) ∧ am_fr (fun x => 212 ≤ x ∧ x < 238) hp hp1) := by
  show am_Rq _ 85 0 [some (.ref 2), some (.int (nI A)), some (.int (nI Z)), none, none, none, none, none] [] _ _
  have hB := ok.b (by omega)
  refine am_Rq.blk (is := [(.aload_n 0, 1), (.iload_n 1, 1)]) (q := (2, [some (.ref 2), some (.int (nI A)), some (.int (nI Z)), none, none, none, none, none], [.int (nI A), .ref 2])) (by decide +kernel) rfl ?_
  dsimp only
  refine am_Rq.callV (show decode (am_by 85) 2 = .ok (.invokevirtual 134, 3) by decide +kernel) rfl [.int (nI A)] [] rfl rfl (Nat.le_of_ble_eq_true rfl) rfl hO rfl (c_requireAmount ((rg_le (by omega) hA (by omega))) (by omega)) ?_
  rintro hq _ ⟨e1, rfl⟩
  rw [e1]
  clear e1 hq
  show am_Rq _ 85 5 [some (.ref 2), some (.int (nI A)), some (.int (nI Z)), none, none, none, none, none] [] _ _
  refine am_Rq.blk (is := [(.aload_n 0, 1), (.iload_n 2, 1)]) (q := (7, [some (.ref 2), some (.int (nI A)), some (.int (nI Z)), none, none, none, none, none], [.int (nI Z), .ref 2])) (by decide +kernel) rfl ?_
  dsimp only
  refine am_Rq.callV (show decode (am_by 85) 7 = .ok (.invokevirtual 134, 3) by decide +kernel) rfl [.int (nI Z)] [] rfl rfl (Nat.le_of_ble_eq_true rfl) rfl hO rfl (c_requireAmount ((rg_le (by omega) hZ (by omega))) (by omega)) ?_
  rintro hq _ ⟨e1, rfl⟩
  rw [e1]
  clear e1 hq
  show am_Rq _ 85 10 [some (.ref 2), some (.int (nI A)), some (.int (nI Z)), none, none, none, none, none] [] _ _
  refine am_Rq.blk (is := [(.iload_n 1, 1), (.iload_n 2, 1)]) (q := (12, [some (.ref 2), some (.int (nI A)), some (.int (nI Z)), none, none, none, none, none], [.int (nI Z), .int (nI A)])) (by decide +kernel) rfl ?_
  dsimp only
  refine am_Rq.if2T (t := 23) (show decode (am_by 85) 12 = .ok (.if_icmp .lt 11, 3) by decide +kernel) (by decide) (by rw [nm_lt (by omega) (by omega)]; exact decide_eq_true (by omega)) ?_
  refine am_Rq.blk (is := [(.aload_n 0, 1)]) (q := (24, [some (.ref 2), some (.int (nI A)), some (.int (nI Z)), none, none, none, none, none], [.ref 2])) (by decide +kernel) rfl ?_
  dsimp only
  refine am_Rq.getf (v := .ref 212) (show decode (am_by 85) 24 = .ok (.getfield 26, 3) by decide +kernel) rfl hO rfl ?_
  refine am_Rq.blk (is := [(.aload_n 0, 1)]) (q := (28, [some (.ref 2), some (.int (nI A)), some (.int (nI Z)), none, none, none, none, none], [.ref 2, .ref 212])) (by decide +kernel) rfl ?_
  dsimp only
  refine am_Rq.getf (v := .ref 3) (show decode (am_by 85) 28 = .ok (.getfield 12, 3) by decide +kernel) rfl hO rfl ?_
  refine am_Rq.blk (is := [(.iload_n 1, 1)]) (q := (32, [some (.ref 2), some (.int (nI A)), some (.int (nI Z)), none, none, none, none, none], [.int (nI A), .ref 3, .ref 212])) (by decide +kernel) rfl ?_
  dsimp only
  refine am_Rq.callV (show decode (am_by 85) 32 = .ok (.invokevirtual 137, 3) by decide +kernel) rfl [.ref 3, .int (nI A)] [] rfl rfl (Nat.le_of_ble_eq_true rfl) rfl hS.1 rfl (c_stableSet (A := A) h ok hK hT hS hA) ?_
  rintro hp1 _ ⟨rfl, hSs1, hf1⟩
  have hc1_2 := (hf1.2.2 (2) (fun q => by omega)).trans hO
  have hc1_1 := (hf1.2.2 (1) (fun q => by omega)).trans hT
  have hL1x := Led.kept h (fun a ha => hf1.2.2 a (fun q => by obtain ⟨_, _⟩ := ha; omega))
  show am_Rq _ 85 35 [some (.ref 2), some (.int (nI A)), some (.int (nI Z)), none, none, none, none, none] [.int (sl_v (sl_set t A))] _ _
  refine am_Rq.blk (is := [(.istore_n 3, 1), (.iload_n 3, 1), (.aload_n 0, 1)]) (q := (38, [some (.ref 2), some (.int (nI A)), some (.int (nI Z)), some (.int (sl_v (sl_set t A))), none, none, none, none], [.ref 2, .int (sl_v (sl_set t A))])) (by decide +kernel) rfl ?_
  dsimp only
  refine am_Rq.getf (v := .ref 212) (show decode (am_by 85) 38 = .ok (.getfield 26, 3) by decide +kernel) rfl hc1_2 rfl ?_
  refine am_Rq.blk (is := [(.aload_n 0, 1)]) (q := (42, [some (.ref 2), some (.int (nI A)), some (.int (nI Z)), some (.int (sl_v (sl_set t A))), none, none, none, none], [.ref 2, .ref 212, .int (sl_v (sl_set t A))])) (by decide +kernel) rfl ?_
  dsimp only
  refine am_Rq.getf (v := .ref 3) (show decode (am_by 85) 42 = .ok (.getfield 12, 3) by decide +kernel) rfl hc1_2 rfl ?_
  refine am_Rq.blk (is := [(.iload_n 2, 1)]) (q := (46, [some (.ref 2), some (.int (nI A)), some (.int (nI Z)), some (.int (sl_v (sl_set t A))), none, none, none, none], [.int (nI Z), .ref 3, .ref 212, .int (sl_v (sl_set t A))])) (by decide +kernel) rfl ?_
  dsimp only
  refine am_Rq.callV (show decode (am_by 85) 46 = .ok (.invokevirtual 137, 3) by decide +kernel) rfl [.ref 3, .int (nI Z)] [.int (sl_v (sl_set t A))] rfl rfl (Nat.le_of_ble_eq_true rfl) rfl hSs1.1 rfl (c_stableSet (A := Z) hL1x ok hK hc1_1 hSs1 hZ) ?_
  rintro hp2 _ ⟨rfl, hSs2, hf2⟩
  have hc2_2 := (hf2.2.2 (2) (fun q => by omega)).trans hc1_2
  have hc2_1 := (hf2.2.2 (1) (fun q => by omega)).trans hc1_1
  have hL2x := Led.kept hL1x (fun a ha => hf2.2.2 a (fun q => by obtain ⟨_, _⟩ := ha; omega))
  show am_Rq _ 85 49 [some (.ref 2), some (.int (nI A)), some (.int (nI Z)), some (.int (sl_v (sl_set t A))), none, none, none, none] [.int (sl_v (sl_set t Z)), .int (sl_v (sl_set t A))] _ _
  refine am_Rq.if2F (show decode (am_by 85) 49 = .ok (.if_icmp .ne 5, 3) by decide +kernel) (by decide) (by rw [hs]; exact decide_eq_false (fun q => q rfl)) ?_
  refine am_Rq.blk (is := [(.iconst (-1), 1)]) (q := (53, [some (.ref 2), some (.int (nI A)), some (.int (nI Z)), some (.int (sl_v (sl_set t A))), none, none, none, none], [.int (am_ic (-1))])) (by decide +kernel) rfl ?_
  dsimp only
  refine am_Rq.ret (v := some (.int (am_ic (-1)))) (show decode (am_by 85) 53 = .ok (.ireturn, 1) by decide +kernel) rfl rfl ?_
  exact ⟨_, rfl, rfl, ⟨_, _, hSs2⟩, ((hf1.mono (A' := fun x => 212 ≤ x ∧ x < 238) (fun x q => by omega)).trans (hf2.mono (A' := fun x => 212 ≤ x ∧ x < 238) (fun x q => by omega)))⟩
theorem c_flip2 (hO : hp[2]? = some (0, [.ref 3, .ref 26, .ref 212])) {t : Nat → Nat} (h : Led hp 3 t) {K : Nat} (ok : c_ok K t) (hK : K ≤ 900) (hT : hp[1]? = some (100, am_ia (fun k => nI (sl_ord k)) 16)) {A0 : Nat} {t0 : Nat → Nat} (hS : Sal hp t0 A0) {A Z : Nat} (hA : A ≤ 2000000000) (hZ : Z ≤ 2000000000) (hlt : A < Z) (hs : sl_set t Z ≠ sl_set t A) : am_Rq (d + 7) 85 0 (am_en [.ref 2, .int (nI A), .int (nI Z)] 8) [] hp (am_Ret fun hp1 v => v = some (.int (nI (sl_fl (fun m => decide (sl_set t m = sl_set t A)) 64 A Z))) ∧ (∃ t1 A1, Sal hp1 t1 A1) ∧ am_fr (fun x => 212 ≤ x ∧ x < 238) hp hp1) := by
  show am_Rq _ 85 0 [some (.ref 2), some (.int (nI A)), some (.int (nI Z)), none, none, none, none, none] [] _ _
  have hB := ok.b (by omega)
  refine am_Rq.blk (is := [(.aload_n 0, 1), (.iload_n 1, 1)]) (q := (2, [some (.ref 2), some (.int (nI A)), some (.int (nI Z)), none, none, none, none, none], [.int (nI A), .ref 2])) (by decide +kernel) rfl ?_
  dsimp only
  refine am_Rq.callV (show decode (am_by 85) 2 = .ok (.invokevirtual 134, 3) by decide +kernel) rfl [.int (nI A)] [] rfl rfl (Nat.le_of_ble_eq_true rfl) rfl hO rfl (c_requireAmount ((rg_le (by omega) hA (by omega))) (by omega)) ?_
  rintro hq _ ⟨e1, rfl⟩
  rw [e1]
  clear e1 hq
  show am_Rq _ 85 5 [some (.ref 2), some (.int (nI A)), some (.int (nI Z)), none, none, none, none, none] [] _ _
  refine am_Rq.blk (is := [(.aload_n 0, 1), (.iload_n 2, 1)]) (q := (7, [some (.ref 2), some (.int (nI A)), some (.int (nI Z)), none, none, none, none, none], [.int (nI Z), .ref 2])) (by decide +kernel) rfl ?_
  dsimp only
  refine am_Rq.callV (show decode (am_by 85) 7 = .ok (.invokevirtual 134, 3) by decide +kernel) rfl [.int (nI Z)] [] rfl rfl (Nat.le_of_ble_eq_true rfl) rfl hO rfl (c_requireAmount ((rg_le (by omega) hZ (by omega))) (by omega)) ?_
  rintro hq _ ⟨e1, rfl⟩
  rw [e1]
  clear e1 hq
  show am_Rq _ 85 10 [some (.ref 2), some (.int (nI A)), some (.int (nI Z)), none, none, none, none, none] [] _ _
  refine am_Rq.blk (is := [(.iload_n 1, 1), (.iload_n 2, 1)]) (q := (12, [some (.ref 2), some (.int (nI A)), some (.int (nI Z)), none, none, none, none, none], [.int (nI Z), .int (nI A)])) (by decide +kernel) rfl ?_
  dsimp only
  refine am_Rq.if2T (t := 23) (show decode (am_by 85) 12 = .ok (.if_icmp .lt 11, 3) by decide +kernel) (by decide) (by rw [nm_lt (by omega) (by omega)]; exact decide_eq_true (by omega)) ?_
  refine am_Rq.blk (is := [(.aload_n 0, 1)]) (q := (24, [some (.ref 2), some (.int (nI A)), some (.int (nI Z)), none, none, none, none, none], [.ref 2])) (by decide +kernel) rfl ?_
  dsimp only
  refine am_Rq.getf (v := .ref 212) (show decode (am_by 85) 24 = .ok (.getfield 26, 3) by decide +kernel) rfl hO rfl ?_
  refine am_Rq.blk (is := [(.aload_n 0, 1)]) (q := (28, [some (.ref 2), some (.int (nI A)), some (.int (nI Z)), none, none, none, none, none], [.ref 2, .ref 212])) (by decide +kernel) rfl ?_
  dsimp only
  refine am_Rq.getf (v := .ref 3) (show decode (am_by 85) 28 = .ok (.getfield 12, 3) by decide +kernel) rfl hO rfl ?_
  refine am_Rq.blk (is := [(.iload_n 1, 1)]) (q := (32, [some (.ref 2), some (.int (nI A)), some (.int (nI Z)), none, none, none, none, none], [.int (nI A), .ref 3, .ref 212])) (by decide +kernel) rfl ?_
  dsimp only
  refine am_Rq.callV (show decode (am_by 85) 32 = .ok (.invokevirtual 137, 3) by decide +kernel) rfl [.ref 3, .int (nI A)] [] rfl rfl (Nat.le_of_ble_eq_true rfl) rfl hS.1 rfl (c_stableSet (A := A) h ok hK hT hS hA) ?_
  rintro hp1 _ ⟨rfl, hSs1, hf1⟩
  have hc1_2 := (hf1.2.2 (2) (fun q => by omega)).trans hO
  have hc1_1 := (hf1.2.2 (1) (fun q => by omega)).trans hT
  have hL1x := Led.kept h (fun a ha => hf1.2.2 a (fun q => by obtain ⟨_, _⟩ := ha; omega))
  show am_Rq _ 85 35 [some (.ref 2), some (.int (nI A)), some (.int (nI Z)), none, none, none, none, none] [.int (sl_v (sl_set t A))] _ _
  refine am_Rq.blk (is := [(.istore_n 3, 1), (.iload_n 3, 1), (.aload_n 0, 1)]) (q := (38, [some (.ref 2), some (.int (nI A)), some (.int (nI Z)), some (.int (sl_v (sl_set t A))), none, none, none, none], [.ref 2, .int (sl_v (sl_set t A))])) (by decide +kernel) rfl ?_
  dsimp only
  refine am_Rq.getf (v := .ref 212) (show decode (am_by 85) 38 = .ok (.getfield 26, 3) by decide +kernel) rfl hc1_2 rfl ?_
  refine am_Rq.blk (is := [(.aload_n 0, 1)]) (q := (42, [some (.ref 2), some (.int (nI A)), some (.int (nI Z)), some (.int (sl_v (sl_set t A))), none, none, none, none], [.ref 2, .ref 212, .int (sl_v (sl_set t A))])) (by decide +kernel) rfl ?_
  dsimp only
  refine am_Rq.getf (v := .ref 3) (show decode (am_by 85) 42 = .ok (.getfield 12, 3) by decide +kernel) rfl hc1_2 rfl ?_
  refine am_Rq.blk (is := [(.iload_n 2, 1)]) (q := (46, [some (.ref 2), some (.int (nI A)), some (.int (nI Z)), some (.int (sl_v (sl_set t A))), none, none, none, none], [.int (nI Z), .ref 3, .ref 212, .int (sl_v (sl_set t A))])) (by decide +kernel) rfl ?_
  dsimp only
  refine am_Rq.callV (show decode (am_by 85) 46 = .ok (.invokevirtual 137, 3) by decide +kernel) rfl [.ref 3, .int (nI Z)] [.int (sl_v (sl_set t A))] rfl rfl (Nat.le_of_ble_eq_true rfl) rfl hSs1.1 rfl (c_stableSet (A := Z) hL1x ok hK hc1_1 hSs1 hZ) ?_
  rintro hp2 _ ⟨rfl, hSs2, hf2⟩
  have hc2_2 := (hf2.2.2 (2) (fun q => by omega)).trans hc1_2
  have hc2_1 := (hf2.2.2 (1) (fun q => by omega)).trans hc1_1
  have hL2x := Led.kept hL1x (fun a ha => hf2.2.2 a (fun q => by obtain ⟨_, _⟩ := ha; omega))
  show am_Rq _ 85 49 [some (.ref 2), some (.int (nI A)), some (.int (nI Z)), some (.int (sl_v (sl_set t A))), none, none, none, none] [.int (sl_v (sl_set t Z)), .int (sl_v (sl_set t A))] _ _
  refine am_Rq.if2T (t := 54) (show decode (am_by 85) 49 = .ok (.if_icmp .ne 5, 3) by decide +kernel) (by decide) (decide_eq_true (fun q => hs (sl_v_inj q.symm))) ?_
  refine am_Rq.blk (is := [(.iload_n 1, 1), (.istore 4, 2), (.iload_n 2, 1), (.istore 5, 2), (.iconst 0, 1), (.istore 6, 2)]) (q := (63, [some (.ref 2), some (.int (nI A)), some (.int (nI Z)), some (.int (sl_v (sl_set t A))), some (.int (nI A)), some (.int (nI Z)), some (.int (nI 0)), none], [])) (by decide +kernel) rfl ?_
  dsimp only
  have hfA : am_fr (fun x => 212 ≤ x ∧ x < 238) hp _ := ((hf1.mono (A' := fun x => 212 ≤ x ∧ x < 238) (fun x q => by omega)).trans (hf2.mono (A' := fun x => 212 ≤ x ∧ x < 238) (fun x q => by omega)))
  obtain ⟨hp0, hpe⟩ : ∃ x, x = hp := ⟨_, rfl⟩
  rw [← hpe] at hfA ⊢
  refine am_for (n := 64) (fun i lo hp => ∃ (z7 : Option Value) (a b A1 : Nat), lo = [some (.ref 2), some (.int (nI A)), some (.int (nI Z)), some (.int (sl_v (sl_set t A))), some (.int (nI a)), some (.int (nI b)), some (.int (nI i)), z7] ∧ a ≤ b ∧ b ≤ 2000000000 ∧ sl_fl (fun m => decide (sl_set t m = sl_set t A)) (64 - i) a b = sl_fl (fun m => decide (sl_set t m = sl_set t A)) 64 A Z ∧ hp[2]? = some (0, [.ref 3, .ref 26, .ref 212]) ∧ hp[1]? = some (100, am_ia (fun k => nI (sl_ord k)) 16) ∧ Sal hp t A1 ∧ Led hp 3 t ∧ am_fr (fun x => 212 ≤ x ∧ x < 238) hp0 hp) ?_ ?_ (i := 0) (by omega) ⟨_, A, Z, _, rfl, by omega, hZ, rfl, hc2_2, hc2_1, hSs2, hL2x, hfA⟩
  · rintro i lo hp hi ⟨z7, a, b, A1, rfl, hab, hb9, hfl, hO, hT, hS1, hL1, hfb⟩ ih
    refine am_Rq.blk (is := [(.iload 6, 2), (.bipush 64, 2)]) (q := (67, [some (.ref 2), some (.int (nI A)), some (.int (nI Z)), some (.int (sl_v (sl_set t A))), some (.int (nI a)), some (.int (nI b)), some (.int (nI i)), z7], [.int (nI 64), .int (nI i)])) (by decide +kernel) rfl ?_
    dsimp only
    refine am_Rq.if2F (show decode (am_by 85) 67 = .ok (.if_icmp .ge 58, 3) by decide +kernel) (by decide) (by rw [nm_ge (by omega) (by omega)]; exact decide_eq_false (by omega)) ?_
    refine am_Rq.blk (is := [(.iload 5, 2), (.iload 4, 2), (.isub, 1)]) (q := (75, [some (.ref 2), some (.int (nI A)), some (.int (nI Z)), some (.int (sl_v (sl_set t A))), some (.int (nI a)), some (.int (nI b)), some (.int (nI i)), z7], [.int ((nI b) - (nI a))])) (by decide +kernel) rfl ?_
    dsimp only
    rw [show (nI b) - (nI a) = nI (b - a) from nm_isub (by omega)]
    refine am_Rq.blk (is := [(.iconst 1, 1)]) (q := (76, [some (.ref 2), some (.int (nI A)), some (.int (nI Z)), some (.int (sl_v (sl_set t A))), some (.int (nI a)), some (.int (nI b)), some (.int (nI i)), z7], [.int (nI 1), .int (nI (b - a))])) (by decide +kernel) rfl ?_
    dsimp only
    refine am_Rq.if2 (t := 125) (show decode (am_by 85) 76 = .ok (.if_icmp .le 49, 3) by decide +kernel) (by decide) (fun hle => ?_) (fun hle => ?_)
    ·
      rw [nm_le (by omega) (by omega)] at hle
      have hle := of_decide_eq_true hle
      refine am_Rq.blk (is := [(.iload 5, 2)]) (q := (127, [some (.ref 2), some (.int (nI A)), some (.int (nI Z)), some (.int (sl_v (sl_set t A))), some (.int (nI a)), some (.int (nI b)), some (.int (nI i)), z7], [.int (nI b)])) (by decide +kernel) rfl ?_
      dsimp only
      refine am_Rq.ret (v := some (.int (nI b))) (show decode (am_by 85) 127 = .ok (.ireturn, 1) by decide +kernel) rfl rfl ?_
      subst hpe
      rw [← hfl, sl_fl_end (by omega)]
      exact ⟨_, rfl, rfl, ⟨_, _, hS1⟩, hfb⟩
    ·
      rw [nm_le (by omega) (by omega)] at hle
      have hle := of_decide_eq_false hle
      refine am_Rq.blk (is := [(.iload 4, 2), (.iload 5, 2), (.iload 4, 2), (.isub, 1)]) (q := (86, [some (.ref 2), some (.int (nI A)), some (.int (nI Z)), some (.int (sl_v (sl_set t A))), some (.int (nI a)), some (.int (nI b)), some (.int (nI i)), z7], [.int ((nI b) - (nI a)), .int (nI a)])) (by decide +kernel) rfl ?_
      dsimp only
      rw [show (nI b) - (nI a) = nI (b - a) from nm_isub (by omega)]
      refine am_Rq.blk (is := [(.iconst 2, 1)]) (q := (87, [some (.ref 2), some (.int (nI A)), some (.int (nI Z)), some (.int (sl_v (sl_set t A))), some (.int (nI a)), some (.int (nI b)), some (.int (nI i)), z7], [.int (nI 2), .int (nI (b - a)), .int (nI a)])) (by decide +kernel) rfl ?_
      dsimp only
      refine am_Rq.idivN (a := b - a) (b := 2) (show decode (am_by 85) 87 = .ok (.idiv, 1) by decide +kernel) (by omega) (by omega) (by omega) ?_
      refine am_Rq.blk (is := [(.iadd, 1)]) (q := (89, [some (.ref 2), some (.int (nI A)), some (.int (nI Z)), some (.int (sl_v (sl_set t A))), some (.int (nI a)), some (.int (nI b)), some (.int (nI i)), z7], [.int ((nI a) + (nI ((b - a) / 2)))])) (by decide +kernel) rfl ?_
      dsimp only
      rw [show (nI a) + (nI ((b - a) / 2)) = nI (a + ((b - a) / 2)) from nI_add _ _]
      refine am_Rq.blk (is := [(.istore 7, 2), (.aload_n 0, 1)]) (q := (92, [some (.ref 2), some (.int (nI A)), some (.int (nI Z)), some (.int (sl_v (sl_set t A))), some (.int (nI a)), some (.int (nI b)), some (.int (nI i)), some (.int (nI (a + ((b - a) / 2))))], [.ref 2])) (by decide +kernel) rfl ?_
      dsimp only
      refine am_Rq.getf (v := .ref 212) (show decode (am_by 85) 92 = .ok (.getfield 26, 3) by decide +kernel) rfl hO rfl ?_
      refine am_Rq.blk (is := [(.aload_n 0, 1)]) (q := (96, [some (.ref 2), some (.int (nI A)), some (.int (nI Z)), some (.int (sl_v (sl_set t A))), some (.int (nI a)), some (.int (nI b)), some (.int (nI i)), some (.int (nI (a + ((b - a) / 2))))], [.ref 2, .ref 212])) (by decide +kernel) rfl ?_
      dsimp only
      refine am_Rq.getf (v := .ref 3) (show decode (am_by 85) 96 = .ok (.getfield 12, 3) by decide +kernel) rfl hO rfl ?_
      refine am_Rq.blk (is := [(.iload 7, 2)]) (q := (101, [some (.ref 2), some (.int (nI A)), some (.int (nI Z)), some (.int (sl_v (sl_set t A))), some (.int (nI a)), some (.int (nI b)), some (.int (nI i)), some (.int (nI (a + ((b - a) / 2))))], [.int (nI (a + ((b - a) / 2))), .ref 3, .ref 212])) (by decide +kernel) rfl ?_
      dsimp only
      have e1 : 64 - i = (64 - (i + 1)) + 1 := by omega
      rw [e1, sl_fl_step (n := 64 - (i + 1)) (a := a) (b := b), if_neg (by omega)] at hfl
      refine am_Rq.callV (show decode (am_by 85) 101 = .ok (.invokevirtual 137, 3) by decide +kernel) rfl [.ref 3, .int (nI (a + ((b - a) / 2)))] [] rfl rfl (Nat.le_of_ble_eq_true rfl) rfl hS1.1 rfl (c_stableSet (A := a + (b - a) / 2) hL1 ok hK hT hS1 (by omega)) ?_
      rintro hp3 _ ⟨rfl, hSs3, hf3⟩
      have hc3_2 := (hf3.2.2 (2) (fun q => by omega)).trans hO
      have hc3_1 := (hf3.2.2 (1) (fun q => by omega)).trans hT
      have hL3x := Led.kept hL1 (fun a ha => hf3.2.2 a (fun q => by obtain ⟨_, _⟩ := ha; omega))
      show am_Rq _ 85 104 [some (.ref 2), some (.int (nI A)), some (.int (nI Z)), some (.int (sl_v (sl_set t A))), some (.int (nI a)), some (.int (nI b)), some (.int (nI i)), some (.int (nI (a + ((b - a) / 2))))] [.int (sl_v (sl_set t (a + (b - a) / 2)))] _ _
      refine am_Rq.blk (is := [(.iload_n 3, 1)]) (q := (105, [some (.ref 2), some (.int (nI A)), some (.int (nI Z)), some (.int (sl_v (sl_set t A))), some (.int (nI a)), some (.int (nI b)), some (.int (nI i)), some (.int (nI (a + ((b - a) / 2))))], [.int (sl_v (sl_set t A)), .int (sl_v (sl_set t (a + (b - a) / 2)))])) (by decide +kernel) rfl ?_
      dsimp only
      refine am_Rq.if2 (t := 115) (show decode (am_by 85) 105 = .ok (.if_icmp .ne 10, 3) by decide +kernel) (by decide) (fun hq => ?_) (fun hq => ?_)
      ·
        have hq := of_decide_eq_true hq
        rw [if_neg (by rw [decide_eq_true_eq]; exact fun z => hq (congrArg sl_v z))] at hfl
        refine am_Rq.blk (is := [(.iload 7, 2), (.istore 5, 2), (.iinc 6 1, 3)]) (q := (122, [some (.ref 2), some (.int (nI A)), some (.int (nI Z)), some (.int (sl_v (sl_set t A))), some (.int (nI a)), some (.int (nI (a + ((b - a) / 2)))), some (.int ((nI i) + (nI 1))), some (.int (nI (a + ((b - a) / 2))))], [])) (by decide +kernel) rfl ?_
        dsimp only
        rw [show (nI i) + (nI 1) = nI (i + 1) from nI_add _ _]
        refine am_Rq.blk (is := [(.goto (-59), 3)]) (q := (63, [some (.ref 2), some (.int (nI A)), some (.int (nI Z)), some (.int (sl_v (sl_set t A))), some (.int (nI a)), some (.int (nI (a + ((b - a) / 2)))), some (.int (nI (i + 1))), some (.int (nI (a + ((b - a) / 2))))], [])) (by decide +kernel) rfl ?_
        dsimp only
        exact ih _ _ ⟨_, a, a + (b - a) / 2, _, rfl, by omega, by omega, hfl, hc3_2, hc3_1, hSs3, hL3x, (hfb.trans (hf3.mono (A' := fun x => 212 ≤ x ∧ x < 238) (fun x q => by omega)))⟩
      ·
        have hq := Decidable.of_not_not (of_decide_eq_false hq)
        rw [if_pos (decide_eq_true (sl_v_inj hq))] at hfl
        refine am_Rq.blk (is := [(.iload 7, 2), (.istore 4, 2), (.goto 7, 3)]) (q := (119, [some (.ref 2), some (.int (nI A)), some (.int (nI Z)), some (.int (sl_v (sl_set t A))), some (.int (nI (a + ((b - a) / 2)))), some (.int (nI b)), some (.int (nI i)), some (.int (nI (a + ((b - a) / 2))))], [])) (by decide +kernel) rfl ?_
        dsimp only
        refine am_Rq.blk (is := [(.iinc 6 1, 3)]) (q := (122, [some (.ref 2), some (.int (nI A)), some (.int (nI Z)), some (.int (sl_v (sl_set t A))), some (.int (nI (a + ((b - a) / 2)))), some (.int (nI b)), some (.int ((nI i) + (nI 1))), some (.int (nI (a + ((b - a) / 2))))], [])) (by decide +kernel) rfl ?_
        dsimp only
        rw [show (nI i) + (nI 1) = nI (i + 1) from nI_add _ _]
        refine am_Rq.blk (is := [(.goto (-59), 3)]) (q := (63, [some (.ref 2), some (.int (nI A)), some (.int (nI Z)), some (.int (sl_v (sl_set t A))), some (.int (nI (a + ((b - a) / 2)))), some (.int (nI b)), some (.int (nI (i + 1))), some (.int (nI (a + ((b - a) / 2))))], [])) (by decide +kernel) rfl ?_
        dsimp only
        exact ih _ _ ⟨_, a + (b - a) / 2, b, _, rfl, by omega, by omega, hfl, hc3_2, hc3_1, hSs3, hL3x, (hfb.trans (hf3.mono (A' := fun x => 212 ≤ x ∧ x < 238) (fun x q => by omega)))⟩
  · rintro lo hp ⟨z7, a, b, A1, rfl, hab, hb9, hfl, hO, hT, hS1, hL1, hfb⟩
    refine am_Rq.blk (is := [(.iload 6, 2), (.bipush 64, 2)]) (q := (67, [some (.ref 2), some (.int (nI A)), some (.int (nI Z)), some (.int (sl_v (sl_set t A))), some (.int (nI a)), some (.int (nI b)), some (.int (nI 64)), z7], [.int (nI 64), .int (nI 64)])) (by decide +kernel) rfl ?_
    dsimp only
    refine am_Rq.if2T (t := 125) (show decode (am_by 85) 67 = .ok (.if_icmp .ge 58, 3) by decide +kernel) (by decide) (by rw [nm_ge (by omega) (by omega)]; exact decide_eq_true (by omega)) ?_
    refine am_Rq.blk (is := [(.iload 5, 2)]) (q := (127, [some (.ref 2), some (.int (nI A)), some (.int (nI Z)), some (.int (sl_v (sl_set t A))), some (.int (nI a)), some (.int (nI b)), some (.int (nI 64)), z7], [.int (nI b)])) (by decide +kernel) rfl ?_
    dsimp only
    refine am_Rq.ret (v := some (.int (nI b))) (show decode (am_by 85) 127 = .ok (.ireturn, 1) by decide +kernel) rfl rfl ?_
    subst hpe
    rw [← hfl]
    exact ⟨_, rfl, rfl, ⟨_, _, hS1⟩, hfb⟩
end C18
