/-! The reference: refusals, what has vested (rows by prog/m2.py). -/
/-- the number of the refusal -/
def m_rf (p q r : Bool) : Nat := match p, q, r with
  | true, _, _ => 1
  | false, true, _ => 2
  | false, false, true => 3
  | false, false, false => 0
def m_ob (th kn co : Nat) : List Value := [.int (nI th), .ref 239, .ref 240, .int (nI kn), .ref 241, .ref 242, .ref 243, .ref 244, .long (lN co), .ref 245]
section M2
variable {d : Nat} {hp : am_H}
theorem m_refused {th kn co : Nat} (hM : hp[238]? = some (7, [.int (nI th), .ref 239, .ref 240, .int (nI kn), .ref 241, .ref 242, .ref 243, .ref 244, .long (lN co), .ref 245])) (p q r : Bool) : am_Rq d 93 0 (am_en [.ref 238, .int (nI (am_b p)), .int (nI (am_b q)), .int (nI (am_b r))] 4) [] hp (am_Ret fun hp1 v => hp1 = hp.set 238 (7, m_ob (m_rf p q r) kn co) ∧ v = some (.int (nI (am_b (decide (0 < m_rf p q r)))))) := by
  show am_Rq _ 93 0 [some (.ref 238), some (.int (nI (am_b p))), some (.int (nI (am_b q))), some (.int (nI (am_b r)))] [] _ _
  refine am_Rq.blk (is := [(.aload_n 0, 1), (.iload_n 1, 1)]) (q := (2, [some (.ref 238), some (.int (nI (am_b p))), some (.int (nI (am_b q))), some (.int (nI (am_b r)))], [.int (nI (am_b p)), .ref 238])) (by decide +kernel) rfl ?_
  dsimp only
  refine am_Rq.if1 (t := 9) (show decode (am_by 93) 2 = .ok (.ifCond .eq 7, 3) by decide +kernel) (by decide) (fun hp => ?_) (fun hp => ?_)
  ·
    rw [am_b_eq] at hp
    have hp : p = false := by cases p <;> first | rfl | cases hp
    subst hp
    refine am_Rq.blk (is := [(.iload_n 2, 1)]) (q := (10, [some (.ref 238), some (.int (nI (am_b false))), some (.int (nI (am_b q))), some (.int (nI (am_b r)))], [.int (nI (am_b q)), .ref 238])) (by decide +kernel) rfl ?_
    dsimp only
    refine am_Rq.if1 (t := 17) (show decode (am_by 93) 10 = .ok (.ifCond .eq 7, 3) by decide +kernel) (by decide) (fun hq => ?_) (fun hq => ?_)
    ·
      rw [am_b_eq] at hq
      have hq : q = false := by cases q <;> first | rfl | cases hq
      subst hq
      refine am_Rq.blk (is := [(.iload_n 3, 1)]) (q := (18, [some (.ref 238), some (.int (nI (am_b false))), some (.int (nI (am_b false))), some (.int (nI (am_b r)))], [.int (nI (am_b r)), .ref 238])) (by decide +kernel) rfl ?_
      dsimp only
      refine am_Rq.if1 (t := 25) (show decode (am_by 93) 18 = .ok (.ifCond .eq 7, 3) by decide +kernel) (by decide) (fun hr => ?_) (fun hr => ?_)
      ·
        rw [am_b_eq] at hr
        have hr : r = false := by cases r <;> first | rfl | cases hr
        subst hr
        refine am_Rq.blk (is := [(.iconst 0, 1)]) (q := (26, [some (.ref 238), some (.int (nI (am_b false))), some (.int (nI (am_b false))), some (.int (nI (am_b false)))], [.int (nI 0), .ref 238])) (by decide +kernel) rfl ?_
        dsimp only
        refine am_Rq.putf (show decode (am_by 93) 26 = .ok (.putfield 36, 3) by decide +kernel) rfl hM (Nat.le_of_ble_eq_true rfl) rfl (Or.inl rfl) (by omega) ?_
        refine am_Rq.blk (is := [(.aload_n 0, 1)]) (q := (30, [some (.ref 238), some (.int (nI (am_b false))), some (.int (nI (am_b false))), some (.int (nI (am_b false)))], [.ref 238])) (by decide +kernel) rfl ?_
        dsimp only
        refine am_Rq.getf (v := .int (nI 0)) (show decode (am_by 93) 30 = .ok (.getfield 36, 3) by decide +kernel) rfl (am_ss hM) rfl ?_
        refine am_Rq.if1T (t := 40) (show decode (am_by 93) 33 = .ok (.ifCond .le 7, 3) by decide +kernel) (by decide) (rfl) ?_
        refine am_Rq.blk (is := [(.iconst 0, 1)]) (q := (41, [some (.ref 238), some (.int (nI (am_b false))), some (.int (nI (am_b false))), some (.int (nI (am_b false)))], [.int (nI 0)])) (by decide +kernel) rfl ?_
        dsimp only
        refine am_Rq.ret (v := some (.int (nI 0))) (show decode (am_by 93) 41 = .ok (.ireturn, 1) by decide +kernel) rfl rfl ?_
        exact ⟨_, rfl, rfl, rfl⟩
      ·
        rw [am_b_eq] at hr
        have hr : r = true := by cases r <;> first | rfl | cases hr
        subst hr
        refine am_Rq.blk (is := [(.iconst 3, 1), (.goto 4, 3)]) (q := (26, [some (.ref 238), some (.int (nI (am_b false))), some (.int (nI (am_b false))), some (.int (nI (am_b true)))], [.int (nI 3), .ref 238])) (by decide +kernel) rfl ?_
        dsimp only
        refine am_Rq.putf (show decode (am_by 93) 26 = .ok (.putfield 36, 3) by decide +kernel) rfl hM (Nat.le_of_ble_eq_true rfl) rfl (Or.inl rfl) (by omega) ?_
        refine am_Rq.blk (is := [(.aload_n 0, 1)]) (q := (30, [some (.ref 238), some (.int (nI (am_b false))), some (.int (nI (am_b false))), some (.int (nI (am_b true)))], [.ref 238])) (by decide +kernel) rfl ?_
        dsimp only
        refine am_Rq.getf (v := .int (nI 3)) (show decode (am_by 93) 30 = .ok (.getfield 36, 3) by decide +kernel) rfl (am_ss hM) rfl ?_
        refine am_Rq.if1F (show decode (am_by 93) 33 = .ok (.ifCond .le 7, 3) by decide +kernel) (by decide) (rfl) ?_
        refine am_Rq.blk (is := [(.iconst 1, 1), (.goto 4, 3)]) (q := (41, [some (.ref 238), some (.int (nI (am_b false))), some (.int (nI (am_b false))), some (.int (nI (am_b true)))], [.int (nI 1)])) (by decide +kernel) rfl ?_
        dsimp only
        refine am_Rq.ret (v := some (.int (nI 1))) (show decode (am_by 93) 41 = .ok (.ireturn, 1) by decide +kernel) rfl rfl ?_
        exact ⟨_, rfl, rfl, rfl⟩
    ·
      rw [am_b_eq] at hq
      have hq : q = true := by cases q <;> first | rfl | cases hq
      subst hq
      refine am_Rq.blk (is := [(.iconst 2, 1), (.goto 12, 3)]) (q := (26, [some (.ref 238), some (.int (nI (am_b false))), some (.int (nI (am_b true))), some (.int (nI (am_b r)))], [.int (nI 2), .ref 238])) (by decide +kernel) rfl ?_
      dsimp only
      refine am_Rq.putf (show decode (am_by 93) 26 = .ok (.putfield 36, 3) by decide +kernel) rfl hM (Nat.le_of_ble_eq_true rfl) rfl (Or.inl rfl) (by omega) ?_
      refine am_Rq.blk (is := [(.aload_n 0, 1)]) (q := (30, [some (.ref 238), some (.int (nI (am_b false))), some (.int (nI (am_b true))), some (.int (nI (am_b r)))], [.ref 238])) (by decide +kernel) rfl ?_
      dsimp only
      refine am_Rq.getf (v := .int (nI 2)) (show decode (am_by 93) 30 = .ok (.getfield 36, 3) by decide +kernel) rfl (am_ss hM) rfl ?_
      refine am_Rq.if1F (show decode (am_by 93) 33 = .ok (.ifCond .le 7, 3) by decide +kernel) (by decide) (rfl) ?_
      refine am_Rq.blk (is := [(.iconst 1, 1), (.goto 4, 3)]) (q := (41, [some (.ref 238), some (.int (nI (am_b false))), some (.int (nI (am_b true))), some (.int (nI (am_b r)))], [.int (nI 1)])) (by decide +kernel) rfl ?_
      dsimp only
      refine am_Rq.ret (v := some (.int (nI 1))) (show decode (am_by 93) 41 = .ok (.ireturn, 1) by decide +kernel) rfl rfl ?_
      exact ⟨_, rfl, rfl, rfl⟩
  ·
    rw [am_b_eq] at hp
    have hp : p = true := by cases p <;> first | rfl | cases hp
    subst hp
    refine am_Rq.blk (is := [(.iconst 1, 1), (.goto 20, 3)]) (q := (26, [some (.ref 238), some (.int (nI (am_b true))), some (.int (nI (am_b q))), some (.int (nI (am_b r)))], [.int (nI 1), .ref 238])) (by decide +kernel) rfl ?_
    dsimp only
    refine am_Rq.putf (show decode (am_by 93) 26 = .ok (.putfield 36, 3) by decide +kernel) rfl hM (Nat.le_of_ble_eq_true rfl) rfl (Or.inl rfl) (by omega) ?_
    refine am_Rq.blk (is := [(.aload_n 0, 1)]) (q := (30, [some (.ref 238), some (.int (nI (am_b true))), some (.int (nI (am_b q))), some (.int (nI (am_b r)))], [.ref 238])) (by decide +kernel) rfl ?_
    dsimp only
    refine am_Rq.getf (v := .int (nI 1)) (show decode (am_by 93) 30 = .ok (.getfield 36, 3) by decide +kernel) rfl (am_ss hM) rfl ?_
    refine am_Rq.if1F (show decode (am_by 93) 33 = .ok (.ifCond .le 7, 3) by decide +kernel) (by decide) (rfl) ?_
    refine am_Rq.blk (is := [(.iconst 1, 1), (.goto 4, 3)]) (q := (41, [some (.ref 238), some (.int (nI (am_b true))), some (.int (nI (am_b q))), some (.int (nI (am_b r)))], [.int (nI 1)])) (by decide +kernel) rfl ?_
    dsimp only
    refine am_Rq.ret (v := some (.int (nI 1))) (show decode (am_by 93) 41 = .ok (.ireturn, 1) by decide +kernel) rfl rfl ?_
    exact ⟨_, rfl, rfl, rfl⟩
theorem m_vestedOf {th kn co : Nat} (hM : hp[238]? = some (7, [.int (nI th), .ref 239, .ref 240, .int (nI kn), .ref 241, .ref 242, .ref 243, .ref 244, .long (lN co), .ref 245])) {s : Nat → Nat} (hS : hp[239]? = some (100, am_ia (fun i => nI (s i)) 160)) {g : Nat} (hg : g < 10) (hm : s 81 < 2 ^ 31) (hf : s (83 + 7 * g + 4) ≤ s 81) (hS2 : s (83 + 7 * g + 1) ≤ 2000) (hN : s (83 + 7 * g + 3) ≤ 60) (hC : s (83 + 7 * g + 2) ≤ 60) (hE : s (83 + 7 * g + 5) ≤ 1) : am_Rq (d + 1) 110 0 (am_en [.ref 238, .int (nI g)] 4) [] hp (am_Ret fun hp1 v => hp1 = hp ∧ v = some (.int (nI (c_vg s g)))) := by
  show am_Rq _ 110 0 [some (.ref 238), some (.int (nI g)), none, none] [] _ _
  refine am_Rq.blk (is := [(.aload_n 0, 1)]) (q := (1, [some (.ref 238), some (.int (nI g)), none, none], [.ref 238])) (by decide +kernel) rfl ?_
  dsimp only
  refine am_Rq.getf (v := .ref 239) (show decode (am_by 110) 1 = .ok (.getfield 7, 3) by decide +kernel) rfl hM rfl ?_
  refine am_Rq.blk (is := [(.bipush 81, 2)]) (q := (6, [some (.ref 238), some (.int (nI g)), none, none], [.int (nI 81), .ref 239])) (by decide +kernel) rfl ?_
  dsimp only
  refine am_Rq.ial (k := 81) (show decode (am_by 110) 6 = .ok (.iaload, 1) by decide +kernel) hS (by omega) (by omega) ?_
  refine am_Rq.blk (is := [(.aload_n 0, 1), (.iload_n 1, 1), (.iconst 4, 1)]) (q := (10, [some (.ref 238), some (.int (nI g)), none, none], [.int (nI 4), .int (nI g), .ref 238, .int (nI (s 81))])) (by decide +kernel) rfl ?_
  dsimp only
  refine am_Rq.callV (show decode (am_by 110) 10 = .ok (.invokevirtual 77, 3) by decide +kernel) rfl [.int (nI g), .int (nI 4)] [.int (nI (s 81))] rfl rfl (Nat.le_of_ble_eq_true rfl) rfl hM rfl (m_grantOf hM hS hg (by omega)) ?_
  rintro hq _ ⟨e1, rfl⟩
  rw [e1]
  clear e1 hq
  show am_Rq _ 110 13 [some (.ref 238), some (.int (nI g)), none, none] [.int (nI (s (83 + 7 * g + 4))), .int (nI (s 81))] _ _
  refine am_Rq.blk (is := [(.isub, 1)]) (q := (14, [some (.ref 238), some (.int (nI g)), none, none], [.int ((nI (s 81)) - (nI (s (83 + 7 * g + 4))))])) (by decide +kernel) rfl ?_
  dsimp only
  rw [show (nI (s 81)) - (nI (s (83 + 7 * g + 4))) = nI ((s 81) - (s (83 + 7 * g + 4))) from nm_isub (by omega)]
  refine am_Rq.blk (is := [(.istore_n 2, 1), (.aload_n 0, 1), (.iload_n 1, 1), (.iconst 1, 1)]) (q := (18, [some (.ref 238), some (.int (nI g)), some (.int (nI ((s 81) - (s (83 + 7 * g + 4))))), none], [.int (nI 1), .int (nI g), .ref 238])) (by decide +kernel) rfl ?_
  dsimp only
  refine am_Rq.callV (show decode (am_by 110) 18 = .ok (.invokevirtual 77, 3) by decide +kernel) rfl [.int (nI g), .int (nI 1)] [] rfl rfl (Nat.le_of_ble_eq_true rfl) rfl hM rfl (m_grantOf hM hS hg (by omega)) ?_
  rintro hq _ ⟨e1, rfl⟩
  rw [e1]
  clear e1 hq
  show am_Rq _ 110 21 [some (.ref 238), some (.int (nI g)), some (.int (nI ((s 81) - (s (83 + 7 * g + 4))))), none] [.int (nI (s (83 + 7 * g + 1)))] _ _
  refine am_Rq.blk (is := [(.istore_n 3, 1), (.aload_n 0, 1), (.iload_n 1, 1), (.iconst 5, 1)]) (q := (25, [some (.ref 238), some (.int (nI g)), some (.int (nI ((s 81) - (s (83 + 7 * g + 4))))), some (.int (nI (s (83 + 7 * g + 1))))], [.int (nI 5), .int (nI g), .ref 238])) (by decide +kernel) rfl ?_
  dsimp only
  refine am_Rq.callV (show decode (am_by 110) 25 = .ok (.invokevirtual 77, 3) by decide +kernel) rfl [.int (nI g), .int (nI 5)] [] rfl rfl (Nat.le_of_ble_eq_true rfl) rfl hM rfl (m_grantOf hM hS hg (by omega)) ?_
  rintro hq _ ⟨e1, rfl⟩
  rw [e1]
  clear e1 hq
  show am_Rq _ 110 28 [some (.ref 238), some (.int (nI g)), some (.int (nI ((s 81) - (s (83 + 7 * g + 4))))), some (.int (nI (s (83 + 7 * g + 1))))] [.int (nI (s (83 + 7 * g + 5)))] _ _
  refine am_Rq.blk (is := [(.iconst 1, 1)]) (q := (29, [some (.ref 238), some (.int (nI g)), some (.int (nI ((s 81) - (s (83 + 7 * g + 4))))), some (.int (nI (s (83 + 7 * g + 1))))], [.int (nI 1), .int (nI (s (83 + 7 * g + 5)))])) (by decide +kernel) rfl ?_
  dsimp only
  refine am_Rq.if2 (t := 52) (show decode (am_by 110) 29 = .ok (.if_icmp .eq 23, 3) by decide +kernel) (by decide) (fun h1 => ?_) (fun h1 => ?_)
  ·
    rw [nm_eq (by omega) (by omega)] at h1
    have h1 := of_decide_eq_true h1
    refine am_Rq.blk (is := [(.iload_n 3, 1)]) (q := (53, [some (.ref 238), some (.int (nI g)), some (.int (nI ((s 81) - (s (83 + 7 * g + 4))))), some (.int (nI (s (83 + 7 * g + 1))))], [.int (nI (s (83 + 7 * g + 1)))])) (by decide +kernel) rfl ?_
    dsimp only
    refine am_Rq.ret (v := some (.int (nI (s (83 + 7 * g + 1))))) (show decode (am_by 110) 53 = .ok (.ireturn, 1) by decide +kernel) rfl rfl ?_
    refine ⟨_, rfl, rfl, ?_⟩
    unfold c_vg g_v
    first
      | (rw [if_pos (by omega)]; done)
      | (rw [if_neg (by omega), if_pos (by omega)]; done)
      | (rw [if_neg (by omega), if_neg (by omega), if_pos (by omega)]; done)
      | (rw [if_neg (by omega), if_neg (by omega), if_neg (by omega)]; done)
  ·
    rw [nm_eq (by omega) (by omega)] at h1
    have h1 := of_decide_eq_false h1
    refine am_Rq.blk (is := [(.iload_n 2, 1), (.aload_n 0, 1), (.iload_n 1, 1), (.iconst 3, 1)]) (q := (36, [some (.ref 238), some (.int (nI g)), some (.int (nI ((s 81) - (s (83 + 7 * g + 4))))), some (.int (nI (s (83 + 7 * g + 1))))], [.int (nI 3), .int (nI g), .ref 238, .int (nI ((s 81) - (s (83 + 7 * g + 4))))])) (by decide +kernel) rfl ?_
    dsimp only
    refine am_Rq.callV (show decode (am_by 110) 36 = .ok (.invokevirtual 77, 3) by decide +kernel) rfl [.int (nI g), .int (nI 3)] [.int (nI ((s 81) - (s (83 + 7 * g + 4))))] rfl rfl (Nat.le_of_ble_eq_true rfl) rfl hM rfl (m_grantOf hM hS hg (by omega)) ?_
    rintro hq _ ⟨e1, rfl⟩
    rw [e1]
    clear e1 hq
    show am_Rq _ 110 39 [some (.ref 238), some (.int (nI g)), some (.int (nI ((s 81) - (s (83 + 7 * g + 4))))), some (.int (nI (s (83 + 7 * g + 1))))] [.int (nI (s (83 + 7 * g + 3))), .int (nI ((s 81) - (s (83 + 7 * g + 4))))] _ _
    refine am_Rq.if2 (t := 54) (show decode (am_by 110) 39 = .ok (.if_icmp .lt 15, 3) by decide +kernel) (by decide) (fun h2 => ?_) (fun h2 => ?_)
    ·
      rw [nm_lt (by omega) (by omega)] at h2
      have h2 := of_decide_eq_true h2
      refine am_Rq.blk (is := [(.iload_n 2, 1), (.aload_n 0, 1), (.iload_n 1, 1), (.iconst 2, 1)]) (q := (58, [some (.ref 238), some (.int (nI g)), some (.int (nI ((s 81) - (s (83 + 7 * g + 4))))), some (.int (nI (s (83 + 7 * g + 1))))], [.int (nI 2), .int (nI g), .ref 238, .int (nI ((s 81) - (s (83 + 7 * g + 4))))])) (by decide +kernel) rfl ?_
      dsimp only
      refine am_Rq.callV (show decode (am_by 110) 58 = .ok (.invokevirtual 77, 3) by decide +kernel) rfl [.int (nI g), .int (nI 2)] [.int (nI ((s 81) - (s (83 + 7 * g + 4))))] rfl rfl (Nat.le_of_ble_eq_true rfl) rfl hM rfl (m_grantOf hM hS hg (by omega)) ?_
      rintro hq _ ⟨e1, rfl⟩
      rw [e1]
      clear e1 hq
      show am_Rq _ 110 61 [some (.ref 238), some (.int (nI g)), some (.int (nI ((s 81) - (s (83 + 7 * g + 4))))), some (.int (nI (s (83 + 7 * g + 1))))] [.int (nI (s (83 + 7 * g + 2))), .int (nI ((s 81) - (s (83 + 7 * g + 4))))] _ _
      refine am_Rq.if2 (t := 68) (show decode (am_by 110) 61 = .ok (.if_icmp .ge 7, 3) by decide +kernel) (by decide) (fun h3 => ?_) (fun h3 => ?_)
      ·
        rw [nm_ge (by omega) (by omega)] at h3
        have h3 := of_decide_eq_true h3
        refine am_Rq.blk (is := [(.iload_n 3, 1), (.iload_n 2, 1), (.imul, 1)]) (q := (71, [some (.ref 238), some (.int (nI g)), some (.int (nI ((s 81) - (s (83 + 7 * g + 4))))), some (.int (nI (s (83 + 7 * g + 1))))], [.int ((nI (s (83 + 7 * g + 1))) * (nI ((s 81) - (s (83 + 7 * g + 4)))))])) (by decide +kernel) rfl ?_
        dsimp only
        rw [show (nI (s (83 + 7 * g + 1))) * (nI ((s 81) - (s (83 + 7 * g + 4)))) = nI ((s (83 + 7 * g + 1)) * ((s 81) - (s (83 + 7 * g + 4)))) from nm_imul _ _]
        refine am_Rq.blk (is := [(.aload_n 0, 1), (.iload_n 1, 1), (.iconst 3, 1)]) (q := (74, [some (.ref 238), some (.int (nI g)), some (.int (nI ((s 81) - (s (83 + 7 * g + 4))))), some (.int (nI (s (83 + 7 * g + 1))))], [.int (nI 3), .int (nI g), .ref 238, .int (nI ((s (83 + 7 * g + 1)) * ((s 81) - (s (83 + 7 * g + 4)))))])) (by decide +kernel) rfl ?_
        dsimp only
        refine am_Rq.callV (show decode (am_by 110) 74 = .ok (.invokevirtual 77, 3) by decide +kernel) rfl [.int (nI g), .int (nI 3)] [.int (nI ((s (83 + 7 * g + 1)) * ((s 81) - (s (83 + 7 * g + 4)))))] rfl rfl (Nat.le_of_ble_eq_true rfl) rfl hM rfl (m_grantOf hM hS hg (by omega)) ?_
        rintro hq _ ⟨e1, rfl⟩
        rw [e1]
        clear e1 hq
        show am_Rq _ 110 77 [some (.ref 238), some (.int (nI g)), some (.int (nI ((s 81) - (s (83 + 7 * g + 4))))), some (.int (nI (s (83 + 7 * g + 1))))] [.int (nI (s (83 + 7 * g + 3))), .int (nI ((s (83 + 7 * g + 1)) * ((s 81) - (s (83 + 7 * g + 4)))))] _ _
        refine am_Rq.idivN (a := (s (83 + 7 * g + 1)) * ((s 81) - (s (83 + 7 * g + 4)))) (b := s (83 + 7 * g + 3)) (show decode (am_by 110) 77 = .ok (.idiv, 1) by decide +kernel) (by omega) (by have := Nat.mul_le_mul hS2 (show s 81 - s (83 + 7 * g + 4) ≤ 60 by omega); omega) (by omega) ?_
        refine am_Rq.ret (v := some (.int (nI (((s (83 + 7 * g + 1)) * ((s 81) - (s (83 + 7 * g + 4)))) / (s (83 + 7 * g + 3)))))) (show decode (am_by 110) 78 = .ok (.ireturn, 1) by decide +kernel) rfl rfl ?_
        refine ⟨_, rfl, rfl, ?_⟩
        unfold c_vg g_v
        first
          | (rw [if_pos (by omega)]; done)
          | (rw [if_neg (by omega), if_pos (by omega)]; done)
          | (rw [if_neg (by omega), if_neg (by omega), if_pos (by omega)]; done)
          | (rw [if_neg (by omega), if_neg (by omega), if_neg (by omega)]; done)
      ·
        rw [nm_ge (by omega) (by omega)] at h3
        have h3 := of_decide_eq_false h3
        refine am_Rq.blk (is := [(.iconst 0, 1), (.goto 13, 3)]) (q := (78, [some (.ref 238), some (.int (nI g)), some (.int (nI ((s 81) - (s (83 + 7 * g + 4))))), some (.int (nI (s (83 + 7 * g + 1))))], [.int (nI 0)])) (by decide +kernel) rfl ?_
        dsimp only
        refine am_Rq.ret (v := some (.int (nI 0))) (show decode (am_by 110) 78 = .ok (.ireturn, 1) by decide +kernel) rfl rfl ?_
        refine ⟨_, rfl, rfl, ?_⟩
        unfold c_vg g_v
        first
          | (rw [if_pos (by omega)]; done)
          | (rw [if_neg (by omega), if_pos (by omega)]; done)
          | (rw [if_neg (by omega), if_neg (by omega), if_pos (by omega)]; done)
          | (rw [if_neg (by omega), if_neg (by omega), if_neg (by omega)]; done)
    ·
      rw [nm_lt (by omega) (by omega)] at h2
      have h2 := of_decide_eq_false h2
      refine am_Rq.blk (is := [(.iload_n 2, 1), (.aload_n 0, 1), (.iload_n 1, 1), (.iconst 2, 1)]) (q := (46, [some (.ref 238), some (.int (nI g)), some (.int (nI ((s 81) - (s (83 + 7 * g + 4))))), some (.int (nI (s (83 + 7 * g + 1))))], [.int (nI 2), .int (nI g), .ref 238, .int (nI ((s 81) - (s (83 + 7 * g + 4))))])) (by decide +kernel) rfl ?_
      dsimp only
      refine am_Rq.callV (show decode (am_by 110) 46 = .ok (.invokevirtual 77, 3) by decide +kernel) rfl [.int (nI g), .int (nI 2)] [.int (nI ((s 81) - (s (83 + 7 * g + 4))))] rfl rfl (Nat.le_of_ble_eq_true rfl) rfl hM rfl (m_grantOf hM hS hg (by omega)) ?_
      rintro hq _ ⟨e1, rfl⟩
      rw [e1]
      clear e1 hq
      show am_Rq _ 110 49 [some (.ref 238), some (.int (nI g)), some (.int (nI ((s 81) - (s (83 + 7 * g + 4))))), some (.int (nI (s (83 + 7 * g + 1))))] [.int (nI (s (83 + 7 * g + 2))), .int (nI ((s 81) - (s (83 + 7 * g + 4))))] _ _
      refine am_Rq.if2 (t := 54) (show decode (am_by 110) 49 = .ok (.if_icmp .lt 5, 3) by decide +kernel) (by decide) (fun h3 => ?_) (fun h3 => ?_)
      ·
        rw [nm_lt (by omega) (by omega)] at h3
        have h3 := of_decide_eq_true h3
        refine am_Rq.blk (is := [(.iload_n 2, 1), (.aload_n 0, 1), (.iload_n 1, 1), (.iconst 2, 1)]) (q := (58, [some (.ref 238), some (.int (nI g)), some (.int (nI ((s 81) - (s (83 + 7 * g + 4))))), some (.int (nI (s (83 + 7 * g + 1))))], [.int (nI 2), .int (nI g), .ref 238, .int (nI ((s 81) - (s (83 + 7 * g + 4))))])) (by decide +kernel) rfl ?_
        dsimp only
        refine am_Rq.callV (show decode (am_by 110) 58 = .ok (.invokevirtual 77, 3) by decide +kernel) rfl [.int (nI g), .int (nI 2)] [.int (nI ((s 81) - (s (83 + 7 * g + 4))))] rfl rfl (Nat.le_of_ble_eq_true rfl) rfl hM rfl (m_grantOf hM hS hg (by omega)) ?_
        rintro hq _ ⟨e1, rfl⟩
        rw [e1]
        clear e1 hq
        show am_Rq _ 110 61 [some (.ref 238), some (.int (nI g)), some (.int (nI ((s 81) - (s (83 + 7 * g + 4))))), some (.int (nI (s (83 + 7 * g + 1))))] [.int (nI (s (83 + 7 * g + 2))), .int (nI ((s 81) - (s (83 + 7 * g + 4))))] _ _
        refine am_Rq.if2 (t := 68) (show decode (am_by 110) 61 = .ok (.if_icmp .ge 7, 3) by decide +kernel) (by decide) (fun h4 => ?_) (fun h4 => ?_)
        ·
          rw [nm_ge (by omega) (by omega)] at h4
          have h4 := of_decide_eq_true h4
          refine am_Rq.blk (is := [(.iload_n 3, 1), (.iload_n 2, 1), (.imul, 1)]) (q := (71, [some (.ref 238), some (.int (nI g)), some (.int (nI ((s 81) - (s (83 + 7 * g + 4))))), some (.int (nI (s (83 + 7 * g + 1))))], [.int ((nI (s (83 + 7 * g + 1))) * (nI ((s 81) - (s (83 + 7 * g + 4)))))])) (by decide +kernel) rfl ?_
          dsimp only
          rw [show (nI (s (83 + 7 * g + 1))) * (nI ((s 81) - (s (83 + 7 * g + 4)))) = nI ((s (83 + 7 * g + 1)) * ((s 81) - (s (83 + 7 * g + 4)))) from nm_imul _ _]
          refine am_Rq.blk (is := [(.aload_n 0, 1), (.iload_n 1, 1), (.iconst 3, 1)]) (q := (74, [some (.ref 238), some (.int (nI g)), some (.int (nI ((s 81) - (s (83 + 7 * g + 4))))), some (.int (nI (s (83 + 7 * g + 1))))], [.int (nI 3), .int (nI g), .ref 238, .int (nI ((s (83 + 7 * g + 1)) * ((s 81) - (s (83 + 7 * g + 4)))))])) (by decide +kernel) rfl ?_
          dsimp only
          refine am_Rq.callV (show decode (am_by 110) 74 = .ok (.invokevirtual 77, 3) by decide +kernel) rfl [.int (nI g), .int (nI 3)] [.int (nI ((s (83 + 7 * g + 1)) * ((s 81) - (s (83 + 7 * g + 4)))))] rfl rfl (Nat.le_of_ble_eq_true rfl) rfl hM rfl (m_grantOf hM hS hg (by omega)) ?_
          rintro hq _ ⟨e1, rfl⟩
          rw [e1]
          clear e1 hq
          show am_Rq _ 110 77 [some (.ref 238), some (.int (nI g)), some (.int (nI ((s 81) - (s (83 + 7 * g + 4))))), some (.int (nI (s (83 + 7 * g + 1))))] [.int (nI (s (83 + 7 * g + 3))), .int (nI ((s (83 + 7 * g + 1)) * ((s 81) - (s (83 + 7 * g + 4)))))] _ _
          refine am_Rq.idivN (a := (s (83 + 7 * g + 1)) * ((s 81) - (s (83 + 7 * g + 4)))) (b := s (83 + 7 * g + 3)) (show decode (am_by 110) 77 = .ok (.idiv, 1) by decide +kernel) (by omega) (by have := Nat.mul_le_mul hS2 (show s 81 - s (83 + 7 * g + 4) ≤ 60 by omega); omega) (by omega) ?_
          refine am_Rq.ret (v := some (.int (nI (((s (83 + 7 * g + 1)) * ((s 81) - (s (83 + 7 * g + 4)))) / (s (83 + 7 * g + 3)))))) (show decode (am_by 110) 78 = .ok (.ireturn, 1) by decide +kernel) rfl rfl ?_
          refine ⟨_, rfl, rfl, ?_⟩
          unfold c_vg g_v
          first
            | (rw [if_pos (by omega)]; done)
            | (rw [if_neg (by omega), if_pos (by omega)]; done)
            | (rw [if_neg (by omega), if_neg (by omega), if_pos (by omega)]; done)
            | (rw [if_neg (by omega), if_neg (by omega), if_neg (by omega)]; done)
        ·
          rw [nm_ge (by omega) (by omega)] at h4
          have h4 := of_decide_eq_false h4
          refine am_Rq.blk (is := [(.iconst 0, 1), (.goto 13, 3)]) (q := (78, [some (.ref 238), some (.int (nI g)), some (.int (nI ((s 81) - (s (83 + 7 * g + 4))))), some (.int (nI (s (83 + 7 * g + 1))))], [.int (nI 0)])) (by decide +kernel) rfl ?_
          dsimp only
          refine am_Rq.ret (v := some (.int (nI 0))) (show decode (am_by 110) 78 = .ok (.ireturn, 1) by decide +kernel) rfl rfl ?_
          refine ⟨_, rfl, rfl, ?_⟩
          unfold c_vg g_v
          first
            | (rw [if_pos (by omega)]; done)
            | (rw [if_neg (by omega), if_pos (by omega)]; done)
            | (rw [if_neg (by omega), if_neg (by omega), if_pos (by omega)]; done)
            | (rw [if_neg (by omega), if_neg (by omega), if_neg (by omega)]; done)
      ·
        rw [nm_lt (by omega) (by omega)] at h3
        have h3 := of_decide_eq_false h3
        refine am_Rq.blk (is := [(.iload_n 3, 1)]) (q := (53, [some (.ref 238), some (.int (nI g)), some (.int (nI ((s 81) - (s (83 + 7 * g + 4))))), some (.int (nI (s (83 + 7 * g + 1))))], [.int (nI (s (83 + 7 * g + 1)))])) (by decide +kernel) rfl ?_
        dsimp only
        refine am_Rq.ret (v := some (.int (nI (s (83 + 7 * g + 1))))) (show decode (am_by 110) 53 = .ok (.ireturn, 1) by decide +kernel) rfl rfl ?_
        refine ⟨_, rfl, rfl, ?_⟩
        unfold c_vg g_v
        first
          | (rw [if_pos (by omega)]; done)
          | (rw [if_neg (by omega), if_pos (by omega)]; done)
          | (rw [if_neg (by omega), if_neg (by omega), if_pos (by omega)]; done)
          | (rw [if_neg (by omega), if_neg (by omega), if_neg (by omega)]; done)
end M2
