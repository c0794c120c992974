/-! The class: what it requires (rows by prog/c7.py). -/
section C7
variable {d : Nat} {hp : am_H}
theorem c_requireHolder {x : Int32} (hx : rg_r (nI 0) (nI 7) x = true) (h4 : 4 ≤ d) : am_Rq (d + 1) 25 0 (am_en [.ref 2, .int x] 2) [] hp (am_Ret fun hp1 v => hp1 = hp ∧ v = none) := by
  show am_Rq _ 25 0 [some (.ref 2), some (.int x)] [] _ _
  have h4 : 4 ≤ d + 1 := by omega
  refine am_Rq.blk (is := [(.iload_n 1, 1), (.iconst 0, 1), (.bipush 7, 2)]) (q := (4, [some (.ref 2), some (.int x)], [.int (nI 7), .int (nI 0), .int x])) (by decide +kernel) rfl ?_
  dsimp only
  refine am_Rq.callS (show decode (am_by 25) 4 = .ok (.invokestatic 30, 3) by decide +kernel) rfl [.int x, .int (nI 0), .int (nI 7)] [] rfl rfl (Nat.le_of_ble_eq_true rfl) rfl rfl (c_within x (nI 0) (nI 7)) ?_
  rintro hq _ ⟨e1, rfl⟩
  rw [e1]
  clear e1 hq
  show am_Rq _ 25 7 [some (.ref 2), some (.int x)] [.int (nI (am_b (rg_r (nI 0) (nI 7) x)))] _ _
  refine am_Rq.if1T (t := 18) (show decode (am_by 25) 7 = .ok (.ifCond .ne 11, 3) by decide +kernel) (by decide) (by rw [am_b_ne]; exact hx) ?_
  refine am_Rq.ret (v := none) (show decode (am_by 25) 18 = .ok (.return_, 1) by decide +kernel) rfl rfl ?_
  exact ⟨_, rfl, rfl, rfl⟩
theorem c_requireHolder_no {x : Int32} (hx : rg_r (nI 0) (nI 7) x = false) (h4 : 4 ≤ d) : am_Rq (d + 1) 25 0 (am_en [.ref 2, .int x] 2) [] hp (c_No 2 hp) := by
  show am_Rq _ 25 0 [some (.ref 2), some (.int x)] [] _ _
  have h4 : 4 ≤ d + 1 := by omega
  refine am_Rq.blk (is := [(.iload_n 1, 1), (.iconst 0, 1), (.bipush 7, 2)]) (q := (4, [some (.ref 2), some (.int x)], [.int (nI 7), .int (nI 0), .int x])) (by decide +kernel) rfl ?_
  dsimp only
  refine am_Rq.callS (show decode (am_by 25) 4 = .ok (.invokestatic 30, 3) by decide +kernel) rfl [.int x, .int (nI 0), .int (nI 7)] [] rfl rfl (Nat.le_of_ble_eq_true rfl) rfl rfl (c_within x (nI 0) (nI 7)) ?_
  rintro hq _ ⟨e1, rfl⟩
  rw [e1]
  clear e1 hq
  show am_Rq _ 25 7 [some (.ref 2), some (.int x)] [.int (nI (am_b (rg_r (nI 0) (nI 7) x)))] _ _
  refine am_Rq.if1F (show decode (am_by 25) 7 = .ok (.ifCond .ne 11, 3) by decide +kernel) (by decide) (by rw [am_b_ne]; exact hx) ?_
  refine am_Rq.thrN (k := 2) (ic := 164) (show decode (am_by 25) 10 = .ok (.new 162, 3) by decide +kernel) rfl h4 rfl (show decode (am_by 25) 13 = .ok (.dup, 1) by decide +kernel) (show decode (am_by 25) 14 = .ok (.invokespecial 164, 3) by decide +kernel) (show decode (am_by 25) 17 = .ok (.athrow, 1) by decide +kernel) ?_
  exact ⟨rfl, rfl⟩
theorem c_requireClass (hO : hp[2]? = some (0, [.ref 3, .ref 26, .ref 212])) {t : Nat → Nat} (h : Led hp 3 t) {x : Int32} (hx : rg_r (nI 0) (nI (t 153) - nI 1) x = true) (h4 : 4 ≤ d) : am_Rq (d + 1) 24 0 (am_en [.ref 2, .int x] 2) [] hp (am_Ret fun hp1 v => hp1 = hp ∧ v = none) := by
  show am_Rq _ 24 0 [some (.ref 2), some (.int x)] [] _ _
  have h4 : 4 ≤ d + 1 := by omega
  refine am_Rq.blk (is := [(.iload_n 1, 1), (.iconst 0, 1), (.aload_n 0, 1)]) (q := (3, [some (.ref 2), some (.int x)], [.ref 2, .int (nI 0), .int x])) (by decide +kernel) rfl ?_
  dsimp only
  refine am_Rq.getf (v := .ref 3) (show decode (am_by 24) 3 = .ok (.getfield 12, 3) by decide +kernel) rfl hO rfl ?_
  refine am_Rq.getf (v := .int (nI (t 153))) (show decode (am_by 24) 6 = .ok (.getfield 37, 3) by decide +kernel) rfl (Led.lg h) rfl ?_
  refine am_Rq.blk (is := [(.iconst 1, 1), (.isub, 1)]) (q := (11, [some (.ref 2), some (.int x)], [.int ((nI (t 153)) - (nI 1)), .int (nI 0), .int x])) (by decide +kernel) rfl ?_
  dsimp only
  refine am_Rq.callS (show decode (am_by 24) 11 = .ok (.invokestatic 30, 3) by decide +kernel) rfl [.int x, .int (nI 0), .int ((nI (t 153)) - (nI 1))] [] rfl rfl (Nat.le_of_ble_eq_true rfl) rfl rfl (c_within x (nI 0) ((nI (t 153)) - (nI 1))) ?_
  rintro hq _ ⟨e1, rfl⟩
  rw [e1]
  clear e1 hq
  show am_Rq _ 24 14 [some (.ref 2), some (.int x)] [.int (nI (am_b (rg_r (nI 0) ((nI (t 153)) - (nI 1)) x)))] _ _
  refine am_Rq.if1T (t := 25) (show decode (am_by 24) 14 = .ok (.ifCond .ne 11, 3) by decide +kernel) (by decide) (by rw [am_b_ne]; exact hx) ?_
  refine am_Rq.ret (v := none) (show decode (am_by 24) 25 = .ok (.return_, 1) by decide +kernel) rfl rfl ?_
  exact ⟨_, rfl, rfl, rfl⟩
theorem c_requireClass_no (hO : hp[2]? = some (0, [.ref 3, .ref 26, .ref 212])) {t : Nat → Nat} (h : Led hp 3 t) {x : Int32} (hx : rg_r (nI 0) (nI (t 153) - nI 1) x = false) (h4 : 4 ≤ d) : am_Rq (d + 1) 24 0 (am_en [.ref 2, .int x] 2) [] hp (c_No 2 hp) := by
  show am_Rq _ 24 0 [some (.ref 2), some (.int x)] [] _ _
  have h4 : 4 ≤ d + 1 := by omega
  refine am_Rq.blk (is := [(.iload_n 1, 1), (.iconst 0, 1), (.aload_n 0, 1)]) (q := (3, [some (.ref 2), some (.int x)], [.ref 2, .int (nI 0), .int x])) (by decide +kernel) rfl ?_
  dsimp only
  refine am_Rq.getf (v := .ref 3) (show decode (am_by 24) 3 = .ok (.getfield 12, 3) by decide +kernel) rfl hO rfl ?_
  refine am_Rq.getf (v := .int (nI (t 153))) (show decode (am_by 24) 6 = .ok (.getfield 37, 3) by decide +kernel) rfl (Led.lg h) rfl ?_
  refine am_Rq.blk (is := [(.iconst 1, 1), (.isub, 1)]) (q := (11, [some (.ref 2), some (.int x)], [.int ((nI (t 153)) - (nI 1)), .int (nI 0), .int x])) (by decide +kernel) rfl ?_
  dsimp only
  refine am_Rq.callS (show decode (am_by 24) 11 = .ok (.invokestatic 30, 3) by decide +kernel) rfl [.int x, .int (nI 0), .int ((nI (t 153)) - (nI 1))] [] rfl rfl (Nat.le_of_ble_eq_true rfl) rfl rfl (c_within x (nI 0) ((nI (t 153)) - (nI 1))) ?_
  rintro hq _ ⟨e1, rfl⟩
  rw [e1]
  clear e1 hq
  show am_Rq _ 24 14 [some (.ref 2), some (.int x)] [.int (nI (am_b (rg_r (nI 0) ((nI (t 153)) - (nI 1)) x)))] _ _
  refine am_Rq.if1F (show decode (am_by 24) 14 = .ok (.ifCond .ne 11, 3) by decide +kernel) (by decide) (by rw [am_b_ne]; exact hx) ?_
  refine am_Rq.thrN (k := 2) (ic := 164) (show decode (am_by 24) 17 = .ok (.new 162, 3) by decide +kernel) rfl h4 rfl (show decode (am_by 24) 20 = .ok (.dup, 1) by decide +kernel) (show decode (am_by 24) 21 = .ok (.invokespecial 164, 3) by decide +kernel) (show decode (am_by 24) 24 = .ok (.athrow, 1) by decide +kernel) ?_
  exact ⟨rfl, rfl⟩
theorem c_requirePreferred (hO : hp[2]? = some (0, [.ref 3, .ref 26, .ref 212])) {t : Nat → Nat} (h : Led hp 3 t) {x : Int32} (hx : rg_r (nI 1) (nI (t 153) - nI 1) x = true) (h4 : 4 ≤ d) : am_Rq (d + 1) 34 0 (am_en [.ref 2, .int x] 2) [] hp (am_Ret fun hp1 v => hp1 = hp ∧ v = none) := by
  show am_Rq _ 34 0 [some (.ref 2), some (.int x)] [] _ _
  have h4 : 4 ≤ d + 1 := by omega
  refine am_Rq.blk (is := [(.iload_n 1, 1), (.iconst 1, 1), (.aload_n 0, 1)]) (q := (3, [some (.ref 2), some (.int x)], [.ref 2, .int (nI 1), .int x])) (by decide +kernel) rfl ?_
  dsimp only
  refine am_Rq.getf (v := .ref 3) (show decode (am_by 34) 3 = .ok (.getfield 12, 3) by decide +kernel) rfl hO rfl ?_
  refine am_Rq.getf (v := .int (nI (t 153))) (show decode (am_by 34) 6 = .ok (.getfield 37, 3) by decide +kernel) rfl (Led.lg h) rfl ?_
  refine am_Rq.blk (is := [(.iconst 1, 1), (.isub, 1)]) (q := (11, [some (.ref 2), some (.int x)], [.int ((nI (t 153)) - (nI 1)), .int (nI 1), .int x])) (by decide +kernel) rfl ?_
  dsimp only
  refine am_Rq.callS (show decode (am_by 34) 11 = .ok (.invokestatic 30, 3) by decide +kernel) rfl [.int x, .int (nI 1), .int ((nI (t 153)) - (nI 1))] [] rfl rfl (Nat.le_of_ble_eq_true rfl) rfl rfl (c_within x (nI 1) ((nI (t 153)) - (nI 1))) ?_
  rintro hq _ ⟨e1, rfl⟩
  rw [e1]
  clear e1 hq
  show am_Rq _ 34 14 [some (.ref 2), some (.int x)] [.int (nI (am_b (rg_r (nI 1) ((nI (t 153)) - (nI 1)) x)))] _ _
  refine am_Rq.if1T (t := 25) (show decode (am_by 34) 14 = .ok (.ifCond .ne 11, 3) by decide +kernel) (by decide) (by rw [am_b_ne]; exact hx) ?_
  refine am_Rq.ret (v := none) (show decode (am_by 34) 25 = .ok (.return_, 1) by decide +kernel) rfl rfl ?_
  exact ⟨_, rfl, rfl, rfl⟩
theorem c_requirePreferred_no (hO : hp[2]? = some (0, [.ref 3, .ref 26, .ref 212])) {t : Nat → Nat} (h : Led hp 3 t) {x : Int32} (hx : rg_r (nI 1) (nI (t 153) - nI 1) x = false) (h4 : 4 ≤ d) : am_Rq (d + 1) 34 0 (am_en [.ref 2, .int x] 2) [] hp (c_No 2 hp) := by
  show am_Rq _ 34 0 [some (.ref 2), some (.int x)] [] _ _
  have h4 : 4 ≤ d + 1 := by omega
  refine am_Rq.blk (is := [(.iload_n 1, 1), (.iconst 1, 1), (.aload_n 0, 1)]) (q := (3, [some (.ref 2), some (.int x)], [.ref 2, .int (nI 1), .int x])) (by decide +kernel) rfl ?_
  dsimp only
  refine am_Rq.getf (v := .ref 3) (show decode (am_by 34) 3 = .ok (.getfield 12, 3) by decide +kernel) rfl hO rfl ?_
  refine am_Rq.getf (v := .int (nI (t 153))) (show decode (am_by 34) 6 = .ok (.getfield 37, 3) by decide +kernel) rfl (Led.lg h) rfl ?_
  refine am_Rq.blk (is := [(.iconst 1, 1), (.isub, 1)]) (q := (11, [some (.ref 2), some (.int x)], [.int ((nI (t 153)) - (nI 1)), .int (nI 1), .int x])) (by decide +kernel) rfl ?_
  dsimp only
  refine am_Rq.callS (show decode (am_by 34) 11 = .ok (.invokestatic 30, 3) by decide +kernel) rfl [.int x, .int (nI 1), .int ((nI (t 153)) - (nI 1))] [] rfl rfl (Nat.le_of_ble_eq_true rfl) rfl rfl (c_within x (nI 1) ((nI (t 153)) - (nI 1))) ?_
  rintro hq _ ⟨e1, rfl⟩
  rw [e1]
  clear e1 hq
  show am_Rq _ 34 14 [some (.ref 2), some (.int x)] [.int (nI (am_b (rg_r (nI 1) ((nI (t 153)) - (nI 1)) x)))] _ _
  refine am_Rq.if1F (show decode (am_by 34) 14 = .ok (.ifCond .ne 11, 3) by decide +kernel) (by decide) (by rw [am_b_ne]; exact hx) ?_
  refine am_Rq.thrN (k := 2) (ic := 164) (show decode (am_by 34) 17 = .ok (.new 162, 3) by decide +kernel) rfl h4 rfl (show decode (am_by 34) 20 = .ok (.dup, 1) by decide +kernel) (show decode (am_by 34) 21 = .ok (.invokespecial 164, 3) by decide +kernel) (show decode (am_by 34) 24 = .ok (.athrow, 1) by decide +kernel) ?_
  exact ⟨rfl, rfl⟩
theorem c_requireGrant (hO : hp[2]? = some (0, [.ref 3, .ref 26, .ref 212])) {t : Nat → Nat} (h : Led hp 3 t) {x : Int32} (hx : rg_r (nI 0) (nI (t 82) - nI 1) x = true) (h4 : 4 ≤ d) : am_Rq (d + 1) 49 0 (am_en [.ref 2, .int x] 2) [] hp (am_Ret fun hp1 v => hp1 = hp ∧ v = none) := by
  show am_Rq _ 49 0 [some (.ref 2), some (.int x)] [] _ _
  have h4 : 4 ≤ d + 1 := by omega
  refine am_Rq.blk (is := [(.iload_n 1, 1), (.iconst 0, 1), (.aload_n 0, 1)]) (q := (3, [some (.ref 2), some (.int x)], [.ref 2, .int (nI 0), .int x])) (by decide +kernel) rfl ?_
  dsimp only
  refine am_Rq.getf (v := .ref 3) (show decode (am_by 49) 3 = .ok (.getfield 12, 3) by decide +kernel) rfl hO rfl ?_
  refine am_Rq.getf (v := .int (nI (t 82))) (show decode (am_by 49) 6 = .ok (.getfield 97, 3) by decide +kernel) rfl (Led.lg h) rfl ?_
  refine am_Rq.blk (is := [(.iconst 1, 1), (.isub, 1)]) (q := (11, [some (.ref 2), some (.int x)], [.int ((nI (t 82)) - (nI 1)), .int (nI 0), .int x])) (by decide +kernel) rfl ?_
  dsimp only
  refine am_Rq.callS (show decode (am_by 49) 11 = .ok (.invokestatic 30, 3) by decide +kernel) rfl [.int x, .int (nI 0), .int ((nI (t 82)) - (nI 1))] [] rfl rfl (Nat.le_of_ble_eq_true rfl) rfl rfl (c_within x (nI 0) ((nI (t 82)) - (nI 1))) ?_
  rintro hq _ ⟨e1, rfl⟩
  rw [e1]
  clear e1 hq
  show am_Rq _ 49 14 [some (.ref 2), some (.int x)] [.int (nI (am_b (rg_r (nI 0) ((nI (t 82)) - (nI 1)) x)))] _ _
  refine am_Rq.if1T (t := 25) (show decode (am_by 49) 14 = .ok (.ifCond .ne 11, 3) by decide +kernel) (by decide) (by rw [am_b_ne]; exact hx) ?_
  refine am_Rq.ret (v := none) (show decode (am_by 49) 25 = .ok (.return_, 1) by decide +kernel) rfl rfl ?_
  exact ⟨_, rfl, rfl, rfl⟩
theorem c_requireGrant_no (hO : hp[2]? = some (0, [.ref 3, .ref 26, .ref 212])) {t : Nat → Nat} (h : Led hp 3 t) {x : Int32} (hx : rg_r (nI 0) (nI (t 82) - nI 1) x = false) (h4 : 4 ≤ d) : am_Rq (d + 1) 49 0 (am_en [.ref 2, .int x] 2) [] hp (c_No 2 hp) := by
  show am_Rq _ 49 0 [some (.ref 2), some (.int x)] [] _ _
  have h4 : 4 ≤ d + 1 := by omega
  refine am_Rq.blk (is := [(.iload_n 1, 1), (.iconst 0, 1), (.aload_n 0, 1)]) (q := (3, [some (.ref 2), some (.int x)], [.ref 2, .int (nI 0), .int x])) (by decide +kernel) rfl ?_
  dsimp only
  refine am_Rq.getf (v := .ref 3) (show decode (am_by 49) 3 = .ok (.getfield 12, 3) by decide +kernel) rfl hO rfl ?_
  refine am_Rq.getf (v := .int (nI (t 82))) (show decode (am_by 49) 6 = .ok (.getfield 97, 3) by decide +kernel) rfl (Led.lg h) rfl ?_
  refine am_Rq.blk (is := [(.iconst 1, 1), (.isub, 1)]) (q := (11, [some (.ref 2), some (.int x)], [.int ((nI (t 82)) - (nI 1)), .int (nI 0), .int x])) (by decide +kernel) rfl ?_
  dsimp only
  refine am_Rq.callS (show decode (am_by 49) 11 = .ok (.invokestatic 30, 3) by decide +kernel) rfl [.int x, .int (nI 0), .int ((nI (t 82)) - (nI 1))] [] rfl rfl (Nat.le_of_ble_eq_true rfl) rfl rfl (c_within x (nI 0) ((nI (t 82)) - (nI 1))) ?_
  rintro hq _ ⟨e1, rfl⟩
  rw [e1]
  clear e1 hq
  show am_Rq _ 49 14 [some (.ref 2), some (.int x)] [.int (nI (am_b (rg_r (nI 0) ((nI (t 82)) - (nI 1)) x)))] _ _
  refine am_Rq.if1F (show decode (am_by 49) 14 = .ok (.ifCond .ne 11, 3) by decide +kernel) (by decide) (by rw [am_b_ne]; exact hx) ?_
  refine am_Rq.thrN (k := 2) (ic := 164) (show decode (am_by 49) 17 = .ok (.new 162, 3) by decide +kernel) rfl h4 rfl (show decode (am_by 49) 20 = .ok (.dup, 1) by decide +kernel) (show decode (am_by 49) 21 = .ok (.invokespecial 164, 3) by decide +kernel) (show decode (am_by 49) 24 = .ok (.athrow, 1) by decide +kernel) ?_
  exact ⟨rfl, rfl⟩
theorem c_requireAmount {x : Int32} (hx : rg_r (nI 0) (nI 2000000000) x = true) (h4 : 4 ≤ d) : am_Rq (d + 1) 60 0 (am_en [.ref 2, .int x] 2) [] hp (am_Ret fun hp1 v => hp1 = hp ∧ v = none) := by
  show am_Rq _ 60 0 [some (.ref 2), some (.int x)] [] _ _
  have h4 : 4 ≤ d + 1 := by omega
  refine am_Rq.blk (is := [(.iload_n 1, 1), (.iconst 0, 1), (.ldc 165, 2)]) (q := (4, [some (.ref 2), some (.int x)], [.int (nI 2000000000), .int (nI 0), .int x])) (by decide +kernel) rfl ?_
  dsimp only
  refine am_Rq.callS (show decode (am_by 60) 4 = .ok (.invokestatic 30, 3) by decide +kernel) rfl [.int x, .int (nI 0), .int (nI 2000000000)] [] rfl rfl (Nat.le_of_ble_eq_true rfl) rfl rfl (c_within x (nI 0) (nI 2000000000)) ?_
  rintro hq _ ⟨e1, rfl⟩
  rw [e1]
  clear e1 hq
  show am_Rq _ 60 7 [some (.ref 2), some (.int x)] [.int (nI (am_b (rg_r (nI 0) (nI 2000000000) x)))] _ _
  refine am_Rq.if1T (t := 18) (show decode (am_by 60) 7 = .ok (.ifCond .ne 11, 3) by decide +kernel) (by decide) (by rw [am_b_ne]; exact hx) ?_
  refine am_Rq.ret (v := none) (show decode (am_by 60) 18 = .ok (.return_, 1) by decide +kernel) rfl rfl ?_
  exact ⟨_, rfl, rfl, rfl⟩
theorem c_requireAmount_no {x : Int32} (hx : rg_r (nI 0) (nI 2000000000) x = false) (h4 : 4 ≤ d) : am_Rq (d + 1) 60 0 (am_en [.ref 2, .int x] 2) [] hp (c_No 0 hp) := by
  show am_Rq _ 60 0 [some (.ref 2), some (.int x)] [] _ _
  have h4 : 4 ≤ d + 1 := by omega
  refine am_Rq.blk (is := [(.iload_n 1, 1), (.iconst 0, 1), (.ldc 165, 2)]) (q := (4, [some (.ref 2), some (.int x)], [.int (nI 2000000000), .int (nI 0), .int x])) (by decide +kernel) rfl ?_
  dsimp only
  refine am_Rq.callS (show decode (am_by 60) 4 = .ok (.invokestatic 30, 3) by decide +kernel) rfl [.int x, .int (nI 0), .int (nI 2000000000)] [] rfl rfl (Nat.le_of_ble_eq_true rfl) rfl rfl (c_within x (nI 0) (nI 2000000000)) ?_
  rintro hq _ ⟨e1, rfl⟩
  rw [e1]
  clear e1 hq
  show am_Rq _ 60 7 [some (.ref 2), some (.int x)] [.int (nI (am_b (rg_r (nI 0) (nI 2000000000) x)))] _ _
  refine am_Rq.if1F (show decode (am_by 60) 7 = .ok (.ifCond .ne 11, 3) by decide +kernel) (by decide) (by rw [am_b_ne]; exact hx) ?_
  refine am_Rq.thrN (k := 0) (ic := 36) (show decode (am_by 60) 10 = .ok (.new 34, 3) by decide +kernel) rfl h4 rfl (show decode (am_by 60) 13 = .ok (.dup, 1) by decide +kernel) (show decode (am_by 60) 14 = .ok (.invokespecial 36, 3) by decide +kernel) (show decode (am_by 60) 17 = .ok (.athrow, 1) by decide +kernel) ?_
  exact ⟨rfl, rfl⟩
end C7
