/-! The law's wrappers (rows by prog/law.py). -/
section L95
variable {hp : am_H}
theorem w_preferred {x0 x1 x2 x3 x4 x5 : Int32} {t : Nat → Nat} {nx ct : Nat} {ks : Nat → Nat → Nat} (hC : CS hp t nx ct ks) {ou : Nat → Int64} (hU : hp[246]? = some (101, am_la ou 1)) {v : Int32} {t1 : Nat → Nat} {nx1 ct1 : Nat} {ks1 : Nat → Nat → Nat} (hc : COk 14 [.int x0, .int x1, .int x2, .int x3, .int x4, .int x5] v t nx ct ks t1 nx1 ct1 ks1) : am_Rq 8 13 0 (am_en [.ref 2, .int x0, .int x1, .int x2, .int x3, .int x4, .int x5, .ref 246] 9) [] hp (am_Ret fun hp1 r => r = some (.int (nI 0)) ∧ CS hp1 t1 nx1 ct1 ks1 ∧ hp1[246]? = some (101, am_la (va_up ou 0 v.toInt64) 1) ∧ am_fr (fun x => (3 ≤ x ∧ x < 238) ∨ x = 246) hp hp1) := by
  show am_Rq _ 13 0 [some (.ref 2), some (.int x0), some (.int x1), some (.int x2), some (.int x3), some (.int x4), some (.int x5), some (.ref 246), none] [] _ _
  refine am_Rq.blk (is := [(.aload 7, 2), (.iconst 0, 1), (.aload_n 0, 1), (.iload_n 1, 1), (.iload_n 2, 1), (.iload_n 3, 1), (.iload 4, 2), (.iload 5, 2), (.iload 6, 2)]) (q := (13, [some (.ref 2), some (.int x0), some (.int x1), some (.int x2), some (.int x3), some (.int x4), some (.int x5), some (.ref 246), none], [.int x5, .int x4, .int x3, .int x2, .int x1, .int x0, .ref 2, .int (nI 0), .ref 246])) (by decide +kernel) rfl ?_
  dsimp only
  refine am_Rq.callV (show decode (am_by 13) 13 = .ok (.invokevirtual 7, 3) by decide +kernel) rfl [.int x0, .int x1, .int x2, .int x3, .int x4, .int x5] [.int (nI 0), .ref 246] rfl rfl (Nat.le_of_ble_eq_true rfl) rfl hC.2.1 rfl (hc hp hC) ?_
  rintro hp1 _ ⟨rfl, hC1, hf1⟩
  have hU1 := (hf1.2.2 246 (fun q => by omega)).trans hU
  show am_Rq _ 13 16 [some (.ref 2), some (.int x0), some (.int x1), some (.int x2), some (.int x3), some (.int x4), some (.int x5), some (.ref 246), none] [.int v, .int (nI 0), .ref 246] _ _
  refine am_Rq.blk (is := [(.i2l, 1)]) (q := (17, [some (.ref 2), some (.int x0), some (.int x1), some (.int x2), some (.int x3), some (.int x4), some (.int x5), some (.ref 246), none], [.long v.toInt64, .int (nI 0), .ref 246])) (by decide +kernel) rfl ?_
  dsimp only
  refine am_Rq.las (k := 0) (x := v.toInt64) (show decode (am_by 13) 17 = .ok (.lastore, 1) by decide +kernel) hU1 (by omega) (by omega) (by omega) ?_
  refine am_Rq.blk (is := [(.goto 11, 3)]) (q := (29, [some (.ref 2), some (.int x0), some (.int x1), some (.int x2), some (.int x3), some (.int x4), some (.int x5), some (.ref 246), none], [])) (by decide +kernel) rfl ?_
  dsimp only
  refine am_Rq.blk (is := [(.iconst 0, 1)]) (q := (30, [some (.ref 2), some (.int x0), some (.int x1), some (.int x2), some (.int x3), some (.int x4), some (.int x5), some (.ref 246), none], [.int (nI 0)])) (by decide +kernel) rfl ?_
  dsimp only
  refine am_Rq.ret (v := some (.int (nI 0))) (show decode (am_by 13) 30 = .ok (.ireturn, 1) by decide +kernel) rfl rfl ?_
  exact ⟨_, rfl, rfl, hC1.kept (fun a a1 a2 => am_sn (by omega)), am_ss hU1, (hf1.mono (A' := fun x => (3 ≤ x ∧ x < 238) ∨ x = 246) (fun a q => Or.inl q)).set (Or.inr rfl) hU1 (by simp [am_la_len])⟩
theorem w_preferred_no0 {x0 x1 x2 x3 x4 x5 : Int32} {t : Nat → Nat} {nx ct : Nat} {ks : Nat → Nat → Nat} (hC : CS hp t nx ct ks) {ou : Nat → Int64} (hU : hp[246]? = some (101, am_la ou 1)) (hc : CNo 14 [.int x0, .int x1, .int x2, .int x3, .int x4, .int x5] 0 t nx ct ks) : am_Rq 8 13 0 (am_en [.ref 2, .int x0, .int x1, .int x2, .int x3, .int x4, .int x5, .ref 246] 9) [] hp (am_Ret fun hp1 r => r = some (.int (nI 1)) ∧ hp1 = hp ++ [c_ex 0]) := by
  show am_Rq _ 13 0 [some (.ref 2), some (.int x0), some (.int x1), some (.int x2), some (.int x3), some (.int x4), some (.int x5), some (.ref 246), none] [] _ _
  refine am_Rq.blk (is := [(.aload 7, 2), (.iconst 0, 1), (.aload_n 0, 1), (.iload_n 1, 1), (.iload_n 2, 1), (.iload_n 3, 1), (.iload 4, 2), (.iload 5, 2), (.iload 6, 2)]) (q := (13, [some (.ref 2), some (.int x0), some (.int x1), some (.int x2), some (.int x3), some (.int x4), some (.int x5), some (.ref 246), none], [.int x5, .int x4, .int x3, .int x2, .int x1, .int x0, .ref 2, .int (nI 0), .ref 246])) (by decide +kernel) rfl ?_
  dsimp only
  refine am_Rq.callVX (show decode (am_by 13) 13 = .ok (.invokevirtual 7, 3) by decide +kernel) rfl [.int x0, .int x1, .int x2, .int x3, .int x4, .int x5] [.int (nI 0), .ref 246] rfl rfl (Nat.le_of_ble_eq_true rfl) rfl hC.2.1 rfl (hc hp hC) ?_
  rintro hp1 o ⟨rfl, rfl⟩
  show am_Rq _ 13 21 [some (.ref 2), some (.int x0), some (.int x1), some (.int x2), some (.int x3), some (.int x4), some (.int x5), some (.ref 246), none] [.ref hp.length] (hp ++ [c_ex 0]) _
  refine am_Rq.blk (is := [(.astore 8, 2), (.iconst 1, 1)]) (q := (24, [some (.ref 2), some (.int x0), some (.int x1), some (.int x2), some (.int x3), some (.int x4), some (.int x5), some (.ref 246), some (.ref hp.length)], [.int (nI 1)])) (by decide +kernel) rfl ?_
  dsimp only
  refine am_Rq.ret (v := some (.int (nI 1))) (show decode (am_by 13) 24 = .ok (.ireturn, 1) by decide +kernel) rfl rfl ?_
  exact ⟨_, rfl, rfl, rfl⟩
theorem w_preferred_no1 {x0 x1 x2 x3 x4 x5 : Int32} {t : Nat → Nat} {nx ct : Nat} {ks : Nat → Nat → Nat} (hC : CS hp t nx ct ks) {ou : Nat → Int64} (hU : hp[246]? = some (101, am_la ou 1)) (hc : CNo 14 [.int x0, .int x1, .int x2, .int x3, .int x4, .int x5] 1 t nx ct ks) : am_Rq 8 13 0 (am_en [.ref 2, .int x0, .int x1, .int x2, .int x3, .int x4, .int x5, .ref 246] 9) [] hp (am_Ret fun hp1 r => r = some (.int (nI 2)) ∧ hp1 = hp ++ [c_ex 1]) := by
  show am_Rq _ 13 0 [some (.ref 2), some (.int x0), some (.int x1), some (.int x2), some (.int x3), some (.int x4), some (.int x5), some (.ref 246), none] [] _ _
  refine am_Rq.blk (is := [(.aload 7, 2), (.iconst 0, 1), (.aload_n 0, 1), (.iload_n 1, 1), (.iload_n 2, 1), (.iload_n 3, 1), (.iload 4, 2), (.iload 5, 2), (.iload 6, 2)]) (q := (13, [some (.ref 2), some (.int x0), some (.int x1), some (.int x2), some (.int x3), some (.int x4), some (.int x5), some (.ref 246), none], [.int x5, .int x4, .int x3, .int x2, .int x1, .int x0, .ref 2, .int (nI 0), .ref 246])) (by decide +kernel) rfl ?_
  dsimp only
  refine am_Rq.callVX (show decode (am_by 13) 13 = .ok (.invokevirtual 7, 3) by decide +kernel) rfl [.int x0, .int x1, .int x2, .int x3, .int x4, .int x5] [.int (nI 0), .ref 246] rfl rfl (Nat.le_of_ble_eq_true rfl) rfl hC.2.1 rfl (hc hp hC) ?_
  rintro hp1 o ⟨rfl, rfl⟩
  show am_Rq _ 13 25 [some (.ref 2), some (.int x0), some (.int x1), some (.int x2), some (.int x3), some (.int x4), some (.int x5), some (.ref 246), none] [.ref hp.length] (hp ++ [c_ex 1]) _
  refine am_Rq.blk (is := [(.astore 8, 2), (.iconst 2, 1)]) (q := (28, [some (.ref 2), some (.int x0), some (.int x1), some (.int x2), some (.int x3), some (.int x4), some (.int x5), some (.ref 246), some (.ref hp.length)], [.int (nI 2)])) (by decide +kernel) rfl ?_
  dsimp only
  refine am_Rq.ret (v := some (.int (nI 2))) (show decode (am_by 13) 28 = .ok (.ireturn, 1) by decide +kernel) rfl rfl ?_
  exact ⟨_, rfl, rfl, rfl⟩
theorem w_issue {x0 x1 x2 x3 : Int32} {t : Nat → Nat} {nx ct : Nat} {ks : Nat → Nat → Nat} (hC : CS hp t nx ct ks) {ou : Nat → Int64} (hU : hp[246]? = some (101, am_la ou 1)) {v : Int32} {t1 : Nat → Nat} {nx1 ct1 : Nat} {ks1 : Nat → Nat → Nat} (hc : COk 23 [.int x0, .int x1, .int x2, .int x3] v t nx ct ks t1 nx1 ct1 ks1) : am_Rq 8 22 0 (am_en [.ref 2, .int x0, .int x1, .int x2, .int x3, .ref 246] 7) [] hp (am_Ret fun hp1 r => r = some (.int (nI 0)) ∧ CS hp1 t1 nx1 ct1 ks1 ∧ hp1[246]? = some (101, am_la (va_up ou 0 v.toInt64) 1) ∧ am_fr (fun x => (3 ≤ x ∧ x < 238) ∨ x = 246) hp hp1) := by
  show am_Rq _ 22 0 [some (.ref 2), some (.int x0), some (.int x1), some (.int x2), some (.int x3), some (.ref 246), none] [] _ _
  refine am_Rq.blk (is := [(.aload 5, 2), (.iconst 0, 1), (.aload_n 0, 1), (.iload_n 1, 1), (.iload_n 2, 1), (.iload_n 3, 1), (.iload 4, 2)]) (q := (9, [some (.ref 2), some (.int x0), some (.int x1), some (.int x2), some (.int x3), some (.ref 246), none], [.int x3, .int x2, .int x1, .int x0, .ref 2, .int (nI 0), .ref 246])) (by decide +kernel) rfl ?_
  dsimp only
  refine am_Rq.callV (show decode (am_by 22) 9 = .ok (.invokevirtual 17, 3) by decide +kernel) rfl [.int x0, .int x1, .int x2, .int x3] [.int (nI 0), .ref 246] rfl rfl (Nat.le_of_ble_eq_true rfl) rfl hC.2.1 rfl (hc hp hC) ?_
  rintro hp1 _ ⟨rfl, hC1, hf1⟩
  have hU1 := (hf1.2.2 246 (fun q => by omega)).trans hU
  show am_Rq _ 22 12 [some (.ref 2), some (.int x0), some (.int x1), some (.int x2), some (.int x3), some (.ref 246), none] [.int v, .int (nI 0), .ref 246] _ _
  refine am_Rq.blk (is := [(.i2l, 1)]) (q := (13, [some (.ref 2), some (.int x0), some (.int x1), some (.int x2), some (.int x3), some (.ref 246), none], [.long v.toInt64, .int (nI 0), .ref 246])) (by decide +kernel) rfl ?_
  dsimp only
  refine am_Rq.las (k := 0) (x := v.toInt64) (show decode (am_by 22) 13 = .ok (.lastore, 1) by decide +kernel) hU1 (by omega) (by omega) (by omega) ?_
  refine am_Rq.blk (is := [(.goto 15, 3)]) (q := (29, [some (.ref 2), some (.int x0), some (.int x1), some (.int x2), some (.int x3), some (.ref 246), none], [])) (by decide +kernel) rfl ?_
  dsimp only
  refine am_Rq.blk (is := [(.iconst 0, 1)]) (q := (30, [some (.ref 2), some (.int x0), some (.int x1), some (.int x2), some (.int x3), some (.ref 246), none], [.int (nI 0)])) (by decide +kernel) rfl ?_
  dsimp only
  refine am_Rq.ret (v := some (.int (nI 0))) (show decode (am_by 22) 30 = .ok (.ireturn, 1) by decide +kernel) rfl rfl ?_
  exact ⟨_, rfl, rfl, hC1.kept (fun a a1 a2 => am_sn (by omega)), am_ss hU1, (hf1.mono (A' := fun x => (3 ≤ x ∧ x < 238) ∨ x = 246) (fun a q => Or.inl q)).set (Or.inr rfl) hU1 (by simp [am_la_len])⟩
theorem w_issue_no2 {x0 x1 x2 x3 : Int32} {t : Nat → Nat} {nx ct : Nat} {ks : Nat → Nat → Nat} (hC : CS hp t nx ct ks) {ou : Nat → Int64} (hU : hp[246]? = some (101, am_la ou 1)) (hc : CNo 23 [.int x0, .int x1, .int x2, .int x3] 2 t nx ct ks) : am_Rq 8 22 0 (am_en [.ref 2, .int x0, .int x1, .int x2, .int x3, .ref 246] 7) [] hp (am_Ret fun hp1 r => r = some (.int (nI 1)) ∧ hp1 = hp ++ [c_ex 2]) := by
  show am_Rq _ 22 0 [some (.ref 2), some (.int x0), some (.int x1), some (.int x2), some (.int x3), some (.ref 246), none] [] _ _
  refine am_Rq.blk (is := [(.aload 5, 2), (.iconst 0, 1), (.aload_n 0, 1), (.iload_n 1, 1), (.iload_n 2, 1), (.iload_n 3, 1), (.iload 4, 2)]) (q := (9, [some (.ref 2), some (.int x0), some (.int x1), some (.int x2), some (.int x3), some (.ref 246), none], [.int x3, .int x2, .int x1, .int x0, .ref 2, .int (nI 0), .ref 246])) (by decide +kernel) rfl ?_
  dsimp only
  refine am_Rq.callVX (show decode (am_by 22) 9 = .ok (.invokevirtual 17, 3) by decide +kernel) rfl [.int x0, .int x1, .int x2, .int x3] [.int (nI 0), .ref 246] rfl rfl (Nat.le_of_ble_eq_true rfl) rfl hC.2.1 rfl (hc hp hC) ?_
  rintro hp1 o ⟨rfl, rfl⟩
  show am_Rq _ 22 17 [some (.ref 2), some (.int x0), some (.int x1), some (.int x2), some (.int x3), some (.ref 246), none] [.ref hp.length] (hp ++ [c_ex 2]) _
  refine am_Rq.blk (is := [(.astore 6, 2), (.iconst 1, 1)]) (q := (20, [some (.ref 2), some (.int x0), some (.int x1), some (.int x2), some (.int x3), some (.ref 246), some (.ref hp.length)], [.int (nI 1)])) (by decide +kernel) rfl ?_
  dsimp only
  refine am_Rq.ret (v := some (.int (nI 1))) (show decode (am_by 22) 20 = .ok (.ireturn, 1) by decide +kernel) rfl rfl ?_
  exact ⟨_, rfl, rfl, rfl⟩
theorem w_issue_no0 {x0 x1 x2 x3 : Int32} {t : Nat → Nat} {nx ct : Nat} {ks : Nat → Nat → Nat} (hC : CS hp t nx ct ks) {ou : Nat → Int64} (hU : hp[246]? = some (101, am_la ou 1)) (hc : CNo 23 [.int x0, .int x1, .int x2, .int x3] 0 t nx ct ks) : am_Rq 8 22 0 (am_en [.ref 2, .int x0, .int x1, .int x2, .int x3, .ref 246] 7) [] hp (am_Ret fun hp1 r => r = some (.int (nI 2)) ∧ hp1 = hp ++ [c_ex 0]) := by
  show am_Rq _ 22 0 [some (.ref 2), some (.int x0), some (.int x1), some (.int x2), some (.int x3), some (.ref 246), none] [] _ _
  refine am_Rq.blk (is := [(.aload 5, 2), (.iconst 0, 1), (.aload_n 0, 1), (.iload_n 1, 1), (.iload_n 2, 1), (.iload_n 3, 1), (.iload 4, 2)]) (q := (9, [some (.ref 2), some (.int x0), some (.int x1), some (.int x2), some (.int x3), some (.ref 246), none], [.int x3, .int x2, .int x1, .int x0, .ref 2, .int (nI 0), .ref 246])) (by decide +kernel) rfl ?_
  dsimp only
  refine am_Rq.callVX (show decode (am_by 22) 9 = .ok (.invokevirtual 17, 3) by decide +kernel) rfl [.int x0, .int x1, .int x2, .int x3] [.int (nI 0), .ref 246] rfl rfl (Nat.le_of_ble_eq_true rfl) rfl hC.2.1 rfl (hc hp hC) ?_
  rintro hp1 o ⟨rfl, rfl⟩
  show am_Rq _ 22 21 [some (.ref 2), some (.int x0), some (.int x1), some (.int x2), some (.int x3), some (.ref 246), none] [.ref hp.length] (hp ++ [c_ex 0]) _
  refine am_Rq.blk (is := [(.astore 6, 2), (.iconst 2, 1)]) (q := (24, [some (.ref 2), some (.int x0), some (.int x1), some (.int x2), some (.int x3), some (.ref 246), some (.ref hp.length)], [.int (nI 2)])) (by decide +kernel) rfl ?_
  dsimp only
  refine am_Rq.ret (v := some (.int (nI 2))) (show decode (am_by 22) 24 = .ok (.ireturn, 1) by decide +kernel) rfl rfl ?_
  exact ⟨_, rfl, rfl, rfl⟩
theorem w_issue_no1 {x0 x1 x2 x3 : Int32} {t : Nat → Nat} {nx ct : Nat} {ks : Nat → Nat → Nat} (hC : CS hp t nx ct ks) {ou : Nat → Int64} (hU : hp[246]? = some (101, am_la ou 1)) (hc : CNo 23 [.int x0, .int x1, .int x2, .int x3] 1 t nx ct ks) : am_Rq 8 22 0 (am_en [.ref 2, .int x0, .int x1, .int x2, .int x3, .ref 246] 7) [] hp (am_Ret fun hp1 r => r = some (.int (nI 3)) ∧ hp1 = hp ++ [c_ex 1]) := by
  show am_Rq _ 22 0 [some (.ref 2), some (.int x0), some (.int x1), some (.int x2), some (.int x3), some (.ref 246), none] [] _ _
  refine am_Rq.blk (is := [(.aload 5, 2), (.iconst 0, 1), (.aload_n 0, 1), (.iload_n 1, 1), (.iload_n 2, 1), (.iload_n 3, 1), (.iload 4, 2)]) (q := (9, [some (.ref 2), some (.int x0), some (.int x1), some (.int x2), some (.int x3), some (.ref 246), none], [.int x3, .int x2, .int x1, .int x0, .ref 2, .int (nI 0), .ref 246])) (by decide +kernel) rfl ?_
  dsimp only
  refine am_Rq.callVX (show decode (am_by 22) 9 = .ok (.invokevirtual 17, 3) by decide +kernel) rfl [.int x0, .int x1, .int x2, .int x3] [.int (nI 0), .ref 246] rfl rfl (Nat.le_of_ble_eq_true rfl) rfl hC.2.1 rfl (hc hp hC) ?_
  rintro hp1 o ⟨rfl, rfl⟩
  show am_Rq _ 22 25 [some (.ref 2), some (.int x0), some (.int x1), some (.int x2), some (.int x3), some (.ref 246), none] [.ref hp.length] (hp ++ [c_ex 1]) _
  refine am_Rq.blk (is := [(.astore 6, 2), (.iconst 3, 1)]) (q := (28, [some (.ref 2), some (.int x0), some (.int x1), some (.int x2), some (.int x3), some (.ref 246), some (.ref hp.length)], [.int (nI 3)])) (by decide +kernel) rfl ?_
  dsimp only
  refine am_Rq.ret (v := some (.int (nI 3))) (show decode (am_by 22) 28 = .ok (.ireturn, 1) by decide +kernel) rfl rfl ?_
  exact ⟨_, rfl, rfl, rfl⟩
theorem w_transfer {x0 x1 x2 x3 : Int32} {t : Nat → Nat} {nx ct : Nat} {ks : Nat → Nat → Nat} (hC : CS hp t nx ct ks) {ou : Nat → Int64} (hU : hp[246]? = some (101, am_la ou 1)) {v : Int32} {t1 : Nat → Nat} {nx1 ct1 : Nat} {ks1 : Nat → Nat → Nat} (hc : COk 30 [.int x0, .int x1, .int x2, .int x3] v t nx ct ks t1 nx1 ct1 ks1) : am_Rq 8 29 0 (am_en [.ref 2, .int x0, .int x1, .int x2, .int x3, .ref 246] 7) [] hp (am_Ret fun hp1 r => r = some (.int (nI 0)) ∧ CS hp1 t1 nx1 ct1 ks1 ∧ hp1[246]? = some (101, am_la (va_up ou 0 v.toInt64) 1) ∧ am_fr (fun x => (3 ≤ x ∧ x < 238) ∨ x = 246) hp hp1) := by
  show am_Rq _ 29 0 [some (.ref 2), some (.int x0), some (.int x1), some (.int x2), some (.int x3), some (.ref 246), none] [] _ _
  refine am_Rq.blk (is := [(.aload 5, 2), (.iconst 0, 1), (.aload_n 0, 1), (.iload_n 1, 1), (.iload_n 2, 1), (.iload_n 3, 1), (.iload 4, 2)]) (q := (9, [some (.ref 2), some (.int x0), some (.int x1), some (.int x2), some (.int x3), some (.ref 246), none], [.int x3, .int x2, .int x1, .int x0, .ref 2, .int (nI 0), .ref 246])) (by decide +kernel) rfl ?_
  dsimp only
  refine am_Rq.callV (show decode (am_by 29) 9 = .ok (.invokevirtual 23, 3) by decide +kernel) rfl [.int x0, .int x1, .int x2, .int x3] [.int (nI 0), .ref 246] rfl rfl (Nat.le_of_ble_eq_true rfl) rfl hC.2.1 rfl (hc hp hC) ?_
  rintro hp1 _ ⟨rfl, hC1, hf1⟩
  have hU1 := (hf1.2.2 246 (fun q => by omega)).trans hU
  show am_Rq _ 29 12 [some (.ref 2), some (.int x0), some (.int x1), some (.int x2), some (.int x3), some (.ref 246), none] [.int v, .int (nI 0), .ref 246] _ _
  refine am_Rq.blk (is := [(.i2l, 1)]) (q := (13, [some (.ref 2), some (.int x0), some (.int x1), some (.int x2), some (.int x3), some (.ref 246), none], [.long v.toInt64, .int (nI 0), .ref 246])) (by decide +kernel) rfl ?_
  dsimp only
  refine am_Rq.las (k := 0) (x := v.toInt64) (show decode (am_by 29) 13 = .ok (.lastore, 1) by decide +kernel) hU1 (by omega) (by omega) (by omega) ?_
  refine am_Rq.blk (is := [(.goto 15, 3)]) (q := (29, [some (.ref 2), some (.int x0), some (.int x1), some (.int x2), some (.int x3), some (.ref 246), none], [])) (by decide +kernel) rfl ?_
  dsimp only
  refine am_Rq.blk (is := [(.iconst 0, 1)]) (q := (30, [some (.ref 2), some (.int x0), some (.int x1), some (.int x2), some (.int x3), some (.ref 246), none], [.int (nI 0)])) (by decide +kernel) rfl ?_
  dsimp only
  refine am_Rq.ret (v := some (.int (nI 0))) (show decode (am_by 29) 30 = .ok (.ireturn, 1) by decide +kernel) rfl rfl ?_
  exact ⟨_, rfl, rfl, hC1.kept (fun a a1 a2 => am_sn (by omega)), am_ss hU1, (hf1.mono (A' := fun x => (3 ≤ x ∧ x < 238) ∨ x = 246) (fun a q => Or.inl q)).set (Or.inr rfl) hU1 (by simp [am_la_len])⟩
theorem w_transfer_no2 {x0 x1 x2 x3 : Int32} {t : Nat → Nat} {nx ct : Nat} {ks : Nat → Nat → Nat} (hC : CS hp t nx ct ks) {ou : Nat → Int64} (hU : hp[246]? = some (101, am_la ou 1)) (hc : CNo 30 [.int x0, .int x1, .int x2, .int x3] 2 t nx ct ks) : am_Rq 8 29 0 (am_en [.ref 2, .int x0, .int x1, .int x2, .int x3, .ref 246] 7) [] hp (am_Ret fun hp1 r => r = some (.int (nI 1)) ∧ hp1 = hp ++ [c_ex 2]) := by
  show am_Rq _ 29 0 [some (.ref 2), some (.int x0), some (.int x1), some (.int x2), some (.int x3), some (.ref 246), none] [] _ _
  refine am_Rq.blk (is := [(.aload 5, 2), (.iconst 0, 1), (.aload_n 0, 1), (.iload_n 1, 1), (.iload_n 2, 1), (.iload_n 3, 1), (.iload 4, 2)]) (q := (9, [some (.ref 2), some (.int x0), some (.int x1), some (.int x2), some (.int x3), some (.ref 246), none], [.int x3, .int x2, .int x1, .int x0, .ref 2, .int (nI 0), .ref 246])) (by decide +kernel) rfl ?_
  dsimp only
  refine am_Rq.callVX (show decode (am_by 29) 9 = .ok (.invokevirtual 23, 3) by decide +kernel) rfl [.int x0, .int x1, .int x2, .int x3] [.int (nI 0), .ref 246] rfl rfl (Nat.le_of_ble_eq_true rfl) rfl hC.2.1 rfl (hc hp hC) ?_
  rintro hp1 o ⟨rfl, rfl⟩
  show am_Rq _ 29 17 [some (.ref 2), some (.int x0), some (.int x1), some (.int x2), some (.int x3), some (.ref 246), none] [.ref hp.length] (hp ++ [c_ex 2]) _
  refine am_Rq.blk (is := [(.astore 6, 2), (.iconst 1, 1)]) (q := (20, [some (.ref 2), some (.int x0), some (.int x1), some (.int x2), some (.int x3), some (.ref 246), some (.ref hp.length)], [.int (nI 1)])) (by decide +kernel) rfl ?_
  dsimp only
  refine am_Rq.ret (v := some (.int (nI 1))) (show decode (am_by 29) 20 = .ok (.ireturn, 1) by decide +kernel) rfl rfl ?_
  exact ⟨_, rfl, rfl, rfl⟩
theorem w_transfer_no0 {x0 x1 x2 x3 : Int32} {t : Nat → Nat} {nx ct : Nat} {ks : Nat → Nat → Nat} (hC : CS hp t nx ct ks) {ou : Nat → Int64} (hU : hp[246]? = some (101, am_la ou 1)) (hc : CNo 30 [.int x0, .int x1, .int x2, .int x3] 0 t nx ct ks) : am_Rq 8 29 0 (am_en [.ref 2, .int x0, .int x1, .int x2, .int x3, .ref 246] 7) [] hp (am_Ret fun hp1 r => r = some (.int (nI 2)) ∧ hp1 = hp ++ [c_ex 0]) := by
  show am_Rq _ 29 0 [some (.ref 2), some (.int x0), some (.int x1), some (.int x2), some (.int x3), some (.ref 246), none] [] _ _
  refine am_Rq.blk (is := [(.aload 5, 2), (.iconst 0, 1), (.aload_n 0, 1), (.iload_n 1, 1), (.iload_n 2, 1), (.iload_n 3, 1), (.iload 4, 2)]) (q := (9, [some (.ref 2), some (.int x0), some (.int x1), some (.int x2), some (.int x3), some (.ref 246), none], [.int x3, .int x2, .int x1, .int x0, .ref 2, .int (nI 0), .ref 246])) (by decide +kernel) rfl ?_
  dsimp only
  refine am_Rq.callVX (show decode (am_by 29) 9 = .ok (.invokevirtual 23, 3) by decide +kernel) rfl [.int x0, .int x1, .int x2, .int x3] [.int (nI 0), .ref 246] rfl rfl (Nat.le_of_ble_eq_true rfl) rfl hC.2.1 rfl (hc hp hC) ?_
  rintro hp1 o ⟨rfl, rfl⟩
  show am_Rq _ 29 21 [some (.ref 2), some (.int x0), some (.int x1), some (.int x2), some (.int x3), some (.ref 246), none] [.ref hp.length] (hp ++ [c_ex 0]) _
  refine am_Rq.blk (is := [(.astore 6, 2), (.iconst 2, 1)]) (q := (24, [some (.ref 2), some (.int x0), some (.int x1), some (.int x2), some (.int x3), some (.ref 246), some (.ref hp.length)], [.int (nI 2)])) (by decide +kernel) rfl ?_
  dsimp only
  refine am_Rq.ret (v := some (.int (nI 2))) (show decode (am_by 29) 24 = .ok (.ireturn, 1) by decide +kernel) rfl rfl ?_
  exact ⟨_, rfl, rfl, rfl⟩
theorem w_transfer_no1 {x0 x1 x2 x3 : Int32} {t : Nat → Nat} {nx ct : Nat} {ks : Nat → Nat → Nat} (hC : CS hp t nx ct ks) {ou : Nat → Int64} (hU : hp[246]? = some (101, am_la ou 1)) (hc : CNo 30 [.int x0, .int x1, .int x2, .int x3] 1 t nx ct ks) : am_Rq 8 29 0 (am_en [.ref 2, .int x0, .int x1, .int x2, .int x3, .ref 246] 7) [] hp (am_Ret fun hp1 r => r = some (.int (nI 3)) ∧ hp1 = hp ++ [c_ex 1]) := by
  show am_Rq _ 29 0 [some (.ref 2), some (.int x0), some (.int x1), some (.int x2), some (.int x3), some (.ref 246), none] [] _ _
  refine am_Rq.blk (is := [(.aload 5, 2), (.iconst 0, 1), (.aload_n 0, 1), (.iload_n 1, 1), (.iload_n 2, 1), (.iload_n 3, 1), (.iload 4, 2)]) (q := (9, [some (.ref 2), some (.int x0), some (.int x1), some (.int x2), some (.int x3), some (.ref 246), none], [.int x3, .int x2, .int x1, .int x0, .ref 2, .int (nI 0), .ref 246])) (by decide +kernel) rfl ?_
  dsimp only
  refine am_Rq.callVX (show decode (am_by 29) 9 = .ok (.invokevirtual 23, 3) by decide +kernel) rfl [.int x0, .int x1, .int x2, .int x3] [.int (nI 0), .ref 246] rfl rfl (Nat.le_of_ble_eq_true rfl) rfl hC.2.1 rfl (hc hp hC) ?_
  rintro hp1 o ⟨rfl, rfl⟩
  show am_Rq _ 29 25 [some (.ref 2), some (.int x0), some (.int x1), some (.int x2), some (.int x3), some (.ref 246), none] [.ref hp.length] (hp ++ [c_ex 1]) _
  refine am_Rq.blk (is := [(.astore 6, 2), (.iconst 3, 1)]) (q := (28, [some (.ref 2), some (.int x0), some (.int x1), some (.int x2), some (.int x3), some (.ref 246), some (.ref hp.length)], [.int (nI 3)])) (by decide +kernel) rfl ?_
  dsimp only
  refine am_Rq.ret (v := some (.int (nI 3))) (show decode (am_by 29) 28 = .ok (.ireturn, 1) by decide +kernel) rfl rfl ?_
  exact ⟨_, rfl, rfl, rfl⟩
theorem w_convert {x0 x1 x2 : Int32} {t : Nat → Nat} {nx ct : Nat} {ks : Nat → Nat → Nat} (hC : CS hp t nx ct ks) {ou : Nat → Int64} (hU : hp[246]? = some (101, am_la ou 1)) {v : Int32} {t1 : Nat → Nat} {nx1 ct1 : Nat} {ks1 : Nat → Nat → Nat} (hc : COk 33 [.int x0, .int x1, .int x2] v t nx ct ks t1 nx1 ct1 ks1) : am_Rq 8 32 0 (am_en [.ref 2, .int x0, .int x1, .int x2, .ref 246] 6) [] hp (am_Ret fun hp1 r => r = some (.int (nI 0)) ∧ CS hp1 t1 nx1 ct1 ks1 ∧ hp1[246]? = some (101, am_la (va_up ou 0 v.toInt64) 1) ∧ am_fr (fun x => (3 ≤ x ∧ x < 238) ∨ x = 246) hp hp1) := by
  show am_Rq _ 32 0 [some (.ref 2), some (.int x0), some (.int x1), some (.int x2), some (.ref 246), none] [] _ _
  refine am_Rq.blk (is := [(.aload 4, 2), (.iconst 0, 1), (.aload_n 0, 1), (.iload_n 1, 1), (.iload_n 2, 1), (.iload_n 3, 1)]) (q := (7, [some (.ref 2), some (.int x0), some (.int x1), some (.int x2), some (.ref 246), none], [.int x2, .int x1, .int x0, .ref 2, .int (nI 0), .ref 246])) (by decide +kernel) rfl ?_
  dsimp only
  refine am_Rq.callV (show decode (am_by 32) 7 = .ok (.invokevirtual 26, 3) by decide +kernel) rfl [.int x0, .int x1, .int x2] [.int (nI 0), .ref 246] rfl rfl (Nat.le_of_ble_eq_true rfl) rfl hC.2.1 rfl (hc hp hC) ?_
  rintro hp1 _ ⟨rfl, hC1, hf1⟩
  have hU1 := (hf1.2.2 246 (fun q => by omega)).trans hU
  show am_Rq _ 32 10 [some (.ref 2), some (.int x0), some (.int x1), some (.int x2), some (.ref 246), none] [.int v, .int (nI 0), .ref 246] _ _
  refine am_Rq.blk (is := [(.i2l, 1)]) (q := (11, [some (.ref 2), some (.int x0), some (.int x1), some (.int x2), some (.ref 246), none], [.long v.toInt64, .int (nI 0), .ref 246])) (by decide +kernel) rfl ?_
  dsimp only
  refine am_Rq.las (k := 0) (x := v.toInt64) (show decode (am_by 32) 11 = .ok (.lastore, 1) by decide +kernel) hU1 (by omega) (by omega) (by omega) ?_
  refine am_Rq.blk (is := [(.goto 15, 3)]) (q := (27, [some (.ref 2), some (.int x0), some (.int x1), some (.int x2), some (.ref 246), none], [])) (by decide +kernel) rfl ?_
  dsimp only
  refine am_Rq.blk (is := [(.iconst 0, 1)]) (q := (28, [some (.ref 2), some (.int x0), some (.int x1), some (.int x2), some (.ref 246), none], [.int (nI 0)])) (by decide +kernel) rfl ?_
  dsimp only
  refine am_Rq.ret (v := some (.int (nI 0))) (show decode (am_by 32) 28 = .ok (.ireturn, 1) by decide +kernel) rfl rfl ?_
  exact ⟨_, rfl, rfl, hC1.kept (fun a a1 a2 => am_sn (by omega)), am_ss hU1, (hf1.mono (A' := fun x => (3 ≤ x ∧ x < 238) ∨ x = 246) (fun a q => Or.inl q)).set (Or.inr rfl) hU1 (by simp [am_la_len])⟩
theorem w_convert_no2 {x0 x1 x2 : Int32} {t : Nat → Nat} {nx ct : Nat} {ks : Nat → Nat → Nat} (hC : CS hp t nx ct ks) {ou : Nat → Int64} (hU : hp[246]? = some (101, am_la ou 1)) (hc : CNo 33 [.int x0, .int x1, .int x2] 2 t nx ct ks) : am_Rq 8 32 0 (am_en [.ref 2, .int x0, .int x1, .int x2, .ref 246] 6) [] hp (am_Ret fun hp1 r => r = some (.int (nI 1)) ∧ hp1 = hp ++ [c_ex 2]) := by
  show am_Rq _ 32 0 [some (.ref 2), some (.int x0), some (.int x1), some (.int x2), some (.ref 246), none] [] _ _
  refine am_Rq.blk (is := [(.aload 4, 2), (.iconst 0, 1), (.aload_n 0, 1), (.iload_n 1, 1), (.iload_n 2, 1), (.iload_n 3, 1)]) (q := (7, [some (.ref 2), some (.int x0), some (.int x1), some (.int x2), some (.ref 246), none], [.int x2, .int x1, .int x0, .ref 2, .int (nI 0), .ref 246])) (by decide +kernel) rfl ?_
  dsimp only
  refine am_Rq.callVX (show decode (am_by 32) 7 = .ok (.invokevirtual 26, 3) by decide +kernel) rfl [.int x0, .int x1, .int x2] [.int (nI 0), .ref 246] rfl rfl (Nat.le_of_ble_eq_true rfl) rfl hC.2.1 rfl (hc hp hC) ?_
  rintro hp1 o ⟨rfl, rfl⟩
  show am_Rq _ 32 15 [some (.ref 2), some (.int x0), some (.int x1), some (.int x2), some (.ref 246), none] [.ref hp.length] (hp ++ [c_ex 2]) _
  refine am_Rq.blk (is := [(.astore 5, 2), (.iconst 1, 1)]) (q := (18, [some (.ref 2), some (.int x0), some (.int x1), some (.int x2), some (.ref 246), some (.ref hp.length)], [.int (nI 1)])) (by decide +kernel) rfl ?_
  dsimp only
  refine am_Rq.ret (v := some (.int (nI 1))) (show decode (am_by 32) 18 = .ok (.ireturn, 1) by decide +kernel) rfl rfl ?_
  exact ⟨_, rfl, rfl, rfl⟩
theorem w_convert_no0 {x0 x1 x2 : Int32} {t : Nat → Nat} {nx ct : Nat} {ks : Nat → Nat → Nat} (hC : CS hp t nx ct ks) {ou : Nat → Int64} (hU : hp[246]? = some (101, am_la ou 1)) (hc : CNo 33 [.int x0, .int x1, .int x2] 0 t nx ct ks) : am_Rq 8 32 0 (am_en [.ref 2, .int x0, .int x1, .int x2, .ref 246] 6) [] hp (am_Ret fun hp1 r => r = some (.int (nI 2)) ∧ hp1 = hp ++ [c_ex 0]) := by
  show am_Rq _ 32 0 [some (.ref 2), some (.int x0), some (.int x1), some (.int x2), some (.ref 246), none] [] _ _
  refine am_Rq.blk (is := [(.aload 4, 2), (.iconst 0, 1), (.aload_n 0, 1), (.iload_n 1, 1), (.iload_n 2, 1), (.iload_n 3, 1)]) (q := (7, [some (.ref 2), some (.int x0), some (.int x1), some (.int x2), some (.ref 246), none], [.int x2, .int x1, .int x0, .ref 2, .int (nI 0), .ref 246])) (by decide +kernel) rfl ?_
  dsimp only
  refine am_Rq.callVX (show decode (am_by 32) 7 = .ok (.invokevirtual 26, 3) by decide +kernel) rfl [.int x0, .int x1, .int x2] [.int (nI 0), .ref 246] rfl rfl (Nat.le_of_ble_eq_true rfl) rfl hC.2.1 rfl (hc hp hC) ?_
  rintro hp1 o ⟨rfl, rfl⟩
  show am_Rq _ 32 19 [some (.ref 2), some (.int x0), some (.int x1), some (.int x2), some (.ref 246), none] [.ref hp.length] (hp ++ [c_ex 0]) _
  refine am_Rq.blk (is := [(.astore 5, 2), (.iconst 2, 1)]) (q := (22, [some (.ref 2), some (.int x0), some (.int x1), some (.int x2), some (.ref 246), some (.ref hp.length)], [.int (nI 2)])) (by decide +kernel) rfl ?_
  dsimp only
  refine am_Rq.ret (v := some (.int (nI 2))) (show decode (am_by 32) 22 = .ok (.ireturn, 1) by decide +kernel) rfl rfl ?_
  exact ⟨_, rfl, rfl, rfl⟩
theorem w_convert_no1 {x0 x1 x2 : Int32} {t : Nat → Nat} {nx ct : Nat} {ks : Nat → Nat → Nat} (hC : CS hp t nx ct ks) {ou : Nat → Int64} (hU : hp[246]? = some (101, am_la ou 1)) (hc : CNo 33 [.int x0, .int x1, .int x2] 1 t nx ct ks) : am_Rq 8 32 0 (am_en [.ref 2, .int x0, .int x1, .int x2, .ref 246] 6) [] hp (am_Ret fun hp1 r => r = some (.int (nI 3)) ∧ hp1 = hp ++ [c_ex 1]) := by
  show am_Rq _ 32 0 [some (.ref 2), some (.int x0), some (.int x1), some (.int x2), some (.ref 246), none] [] _ _
  refine am_Rq.blk (is := [(.aload 4, 2), (.iconst 0, 1), (.aload_n 0, 1), (.iload_n 1, 1), (.iload_n 2, 1), (.iload_n 3, 1)]) (q := (7, [some (.ref 2), some (.int x0), some (.int x1), some (.int x2), some (.ref 246), none], [.int x2, .int x1, .int x0, .ref 2, .int (nI 0), .ref 246])) (by decide +kernel) rfl ?_
  dsimp only
  refine am_Rq.callVX (show decode (am_by 32) 7 = .ok (.invokevirtual 26, 3) by decide +kernel) rfl [.int x0, .int x1, .int x2] [.int (nI 0), .ref 246] rfl rfl (Nat.le_of_ble_eq_true rfl) rfl hC.2.1 rfl (hc hp hC) ?_
  rintro hp1 o ⟨rfl, rfl⟩
  show am_Rq _ 32 23 [some (.ref 2), some (.int x0), some (.int x1), some (.int x2), some (.ref 246), none] [.ref hp.length] (hp ++ [c_ex 1]) _
  refine am_Rq.blk (is := [(.astore 5, 2), (.iconst 3, 1)]) (q := (26, [some (.ref 2), some (.int x0), some (.int x1), some (.int x2), some (.ref 246), some (.ref hp.length)], [.int (nI 3)])) (by decide +kernel) rfl ?_
  dsimp only
  refine am_Rq.ret (v := some (.int (nI 3))) (show decode (am_by 32) 26 = .ok (.ireturn, 1) by decide +kernel) rfl rfl ?_
  exact ⟨_, rfl, rfl, rfl⟩
theorem w_pool {x0 : Int32} {t : Nat → Nat} {nx ct : Nat} {ks : Nat → Nat → Nat} (hC : CS hp t nx ct ks) {ou : Nat → Int64} (hU : hp[246]? = some (101, am_la ou 1)) {v : Int32} {t1 : Nat → Nat} {nx1 ct1 : Nat} {ks1 : Nat → Nat → Nat} (hc : COk 36 [.int x0] v t nx ct ks t1 nx1 ct1 ks1) : am_Rq 8 35 0 (am_en [.ref 2, .int x0, .ref 246] 4) [] hp (am_Ret fun hp1 r => r = some (.int (nI 0)) ∧ CS hp1 t1 nx1 ct1 ks1 ∧ hp1[246]? = some (101, am_la (va_up ou 0 v.toInt64) 1) ∧ am_fr (fun x => (3 ≤ x ∧ x < 238) ∨ x = 246) hp hp1) := by
  show am_Rq _ 35 0 [some (.ref 2), some (.int x0), some (.ref 246), none] [] _ _
  refine am_Rq.blk (is := [(.aload_n 2, 1), (.iconst 0, 1), (.aload_n 0, 1), (.iload_n 1, 1)]) (q := (4, [some (.ref 2), some (.int x0), some (.ref 246), none], [.int x0, .ref 2, .int (nI 0), .ref 246])) (by decide +kernel) rfl ?_
  dsimp only
  refine am_Rq.callV (show decode (am_by 35) 4 = .ok (.invokevirtual 30, 3) by decide +kernel) rfl [.int x0] [.int (nI 0), .ref 246] rfl rfl (Nat.le_of_ble_eq_true rfl) rfl hC.2.1 rfl (hc hp hC) ?_
  rintro hp1 _ ⟨rfl, hC1, hf1⟩
  have hU1 := (hf1.2.2 246 (fun q => by omega)).trans hU
  show am_Rq _ 35 7 [some (.ref 2), some (.int x0), some (.ref 246), none] [.int v, .int (nI 0), .ref 246] _ _
  refine am_Rq.blk (is := [(.i2l, 1)]) (q := (8, [some (.ref 2), some (.int x0), some (.ref 246), none], [.long v.toInt64, .int (nI 0), .ref 246])) (by decide +kernel) rfl ?_
  dsimp only
  refine am_Rq.las (k := 0) (x := v.toInt64) (show decode (am_by 35) 8 = .ok (.lastore, 1) by decide +kernel) hU1 (by omega) (by omega) (by omega) ?_
  refine am_Rq.blk (is := [(.goto 6, 3)]) (q := (15, [some (.ref 2), some (.int x0), some (.ref 246), none], [])) (by decide +kernel) rfl ?_
  dsimp only
  refine am_Rq.blk (is := [(.iconst 0, 1)]) (q := (16, [some (.ref 2), some (.int x0), some (.ref 246), none], [.int (nI 0)])) (by decide +kernel) rfl ?_
  dsimp only
  refine am_Rq.ret (v := some (.int (nI 0))) (show decode (am_by 35) 16 = .ok (.ireturn, 1) by decide +kernel) rfl rfl ?_
  exact ⟨_, rfl, rfl, hC1.kept (fun a a1 a2 => am_sn (by omega)), am_ss hU1, (hf1.mono (A' := fun x => (3 ≤ x ∧ x < 238) ∨ x = 246) (fun a q => Or.inl q)).set (Or.inr rfl) hU1 (by simp [am_la_len])⟩
theorem w_pool_no0 {x0 : Int32} {t : Nat → Nat} {nx ct : Nat} {ks : Nat → Nat → Nat} (hC : CS hp t nx ct ks) {ou : Nat → Int64} (hU : hp[246]? = some (101, am_la ou 1)) (hc : CNo 36 [.int x0] 0 t nx ct ks) : am_Rq 8 35 0 (am_en [.ref 2, .int x0, .ref 246] 4) [] hp (am_Ret fun hp1 r => r = some (.int (nI 1)) ∧ hp1 = hp ++ [c_ex 0]) := by
  show am_Rq _ 35 0 [some (.ref 2), some (.int x0), some (.ref 246), none] [] _ _
  refine am_Rq.blk (is := [(.aload_n 2, 1), (.iconst 0, 1), (.aload_n 0, 1), (.iload_n 1, 1)]) (q := (4, [some (.ref 2), some (.int x0), some (.ref 246), none], [.int x0, .ref 2, .int (nI 0), .ref 246])) (by decide +kernel) rfl ?_
  dsimp only
  refine am_Rq.callVX (show decode (am_by 35) 4 = .ok (.invokevirtual 30, 3) by decide +kernel) rfl [.int x0] [.int (nI 0), .ref 246] rfl rfl (Nat.le_of_ble_eq_true rfl) rfl hC.2.1 rfl (hc hp hC) ?_
  rintro hp1 o ⟨rfl, rfl⟩
  show am_Rq _ 35 12 [some (.ref 2), some (.int x0), some (.ref 246), none] [.ref hp.length] (hp ++ [c_ex 0]) _
  refine am_Rq.blk (is := [(.astore_n 3, 1), (.iconst 1, 1)]) (q := (14, [some (.ref 2), some (.int x0), some (.ref 246), some (.ref hp.length)], [.int (nI 1)])) (by decide +kernel) rfl ?_
  dsimp only
  refine am_Rq.ret (v := some (.int (nI 1))) (show decode (am_by 35) 14 = .ok (.ireturn, 1) by decide +kernel) rfl rfl ?_
  exact ⟨_, rfl, rfl, rfl⟩
theorem w_grant {x0 x1 x2 x3 : Int32} {t : Nat → Nat} {nx ct : Nat} {ks : Nat → Nat → Nat} (hC : CS hp t nx ct ks) {ou : Nat → Int64} (hU : hp[246]? = some (101, am_la ou 1)) {v : Int32} {t1 : Nat → Nat} {nx1 ct1 : Nat} {ks1 : Nat → Nat → Nat} (hc : COk 38 [.int x0, .int x1, .int x2, .int x3] v t nx ct ks t1 nx1 ct1 ks1) : am_Rq 8 37 0 (am_en [.ref 2, .int x0, .int x1, .int x2, .int x3, .ref 246] 7) [] hp (am_Ret fun hp1 r => r = some (.int (nI 0)) ∧ CS hp1 t1 nx1 ct1 ks1 ∧ hp1[246]? = some (101, am_la (va_up ou 0 v.toInt64) 1) ∧ am_fr (fun x => (3 ≤ x ∧ x < 238) ∨ x = 246) hp hp1) := by
  show am_Rq _ 37 0 [some (.ref 2), some (.int x0), some (.int x1), some (.int x2), some (.int x3), some (.ref 246), none] [] _ _
  refine am_Rq.blk (is := [(.aload 5, 2), (.iconst 0, 1), (.aload_n 0, 1), (.iload_n 1, 1), (.iload_n 2, 1), (.iload_n 3, 1), (.iload 4, 2)]) (q := (9, [some (.ref 2), some (.int x0), some (.int x1), some (.int x2), some (.int x3), some (.ref 246), none], [.int x3, .int x2, .int x1, .int x0, .ref 2, .int (nI 0), .ref 246])) (by decide +kernel) rfl ?_
  dsimp only
  refine am_Rq.callV (show decode (am_by 37) 9 = .ok (.invokevirtual 34, 3) by decide +kernel) rfl [.int x0, .int x1, .int x2, .int x3] [.int (nI 0), .ref 246] rfl rfl (Nat.le_of_ble_eq_true rfl) rfl hC.2.1 rfl (hc hp hC) ?_
  rintro hp1 _ ⟨rfl, hC1, hf1⟩
  have hU1 := (hf1.2.2 246 (fun q => by omega)).trans hU
  show am_Rq _ 37 12 [some (.ref 2), some (.int x0), some (.int x1), some (.int x2), some (.int x3), some (.ref 246), none] [.int v, .int (nI 0), .ref 246] _ _
  refine am_Rq.blk (is := [(.i2l, 1)]) (q := (13, [some (.ref 2), some (.int x0), some (.int x1), some (.int x2), some (.int x3), some (.ref 246), none], [.long v.toInt64, .int (nI 0), .ref 246])) (by decide +kernel) rfl ?_
  dsimp only
  refine am_Rq.las (k := 0) (x := v.toInt64) (show decode (am_by 37) 13 = .ok (.lastore, 1) by decide +kernel) hU1 (by omega) (by omega) (by omega) ?_
  refine am_Rq.blk (is := [(.goto 15, 3)]) (q := (29, [some (.ref 2), some (.int x0), some (.int x1), some (.int x2), some (.int x3), some (.ref 246), none], [])) (by decide +kernel) rfl ?_
  dsimp only
  refine am_Rq.blk (is := [(.iconst 0, 1)]) (q := (30, [some (.ref 2), some (.int x0), some (.int x1), some (.int x2), some (.int x3), some (.ref 246), none], [.int (nI 0)])) (by decide +kernel) rfl ?_
  dsimp only
  refine am_Rq.ret (v := some (.int (nI 0))) (show decode (am_by 37) 30 = .ok (.ireturn, 1) by decide +kernel) rfl rfl ?_
  exact ⟨_, rfl, rfl, hC1.kept (fun a a1 a2 => am_sn (by omega)), am_ss hU1, (hf1.mono (A' := fun x => (3 ≤ x ∧ x < 238) ∨ x = 246) (fun a q => Or.inl q)).set (Or.inr rfl) hU1 (by simp [am_la_len])⟩
theorem w_grant_no2 {x0 x1 x2 x3 : Int32} {t : Nat → Nat} {nx ct : Nat} {ks : Nat → Nat → Nat} (hC : CS hp t nx ct ks) {ou : Nat → Int64} (hU : hp[246]? = some (101, am_la ou 1)) (hc : CNo 38 [.int x0, .int x1, .int x2, .int x3] 2 t nx ct ks) : am_Rq 8 37 0 (am_en [.ref 2, .int x0, .int x1, .int x2, .int x3, .ref 246] 7) [] hp (am_Ret fun hp1 r => r = some (.int (nI 1)) ∧ hp1 = hp ++ [c_ex 2]) := by
  show am_Rq _ 37 0 [some (.ref 2), some (.int x0), some (.int x1), some (.int x2), some (.int x3), some (.ref 246), none] [] _ _
  refine am_Rq.blk (is := [(.aload 5, 2), (.iconst 0, 1), (.aload_n 0, 1), (.iload_n 1, 1), (.iload_n 2, 1), (.iload_n 3, 1), (.iload 4, 2)]) (q := (9, [some (.ref 2), some (.int x0), some (.int x1), some (.int x2), some (.int x3), some (.ref 246), none], [.int x3, .int x2, .int x1, .int x0, .ref 2, .int (nI 0), .ref 246])) (by decide +kernel) rfl ?_
  dsimp only
  refine am_Rq.callVX (show decode (am_by 37) 9 = .ok (.invokevirtual 34, 3) by decide +kernel) rfl [.int x0, .int x1, .int x2, .int x3] [.int (nI 0), .ref 246] rfl rfl (Nat.le_of_ble_eq_true rfl) rfl hC.2.1 rfl (hc hp hC) ?_
  rintro hp1 o ⟨rfl, rfl⟩
  show am_Rq _ 37 17 [some (.ref 2), some (.int x0), some (.int x1), some (.int x2), some (.int x3), some (.ref 246), none] [.ref hp.length] (hp ++ [c_ex 2]) _
  refine am_Rq.blk (is := [(.astore 6, 2), (.iconst 1, 1)]) (q := (20, [some (.ref 2), some (.int x0), some (.int x1), some (.int x2), some (.int x3), some (.ref 246), some (.ref hp.length)], [.int (nI 1)])) (by decide +kernel) rfl ?_
  dsimp only
  refine am_Rq.ret (v := some (.int (nI 1))) (show decode (am_by 37) 20 = .ok (.ireturn, 1) by decide +kernel) rfl rfl ?_
  exact ⟨_, rfl, rfl, rfl⟩
theorem w_grant_no0 {x0 x1 x2 x3 : Int32} {t : Nat → Nat} {nx ct : Nat} {ks : Nat → Nat → Nat} (hC : CS hp t nx ct ks) {ou : Nat → Int64} (hU : hp[246]? = some (101, am_la ou 1)) (hc : CNo 38 [.int x0, .int x1, .int x2, .int x3] 0 t nx ct ks) : am_Rq 8 37 0 (am_en [.ref 2, .int x0, .int x1, .int x2, .int x3, .ref 246] 7) [] hp (am_Ret fun hp1 r => r = some (.int (nI 2)) ∧ hp1 = hp ++ [c_ex 0]) := by
  show am_Rq _ 37 0 [some (.ref 2), some (.int x0), some (.int x1), some (.int x2), some (.int x3), some (.ref 246), none] [] _ _
  refine am_Rq.blk (is := [(.aload 5, 2), (.iconst 0, 1), (.aload_n 0, 1), (.iload_n 1, 1), (.iload_n 2, 1), (.iload_n 3, 1), (.iload 4, 2)]) (q := (9, [some (.ref 2), some (.int x0), some (.int x1), some (.int x2), some (.int x3), some (.ref 246), none], [.int x3, .int x2, .int x1, .int x0, .ref 2, .int (nI 0), .ref 246])) (by decide +kernel) rfl ?_
  dsimp only
  refine am_Rq.callVX (show decode (am_by 37) 9 = .ok (.invokevirtual 34, 3) by decide +kernel) rfl [.int x0, .int x1, .int x2, .int x3] [.int (nI 0), .ref 246] rfl rfl (Nat.le_of_ble_eq_true rfl) rfl hC.2.1 rfl (hc hp hC) ?_
  rintro hp1 o ⟨rfl, rfl⟩
  show am_Rq _ 37 21 [some (.ref 2), some (.int x0), some (.int x1), some (.int x2), some (.int x3), some (.ref 246), none] [.ref hp.length] (hp ++ [c_ex 0]) _
  refine am_Rq.blk (is := [(.astore 6, 2), (.iconst 2, 1)]) (q := (24, [some (.ref 2), some (.int x0), some (.int x1), some (.int x2), some (.int x3), some (.ref 246), some (.ref hp.length)], [.int (nI 2)])) (by decide +kernel) rfl ?_
  dsimp only
  refine am_Rq.ret (v := some (.int (nI 2))) (show decode (am_by 37) 24 = .ok (.ireturn, 1) by decide +kernel) rfl rfl ?_
  exact ⟨_, rfl, rfl, rfl⟩
theorem w_grant_no1 {x0 x1 x2 x3 : Int32} {t : Nat → Nat} {nx ct : Nat} {ks : Nat → Nat → Nat} (hC : CS hp t nx ct ks) {ou : Nat → Int64} (hU : hp[246]? = some (101, am_la ou 1)) (hc : CNo 38 [.int x0, .int x1, .int x2, .int x3] 1 t nx ct ks) : am_Rq 8 37 0 (am_en [.ref 2, .int x0, .int x1, .int x2, .int x3, .ref 246] 7) [] hp (am_Ret fun hp1 r => r = some (.int (nI 3)) ∧ hp1 = hp ++ [c_ex 1]) := by
  show am_Rq _ 37 0 [some (.ref 2), some (.int x0), some (.int x1), some (.int x2), some (.int x3), some (.ref 246), none] [] _ _
  refine am_Rq.blk (is := [(.aload 5, 2), (.iconst 0, 1), (.aload_n 0, 1), (.iload_n 1, 1), (.iload_n 2, 1), (.iload_n 3, 1), (.iload 4, 2)]) (q := (9, [some (.ref 2), some (.int x0), some (.int x1), some (.int x2), some (.int x3), some (.ref 246), none], [.int x3, .int x2, .int x1, .int x0, .ref 2, .int (nI 0), .ref 246])) (by decide +kernel) rfl ?_
  dsimp only
  refine am_Rq.callVX (show decode (am_by 37) 9 = .ok (.invokevirtual 34, 3) by decide +kernel) rfl [.int x0, .int x1, .int x2, .int x3] [.int (nI 0), .ref 246] rfl rfl (Nat.le_of_ble_eq_true rfl) rfl hC.2.1 rfl (hc hp hC) ?_
  rintro hp1 o ⟨rfl, rfl⟩
  show am_Rq _ 37 25 [some (.ref 2), some (.int x0), some (.int x1), some (.int x2), some (.int x3), some (.ref 246), none] [.ref hp.length] (hp ++ [c_ex 1]) _
  refine am_Rq.blk (is := [(.astore 6, 2), (.iconst 3, 1)]) (q := (28, [some (.ref 2), some (.int x0), some (.int x1), some (.int x2), some (.int x3), some (.ref 246), some (.ref hp.length)], [.int (nI 3)])) (by decide +kernel) rfl ?_
  dsimp only
  refine am_Rq.ret (v := some (.int (nI 3))) (show decode (am_by 37) 28 = .ok (.ireturn, 1) by decide +kernel) rfl rfl ?_
  exact ⟨_, rfl, rfl, rfl⟩
theorem w_pass {x0 : Int32} {t : Nat → Nat} {nx ct : Nat} {ks : Nat → Nat → Nat} (hC : CS hp t nx ct ks) {ou : Nat → Int64} (hU : hp[246]? = some (101, am_la ou 1)) {v : Int32} {t1 : Nat → Nat} {nx1 ct1 : Nat} {ks1 : Nat → Nat → Nat} (hc : COk 41 [.int x0] v t nx ct ks t1 nx1 ct1 ks1) : am_Rq 8 40 0 (am_en [.ref 2, .int x0, .ref 246] 4) [] hp (am_Ret fun hp1 r => r = some (.int (nI 0)) ∧ CS hp1 t1 nx1 ct1 ks1 ∧ hp1[246]? = some (101, am_la (va_up ou 0 v.toInt64) 1) ∧ am_fr (fun x => (3 ≤ x ∧ x < 238) ∨ x = 246) hp hp1) := by
  show am_Rq _ 40 0 [some (.ref 2), some (.int x0), some (.ref 246), none] [] _ _
  refine am_Rq.blk (is := [(.aload_n 2, 1), (.iconst 0, 1), (.aload_n 0, 1), (.iload_n 1, 1)]) (q := (4, [some (.ref 2), some (.int x0), some (.ref 246), none], [.int x0, .ref 2, .int (nI 0), .ref 246])) (by decide +kernel) rfl ?_
  dsimp only
  refine am_Rq.callV (show decode (am_by 40) 4 = .ok (.invokevirtual 37, 3) by decide +kernel) rfl [.int x0] [.int (nI 0), .ref 246] rfl rfl (Nat.le_of_ble_eq_true rfl) rfl hC.2.1 rfl (hc hp hC) ?_
  rintro hp1 _ ⟨rfl, hC1, hf1⟩
  have hU1 := (hf1.2.2 246 (fun q => by omega)).trans hU
  show am_Rq _ 40 7 [some (.ref 2), some (.int x0), some (.ref 246), none] [.int v, .int (nI 0), .ref 246] _ _
  refine am_Rq.blk (is := [(.i2l, 1)]) (q := (8, [some (.ref 2), some (.int x0), some (.ref 246), none], [.long v.toInt64, .int (nI 0), .ref 246])) (by decide +kernel) rfl ?_
  dsimp only
  refine am_Rq.las (k := 0) (x := v.toInt64) (show decode (am_by 40) 8 = .ok (.lastore, 1) by decide +kernel) hU1 (by omega) (by omega) (by omega) ?_
  refine am_Rq.blk (is := [(.goto 6, 3)]) (q := (15, [some (.ref 2), some (.int x0), some (.ref 246), none], [])) (by decide +kernel) rfl ?_
  dsimp only
  refine am_Rq.blk (is := [(.iconst 0, 1)]) (q := (16, [some (.ref 2), some (.int x0), some (.ref 246), none], [.int (nI 0)])) (by decide +kernel) rfl ?_
  dsimp only
  refine am_Rq.ret (v := some (.int (nI 0))) (show decode (am_by 40) 16 = .ok (.ireturn, 1) by decide +kernel) rfl rfl ?_
  exact ⟨_, rfl, rfl, hC1.kept (fun a a1 a2 => am_sn (by omega)), am_ss hU1, (hf1.mono (A' := fun x => (3 ≤ x ∧ x < 238) ∨ x = 246) (fun a q => Or.inl q)).set (Or.inr rfl) hU1 (by simp [am_la_len])⟩
theorem w_pass_no0 {x0 : Int32} {t : Nat → Nat} {nx ct : Nat} {ks : Nat → Nat → Nat} (hC : CS hp t nx ct ks) {ou : Nat → Int64} (hU : hp[246]? = some (101, am_la ou 1)) (hc : CNo 41 [.int x0] 0 t nx ct ks) : am_Rq 8 40 0 (am_en [.ref 2, .int x0, .ref 246] 4) [] hp (am_Ret fun hp1 r => r = some (.int (nI 1)) ∧ hp1 = hp ++ [c_ex 0]) := by
  show am_Rq _ 40 0 [some (.ref 2), some (.int x0), some (.ref 246), none] [] _ _
  refine am_Rq.blk (is := [(.aload_n 2, 1), (.iconst 0, 1), (.aload_n 0, 1), (.iload_n 1, 1)]) (q := (4, [some (.ref 2), some (.int x0), some (.ref 246), none], [.int x0, .ref 2, .int (nI 0), .ref 246])) (by decide +kernel) rfl ?_
  dsimp only
  refine am_Rq.callVX (show decode (am_by 40) 4 = .ok (.invokevirtual 37, 3) by decide +kernel) rfl [.int x0] [.int (nI 0), .ref 246] rfl rfl (Nat.le_of_ble_eq_true rfl) rfl hC.2.1 rfl (hc hp hC) ?_
  rintro hp1 o ⟨rfl, rfl⟩
  show am_Rq _ 40 12 [some (.ref 2), some (.int x0), some (.ref 246), none] [.ref hp.length] (hp ++ [c_ex 0]) _
  refine am_Rq.blk (is := [(.astore_n 3, 1), (.iconst 1, 1)]) (q := (14, [some (.ref 2), some (.int x0), some (.ref 246), some (.ref hp.length)], [.int (nI 1)])) (by decide +kernel) rfl ?_
  dsimp only
  refine am_Rq.ret (v := some (.int (nI 1))) (show decode (am_by 40) 14 = .ok (.ireturn, 1) by decide +kernel) rfl rfl ?_
  exact ⟨_, rfl, rfl, rfl⟩
theorem w_leave {x0 : Int32} {t : Nat → Nat} {nx ct : Nat} {ks : Nat → Nat → Nat} (hC : CS hp t nx ct ks) {ou : Nat → Int64} (hU : hp[246]? = some (101, am_la ou 1)) {v : Int32} {t1 : Nat → Nat} {nx1 ct1 : Nat} {ks1 : Nat → Nat → Nat} (hc : COk 43 [.int x0] v t nx ct ks t1 nx1 ct1 ks1) : am_Rq 8 42 0 (am_en [.ref 2, .int x0, .ref 246] 4) [] hp (am_Ret fun hp1 r => r = some (.int (nI 0)) ∧ CS hp1 t1 nx1 ct1 ks1 ∧ hp1[246]? = some (101, am_la (va_up ou 0 v.toInt64) 1) ∧ am_fr (fun x => (3 ≤ x ∧ x < 238) ∨ x = 246) hp hp1) := by
  show am_Rq _ 42 0 [some (.ref 2), some (.int x0), some (.ref 246), none] [] _ _
  refine am_Rq.blk (is := [(.aload_n 2, 1), (.iconst 0, 1), (.aload_n 0, 1), (.iload_n 1, 1)]) (q := (4, [some (.ref 2), some (.int x0), some (.ref 246), none], [.int x0, .ref 2, .int (nI 0), .ref 246])) (by decide +kernel) rfl ?_
  dsimp only
  refine am_Rq.callV (show decode (am_by 42) 4 = .ok (.invokevirtual 40, 3) by decide +kernel) rfl [.int x0] [.int (nI 0), .ref 246] rfl rfl (Nat.le_of_ble_eq_true rfl) rfl hC.2.1 rfl (hc hp hC) ?_
  rintro hp1 _ ⟨rfl, hC1, hf1⟩
  have hU1 := (hf1.2.2 246 (fun q => by omega)).trans hU
  show am_Rq _ 42 7 [some (.ref 2), some (.int x0), some (.ref 246), none] [.int v, .int (nI 0), .ref 246] _ _
  refine am_Rq.blk (is := [(.i2l, 1)]) (q := (8, [some (.ref 2), some (.int x0), some (.ref 246), none], [.long v.toInt64, .int (nI 0), .ref 246])) (by decide +kernel) rfl ?_
  dsimp only
  refine am_Rq.las (k := 0) (x := v.toInt64) (show decode (am_by 42) 8 = .ok (.lastore, 1) by decide +kernel) hU1 (by omega) (by omega) (by omega) ?_
  refine am_Rq.blk (is := [(.goto 6, 3)]) (q := (15, [some (.ref 2), some (.int x0), some (.ref 246), none], [])) (by decide +kernel) rfl ?_
  dsimp only
  refine am_Rq.blk (is := [(.iconst 0, 1)]) (q := (16, [some (.ref 2), some (.int x0), some (.ref 246), none], [.int (nI 0)])) (by decide +kernel) rfl ?_
  dsimp only
  refine am_Rq.ret (v := some (.int (nI 0))) (show decode (am_by 42) 16 = .ok (.ireturn, 1) by decide +kernel) rfl rfl ?_
  exact ⟨_, rfl, rfl, hC1.kept (fun a a1 a2 => am_sn (by omega)), am_ss hU1, (hf1.mono (A' := fun x => (3 ≤ x ∧ x < 238) ∨ x = 246) (fun a q => Or.inl q)).set (Or.inr rfl) hU1 (by simp [am_la_len])⟩
theorem w_leave_no2 {x0 : Int32} {t : Nat → Nat} {nx ct : Nat} {ks : Nat → Nat → Nat} (hC : CS hp t nx ct ks) {ou : Nat → Int64} (hU : hp[246]? = some (101, am_la ou 1)) (hc : CNo 43 [.int x0] 2 t nx ct ks) : am_Rq 8 42 0 (am_en [.ref 2, .int x0, .ref 246] 4) [] hp (am_Ret fun hp1 r => r = some (.int (nI 1)) ∧ hp1 = hp ++ [c_ex 2]) := by
  show am_Rq _ 42 0 [some (.ref 2), some (.int x0), some (.ref 246), none] [] _ _
  refine am_Rq.blk (is := [(.aload_n 2, 1), (.iconst 0, 1), (.aload_n 0, 1), (.iload_n 1, 1)]) (q := (4, [some (.ref 2), some (.int x0), some (.ref 246), none], [.int x0, .ref 2, .int (nI 0), .ref 246])) (by decide +kernel) rfl ?_
  dsimp only
  refine am_Rq.callVX (show decode (am_by 42) 4 = .ok (.invokevirtual 40, 3) by decide +kernel) rfl [.int x0] [.int (nI 0), .ref 246] rfl rfl (Nat.le_of_ble_eq_true rfl) rfl hC.2.1 rfl (hc hp hC) ?_
  rintro hp1 o ⟨rfl, rfl⟩
  show am_Rq _ 42 12 [some (.ref 2), some (.int x0), some (.ref 246), none] [.ref hp.length] (hp ++ [c_ex 2]) _
  refine am_Rq.blk (is := [(.astore_n 3, 1), (.iconst 1, 1)]) (q := (14, [some (.ref 2), some (.int x0), some (.ref 246), some (.ref hp.length)], [.int (nI 1)])) (by decide +kernel) rfl ?_
  dsimp only
  refine am_Rq.ret (v := some (.int (nI 1))) (show decode (am_by 42) 14 = .ok (.ireturn, 1) by decide +kernel) rfl rfl ?_
  exact ⟨_, rfl, rfl, rfl⟩
theorem w_exercise {x0 x1 : Int32} {t : Nat → Nat} {nx ct : Nat} {ks : Nat → Nat → Nat} (hC : CS hp t nx ct ks) {ou : Nat → Int64} (hU : hp[246]? = some (101, am_la ou 1)) {v : Int32} {t1 : Nat → Nat} {nx1 ct1 : Nat} {ks1 : Nat → Nat → Nat} (hc : COk 48 [.int x0, .int x1] v t nx ct ks t1 nx1 ct1 ks1) : am_Rq 8 47 0 (am_en [.ref 2, .int x0, .int x1, .ref 246] 5) [] hp (am_Ret fun hp1 r => r = some (.int (nI 0)) ∧ CS hp1 t1 nx1 ct1 ks1 ∧ hp1[246]? = some (101, am_la (va_up ou 0 v.toInt64) 1) ∧ am_fr (fun x => (3 ≤ x ∧ x < 238) ∨ x = 246) hp hp1) := by
  show am_Rq _ 47 0 [some (.ref 2), some (.int x0), some (.int x1), some (.ref 246), none] [] _ _
  refine am_Rq.blk (is := [(.aload_n 3, 1), (.iconst 0, 1), (.aload_n 0, 1), (.iload_n 1, 1), (.iload_n 2, 1)]) (q := (5, [some (.ref 2), some (.int x0), some (.int x1), some (.ref 246), none], [.int x1, .int x0, .ref 2, .int (nI 0), .ref 246])) (by decide +kernel) rfl ?_
  dsimp only
  refine am_Rq.callV (show decode (am_by 47) 5 = .ok (.invokevirtual 43, 3) by decide +kernel) rfl [.int x0, .int x1] [.int (nI 0), .ref 246] rfl rfl (Nat.le_of_ble_eq_true rfl) rfl hC.2.1 rfl (hc hp hC) ?_
  rintro hp1 _ ⟨rfl, hC1, hf1⟩
  have hU1 := (hf1.2.2 246 (fun q => by omega)).trans hU
  show am_Rq _ 47 8 [some (.ref 2), some (.int x0), some (.int x1), some (.ref 246), none] [.int v, .int (nI 0), .ref 246] _ _
  refine am_Rq.blk (is := [(.i2l, 1)]) (q := (9, [some (.ref 2), some (.int x0), some (.int x1), some (.ref 246), none], [.long v.toInt64, .int (nI 0), .ref 246])) (by decide +kernel) rfl ?_
  dsimp only
  refine am_Rq.las (k := 0) (x := v.toInt64) (show decode (am_by 47) 9 = .ok (.lastore, 1) by decide +kernel) hU1 (by omega) (by omega) (by omega) ?_
  refine am_Rq.blk (is := [(.goto 15, 3)]) (q := (25, [some (.ref 2), some (.int x0), some (.int x1), some (.ref 246), none], [])) (by decide +kernel) rfl ?_
  dsimp only
  refine am_Rq.blk (is := [(.iconst 0, 1)]) (q := (26, [some (.ref 2), some (.int x0), some (.int x1), some (.ref 246), none], [.int (nI 0)])) (by decide +kernel) rfl ?_
  dsimp only
  refine am_Rq.ret (v := some (.int (nI 0))) (show decode (am_by 47) 26 = .ok (.ireturn, 1) by decide +kernel) rfl rfl ?_
  exact ⟨_, rfl, rfl, hC1.kept (fun a a1 a2 => am_sn (by omega)), am_ss hU1, (hf1.mono (A' := fun x => (3 ≤ x ∧ x < 238) ∨ x = 246) (fun a q => Or.inl q)).set (Or.inr rfl) hU1 (by simp [am_la_len])⟩
theorem w_exercise_no2 {x0 x1 : Int32} {t : Nat → Nat} {nx ct : Nat} {ks : Nat → Nat → Nat} (hC : CS hp t nx ct ks) {ou : Nat → Int64} (hU : hp[246]? = some (101, am_la ou 1)) (hc : CNo 48 [.int x0, .int x1] 2 t nx ct ks) : am_Rq 8 47 0 (am_en [.ref 2, .int x0, .int x1, .ref 246] 5) [] hp (am_Ret fun hp1 r => r = some (.int (nI 1)) ∧ hp1 = hp ++ [c_ex 2]) := by
  show am_Rq _ 47 0 [some (.ref 2), some (.int x0), some (.int x1), some (.ref 246), none] [] _ _
  refine am_Rq.blk (is := [(.aload_n 3, 1), (.iconst 0, 1), (.aload_n 0, 1), (.iload_n 1, 1), (.iload_n 2, 1)]) (q := (5, [some (.ref 2), some (.int x0), some (.int x1), some (.ref 246), none], [.int x1, .int x0, .ref 2, .int (nI 0), .ref 246])) (by decide +kernel) rfl ?_
  dsimp only
  refine am_Rq.callVX (show decode (am_by 47) 5 = .ok (.invokevirtual 43, 3) by decide +kernel) rfl [.int x0, .int x1] [.int (nI 0), .ref 246] rfl rfl (Nat.le_of_ble_eq_true rfl) rfl hC.2.1 rfl (hc hp hC) ?_
  rintro hp1 o ⟨rfl, rfl⟩
  show am_Rq _ 47 13 [some (.ref 2), some (.int x0), some (.int x1), some (.ref 246), none] [.ref hp.length] (hp ++ [c_ex 2]) _
  refine am_Rq.blk (is := [(.astore 4, 2), (.iconst 1, 1)]) (q := (16, [some (.ref 2), some (.int x0), some (.int x1), some (.ref 246), some (.ref hp.length)], [.int (nI 1)])) (by decide +kernel) rfl ?_
  dsimp only
  refine am_Rq.ret (v := some (.int (nI 1))) (show decode (am_by 47) 16 = .ok (.ireturn, 1) by decide +kernel) rfl rfl ?_
  exact ⟨_, rfl, rfl, rfl⟩
theorem w_exercise_no0 {x0 x1 : Int32} {t : Nat → Nat} {nx ct : Nat} {ks : Nat → Nat → Nat} (hC : CS hp t nx ct ks) {ou : Nat → Int64} (hU : hp[246]? = some (101, am_la ou 1)) (hc : CNo 48 [.int x0, .int x1] 0 t nx ct ks) : am_Rq 8 47 0 (am_en [.ref 2, .int x0, .int x1, .ref 246] 5) [] hp (am_Ret fun hp1 r => r = some (.int (nI 2)) ∧ hp1 = hp ++ [c_ex 0]) := by
  show am_Rq _ 47 0 [some (.ref 2), some (.int x0), some (.int x1), some (.ref 246), none] [] _ _
  refine am_Rq.blk (is := [(.aload_n 3, 1), (.iconst 0, 1), (.aload_n 0, 1), (.iload_n 1, 1), (.iload_n 2, 1)]) (q := (5, [some (.ref 2), some (.int x0), some (.int x1), some (.ref 246), none], [.int x1, .int x0, .ref 2, .int (nI 0), .ref 246])) (by decide +kernel) rfl ?_
  dsimp only
  refine am_Rq.callVX (show decode (am_by 47) 5 = .ok (.invokevirtual 43, 3) by decide +kernel) rfl [.int x0, .int x1] [.int (nI 0), .ref 246] rfl rfl (Nat.le_of_ble_eq_true rfl) rfl hC.2.1 rfl (hc hp hC) ?_
  rintro hp1 o ⟨rfl, rfl⟩
  show am_Rq _ 47 17 [some (.ref 2), some (.int x0), some (.int x1), some (.ref 246), none] [.ref hp.length] (hp ++ [c_ex 0]) _
  refine am_Rq.blk (is := [(.astore 4, 2), (.iconst 2, 1)]) (q := (20, [some (.ref 2), some (.int x0), some (.int x1), some (.ref 246), some (.ref hp.length)], [.int (nI 2)])) (by decide +kernel) rfl ?_
  dsimp only
  refine am_Rq.ret (v := some (.int (nI 2))) (show decode (am_by 47) 20 = .ok (.ireturn, 1) by decide +kernel) rfl rfl ?_
  exact ⟨_, rfl, rfl, rfl⟩
theorem w_exercise_no1 {x0 x1 : Int32} {t : Nat → Nat} {nx ct : Nat} {ks : Nat → Nat → Nat} (hC : CS hp t nx ct ks) {ou : Nat → Int64} (hU : hp[246]? = some (101, am_la ou 1)) (hc : CNo 48 [.int x0, .int x1] 1 t nx ct ks) : am_Rq 8 47 0 (am_en [.ref 2, .int x0, .int x1, .ref 246] 5) [] hp (am_Ret fun hp1 r => r = some (.int (nI 3)) ∧ hp1 = hp ++ [c_ex 1]) := by
  show am_Rq _ 47 0 [some (.ref 2), some (.int x0), some (.int x1), some (.ref 246), none] [] _ _
  refine am_Rq.blk (is := [(.aload_n 3, 1), (.iconst 0, 1), (.aload_n 0, 1), (.iload_n 1, 1), (.iload_n 2, 1)]) (q := (5, [some (.ref 2), some (.int x0), some (.int x1), some (.ref 246), none], [.int x1, .int x0, .ref 2, .int (nI 0), .ref 246])) (by decide +kernel) rfl ?_
  dsimp only
  refine am_Rq.callVX (show decode (am_by 47) 5 = .ok (.invokevirtual 43, 3) by decide +kernel) rfl [.int x0, .int x1] [.int (nI 0), .ref 246] rfl rfl (Nat.le_of_ble_eq_true rfl) rfl hC.2.1 rfl (hc hp hC) ?_
  rintro hp1 o ⟨rfl, rfl⟩
  show am_Rq _ 47 21 [some (.ref 2), some (.int x0), some (.int x1), some (.ref 246), none] [.ref hp.length] (hp ++ [c_ex 1]) _
  refine am_Rq.blk (is := [(.astore 4, 2), (.iconst 3, 1)]) (q := (24, [some (.ref 2), some (.int x0), some (.int x1), some (.ref 246), some (.ref hp.length)], [.int (nI 3)])) (by decide +kernel) rfl ?_
  dsimp only
  refine am_Rq.ret (v := some (.int (nI 3))) (show decode (am_by 47) 24 = .ok (.ireturn, 1) by decide +kernel) rfl rfl ?_
  exact ⟨_, rfl, rfl, rfl⟩
theorem w_vested {x0 : Int32} {t : Nat → Nat} {nx ct : Nat} {ks : Nat → Nat → Nat} (hC : CS hp t nx ct ks) {ou : Nat → Int64} (hU : hp[246]? = some (101, am_la ou 1)) {v : Int32} {t1 : Nat → Nat} {nx1 ct1 : Nat} {ks1 : Nat → Nat → Nat} (hc : COk 51 [.int x0] v t nx ct ks t1 nx1 ct1 ks1) : am_Rq 8 50 0 (am_en [.ref 2, .int x0, .ref 246] 4) [] hp (am_Ret fun hp1 r => r = some (.int (nI 0)) ∧ CS hp1 t1 nx1 ct1 ks1 ∧ hp1[246]? = some (101, am_la (va_up ou 0 v.toInt64) 1) ∧ am_fr (fun x => (3 ≤ x ∧ x < 238) ∨ x = 246) hp hp1) := by
  show am_Rq _ 50 0 [some (.ref 2), some (.int x0), some (.ref 246), none] [] _ _
  refine am_Rq.blk (is := [(.aload_n 2, 1), (.iconst 0, 1), (.aload_n 0, 1), (.iload_n 1, 1)]) (q := (4, [some (.ref 2), some (.int x0), some (.ref 246), none], [.int x0, .ref 2, .int (nI 0), .ref 246])) (by decide +kernel) rfl ?_
  dsimp only
  refine am_Rq.callV (show decode (am_by 50) 4 = .ok (.invokevirtual 47, 3) by decide +kernel) rfl [.int x0] [.int (nI 0), .ref 246] rfl rfl (Nat.le_of_ble_eq_true rfl) rfl hC.2.1 rfl (hc hp hC) ?_
  rintro hp1 _ ⟨rfl, hC1, hf1⟩
  have hU1 := (hf1.2.2 246 (fun q => by omega)).trans hU
  show am_Rq _ 50 7 [some (.ref 2), some (.int x0), some (.ref 246), none] [.int v, .int (nI 0), .ref 246] _ _
  refine am_Rq.blk (is := [(.i2l, 1)]) (q := (8, [some (.ref 2), some (.int x0), some (.ref 246), none], [.long v.toInt64, .int (nI 0), .ref 246])) (by decide +kernel) rfl ?_
  dsimp only
  refine am_Rq.las (k := 0) (x := v.toInt64) (show decode (am_by 50) 8 = .ok (.lastore, 1) by decide +kernel) hU1 (by omega) (by omega) (by omega) ?_
  refine am_Rq.blk (is := [(.goto 6, 3)]) (q := (15, [some (.ref 2), some (.int x0), some (.ref 246), none], [])) (by decide +kernel) rfl ?_
  dsimp only
  refine am_Rq.blk (is := [(.iconst 0, 1)]) (q := (16, [some (.ref 2), some (.int x0), some (.ref 246), none], [.int (nI 0)])) (by decide +kernel) rfl ?_
  dsimp only
  refine am_Rq.ret (v := some (.int (nI 0))) (show decode (am_by 50) 16 = .ok (.ireturn, 1) by decide +kernel) rfl rfl ?_
  exact ⟨_, rfl, rfl, hC1.kept (fun a a1 a2 => am_sn (by omega)), am_ss hU1, (hf1.mono (A' := fun x => (3 ≤ x ∧ x < 238) ∨ x = 246) (fun a q => Or.inl q)).set (Or.inr rfl) hU1 (by simp [am_la_len])⟩
theorem w_vested_no2 {x0 : Int32} {t : Nat → Nat} {nx ct : Nat} {ks : Nat → Nat → Nat} (hC : CS hp t nx ct ks) {ou : Nat → Int64} (hU : hp[246]? = some (101, am_la ou 1)) (hc : CNo 51 [.int x0] 2 t nx ct ks) : am_Rq 8 50 0 (am_en [.ref 2, .int x0, .ref 246] 4) [] hp (am_Ret fun hp1 r => r = some (.int (nI 1)) ∧ hp1 = hp ++ [c_ex 2]) := by
  show am_Rq _ 50 0 [some (.ref 2), some (.int x0), some (.ref 246), none] [] _ _
  refine am_Rq.blk (is := [(.aload_n 2, 1), (.iconst 0, 1), (.aload_n 0, 1), (.iload_n 1, 1)]) (q := (4, [some (.ref 2), some (.int x0), some (.ref 246), none], [.int x0, .ref 2, .int (nI 0), .ref 246])) (by decide +kernel) rfl ?_
  dsimp only
  refine am_Rq.callVX (show decode (am_by 50) 4 = .ok (.invokevirtual 47, 3) by decide +kernel) rfl [.int x0] [.int (nI 0), .ref 246] rfl rfl (Nat.le_of_ble_eq_true rfl) rfl hC.2.1 rfl (hc hp hC) ?_
  rintro hp1 o ⟨rfl, rfl⟩
  show am_Rq _ 50 12 [some (.ref 2), some (.int x0), some (.ref 246), none] [.ref hp.length] (hp ++ [c_ex 2]) _
  refine am_Rq.blk (is := [(.astore_n 3, 1), (.iconst 1, 1)]) (q := (14, [some (.ref 2), some (.int x0), some (.ref 246), some (.ref hp.length)], [.int (nI 1)])) (by decide +kernel) rfl ?_
  dsimp only
  refine am_Rq.ret (v := some (.int (nI 1))) (show decode (am_by 50) 14 = .ok (.ireturn, 1) by decide +kernel) rfl rfl ?_
  exact ⟨_, rfl, rfl, rfl⟩
theorem w_held {x0 x1 : Int32} {t : Nat → Nat} {nx ct : Nat} {ks : Nat → Nat → Nat} (hC : CS hp t nx ct ks) {ou : Nat → Int64} (hU : hp[246]? = some (101, am_la ou 1)) {v : Int32} {t1 : Nat → Nat} {nx1 ct1 : Nat} {ks1 : Nat → Nat → Nat} (hc : COk 53 [.int x0, .int x1] v t nx ct ks t1 nx1 ct1 ks1) : am_Rq 8 52 0 (am_en [.ref 2, .int x0, .int x1, .ref 246] 5) [] hp (am_Ret fun hp1 r => r = some (.int (nI 0)) ∧ CS hp1 t1 nx1 ct1 ks1 ∧ hp1[246]? = some (101, am_la (va_up ou 0 v.toInt64) 1) ∧ am_fr (fun x => (3 ≤ x ∧ x < 238) ∨ x = 246) hp hp1) := by
  show am_Rq _ 52 0 [some (.ref 2), some (.int x0), some (.int x1), some (.ref 246), none] [] _ _
  refine am_Rq.blk (is := [(.aload_n 3, 1), (.iconst 0, 1), (.aload_n 0, 1), (.iload_n 1, 1), (.iload_n 2, 1)]) (q := (5, [some (.ref 2), some (.int x0), some (.int x1), some (.ref 246), none], [.int x1, .int x0, .ref 2, .int (nI 0), .ref 246])) (by decide +kernel) rfl ?_
  dsimp only
  refine am_Rq.callV (show decode (am_by 52) 5 = .ok (.invokevirtual 50, 3) by decide +kernel) rfl [.int x0, .int x1] [.int (nI 0), .ref 246] rfl rfl (Nat.le_of_ble_eq_true rfl) rfl hC.2.1 rfl (hc hp hC) ?_
  rintro hp1 _ ⟨rfl, hC1, hf1⟩
  have hU1 := (hf1.2.2 246 (fun q => by omega)).trans hU
  show am_Rq _ 52 8 [some (.ref 2), some (.int x0), some (.int x1), some (.ref 246), none] [.int v, .int (nI 0), .ref 246] _ _
  refine am_Rq.blk (is := [(.i2l, 1)]) (q := (9, [some (.ref 2), some (.int x0), some (.int x1), some (.ref 246), none], [.long v.toInt64, .int (nI 0), .ref 246])) (by decide +kernel) rfl ?_
  dsimp only
  refine am_Rq.las (k := 0) (x := v.toInt64) (show decode (am_by 52) 9 = .ok (.lastore, 1) by decide +kernel) hU1 (by omega) (by omega) (by omega) ?_
  refine am_Rq.blk (is := [(.goto 7, 3)]) (q := (17, [some (.ref 2), some (.int x0), some (.int x1), some (.ref 246), none], [])) (by decide +kernel) rfl ?_
  dsimp only
  refine am_Rq.blk (is := [(.iconst 0, 1)]) (q := (18, [some (.ref 2), some (.int x0), some (.int x1), some (.ref 246), none], [.int (nI 0)])) (by decide +kernel) rfl ?_
  dsimp only
  refine am_Rq.ret (v := some (.int (nI 0))) (show decode (am_by 52) 18 = .ok (.ireturn, 1) by decide +kernel) rfl rfl ?_
  exact ⟨_, rfl, rfl, hC1.kept (fun a a1 a2 => am_sn (by omega)), am_ss hU1, (hf1.mono (A' := fun x => (3 ≤ x ∧ x < 238) ∨ x = 246) (fun a q => Or.inl q)).set (Or.inr rfl) hU1 (by simp [am_la_len])⟩
theorem w_held_no2 {x0 x1 : Int32} {t : Nat → Nat} {nx ct : Nat} {ks : Nat → Nat → Nat} (hC : CS hp t nx ct ks) {ou : Nat → Int64} (hU : hp[246]? = some (101, am_la ou 1)) (hc : CNo 53 [.int x0, .int x1] 2 t nx ct ks) : am_Rq 8 52 0 (am_en [.ref 2, .int x0, .int x1, .ref 246] 5) [] hp (am_Ret fun hp1 r => r = some (.int (nI 1)) ∧ hp1 = hp ++ [c_ex 2]) := by
  show am_Rq _ 52 0 [some (.ref 2), some (.int x0), some (.int x1), some (.ref 246), none] [] _ _
  refine am_Rq.blk (is := [(.aload_n 3, 1), (.iconst 0, 1), (.aload_n 0, 1), (.iload_n 1, 1), (.iload_n 2, 1)]) (q := (5, [some (.ref 2), some (.int x0), some (.int x1), some (.ref 246), none], [.int x1, .int x0, .ref 2, .int (nI 0), .ref 246])) (by decide +kernel) rfl ?_
  dsimp only
  refine am_Rq.callVX (show decode (am_by 52) 5 = .ok (.invokevirtual 50, 3) by decide +kernel) rfl [.int x0, .int x1] [.int (nI 0), .ref 246] rfl rfl (Nat.le_of_ble_eq_true rfl) rfl hC.2.1 rfl (hc hp hC) ?_
  rintro hp1 o ⟨rfl, rfl⟩
  show am_Rq _ 52 13 [some (.ref 2), some (.int x0), some (.int x1), some (.ref 246), none] [.ref hp.length] (hp ++ [c_ex 2]) _
  refine am_Rq.blk (is := [(.astore 4, 2), (.iconst 1, 1)]) (q := (16, [some (.ref 2), some (.int x0), some (.int x1), some (.ref 246), some (.ref hp.length)], [.int (nI 1)])) (by decide +kernel) rfl ?_
  dsimp only
  refine am_Rq.ret (v := some (.int (nI 1))) (show decode (am_by 52) 16 = .ok (.ireturn, 1) by decide +kernel) rfl rfl ?_
  exact ⟨_, rfl, rfl, rfl⟩
theorem w_inIssue {x0 : Int32} {t : Nat → Nat} {nx ct : Nat} {ks : Nat → Nat → Nat} (hC : CS hp t nx ct ks) {ou : Nat → Int64} (hU : hp[246]? = some (101, am_la ou 1)) {v : Int32} {t1 : Nat → Nat} {nx1 ct1 : Nat} {ks1 : Nat → Nat → Nat} (hc : COk 55 [.int x0] v t nx ct ks t1 nx1 ct1 ks1) : am_Rq 8 54 0 (am_en [.ref 2, .int x0, .ref 246] 4) [] hp (am_Ret fun hp1 r => r = some (.int (nI 0)) ∧ CS hp1 t1 nx1 ct1 ks1 ∧ hp1[246]? = some (101, am_la (va_up ou 0 v.toInt64) 1) ∧ am_fr (fun x => (3 ≤ x ∧ x < 238) ∨ x = 246) hp hp1) := by
  show am_Rq _ 54 0 [some (.ref 2), some (.int x0), some (.ref 246), none] [] _ _
  refine am_Rq.blk (is := [(.aload_n 2, 1), (.iconst 0, 1), (.aload_n 0, 1), (.iload_n 1, 1)]) (q := (4, [some (.ref 2), some (.int x0), some (.ref 246), none], [.int x0, .ref 2, .int (nI 0), .ref 246])) (by decide +kernel) rfl ?_
  dsimp only
  refine am_Rq.callV (show decode (am_by 54) 4 = .ok (.invokevirtual 53, 3) by decide +kernel) rfl [.int x0] [.int (nI 0), .ref 246] rfl rfl (Nat.le_of_ble_eq_true rfl) rfl hC.2.1 rfl (hc hp hC) ?_
  rintro hp1 _ ⟨rfl, hC1, hf1⟩
  have hU1 := (hf1.2.2 246 (fun q => by omega)).trans hU
  show am_Rq _ 54 7 [some (.ref 2), some (.int x0), some (.ref 246), none] [.int v, .int (nI 0), .ref 246] _ _
  refine am_Rq.blk (is := [(.i2l, 1)]) (q := (8, [some (.ref 2), some (.int x0), some (.ref 246), none], [.long v.toInt64, .int (nI 0), .ref 246])) (by decide +kernel) rfl ?_
  dsimp only
  refine am_Rq.las (k := 0) (x := v.toInt64) (show decode (am_by 54) 8 = .ok (.lastore, 1) by decide +kernel) hU1 (by omega) (by omega) (by omega) ?_
  refine am_Rq.blk (is := [(.goto 6, 3)]) (q := (15, [some (.ref 2), some (.int x0), some (.ref 246), none], [])) (by decide +kernel) rfl ?_
  dsimp only
  refine am_Rq.blk (is := [(.iconst 0, 1)]) (q := (16, [some (.ref 2), some (.int x0), some (.ref 246), none], [.int (nI 0)])) (by decide +kernel) rfl ?_
  dsimp only
  refine am_Rq.ret (v := some (.int (nI 0))) (show decode (am_by 54) 16 = .ok (.ireturn, 1) by decide +kernel) rfl rfl ?_
  exact ⟨_, rfl, rfl, hC1.kept (fun a a1 a2 => am_sn (by omega)), am_ss hU1, (hf1.mono (A' := fun x => (3 ≤ x ∧ x < 238) ∨ x = 246) (fun a q => Or.inl q)).set (Or.inr rfl) hU1 (by simp [am_la_len])⟩
theorem w_inIssue_no2 {x0 : Int32} {t : Nat → Nat} {nx ct : Nat} {ks : Nat → Nat → Nat} (hC : CS hp t nx ct ks) {ou : Nat → Int64} (hU : hp[246]? = some (101, am_la ou 1)) (hc : CNo 55 [.int x0] 2 t nx ct ks) : am_Rq 8 54 0 (am_en [.ref 2, .int x0, .ref 246] 4) [] hp (am_Ret fun hp1 r => r = some (.int (nI 1)) ∧ hp1 = hp ++ [c_ex 2]) := by
  show am_Rq _ 54 0 [some (.ref 2), some (.int x0), some (.ref 246), none] [] _ _
  refine am_Rq.blk (is := [(.aload_n 2, 1), (.iconst 0, 1), (.aload_n 0, 1), (.iload_n 1, 1)]) (q := (4, [some (.ref 2), some (.int x0), some (.ref 246), none], [.int x0, .ref 2, .int (nI 0), .ref 246])) (by decide +kernel) rfl ?_
  dsimp only
  refine am_Rq.callVX (show decode (am_by 54) 4 = .ok (.invokevirtual 53, 3) by decide +kernel) rfl [.int x0] [.int (nI 0), .ref 246] rfl rfl (Nat.le_of_ble_eq_true rfl) rfl hC.2.1 rfl (hc hp hC) ?_
  rintro hp1 o ⟨rfl, rfl⟩
  show am_Rq _ 54 12 [some (.ref 2), some (.int x0), some (.ref 246), none] [.ref hp.length] (hp ++ [c_ex 2]) _
  refine am_Rq.blk (is := [(.astore_n 3, 1), (.iconst 1, 1)]) (q := (14, [some (.ref 2), some (.int x0), some (.ref 246), some (.ref hp.length)], [.int (nI 1)])) (by decide +kernel) rfl ?_
  dsimp only
  refine am_Rq.ret (v := some (.int (nI 1))) (show decode (am_by 54) 14 = .ok (.ireturn, 1) by decide +kernel) rfl rfl ?_
  exact ⟨_, rfl, rfl, rfl⟩
theorem w_conversion {x0 : Int32} {t : Nat → Nat} {nx ct : Nat} {ks : Nat → Nat → Nat} (hC : CS hp t nx ct ks) {ou : Nat → Int64} (hU : hp[246]? = some (101, am_la ou 1)) {v : Int32} {t1 : Nat → Nat} {nx1 ct1 : Nat} {ks1 : Nat → Nat → Nat} (hc : COk 57 [.int x0] v t nx ct ks t1 nx1 ct1 ks1) : am_Rq 8 56 0 (am_en [.ref 2, .int x0, .ref 246] 4) [] hp (am_Ret fun hp1 r => r = some (.int (nI 0)) ∧ CS hp1 t1 nx1 ct1 ks1 ∧ hp1[246]? = some (101, am_la (va_up ou 0 v.toInt64) 1) ∧ am_fr (fun x => (3 ≤ x ∧ x < 238) ∨ x = 246) hp hp1) := by
  show am_Rq _ 56 0 [some (.ref 2), some (.int x0), some (.ref 246), none] [] _ _
  refine am_Rq.blk (is := [(.aload_n 2, 1), (.iconst 0, 1), (.aload_n 0, 1), (.iload_n 1, 1)]) (q := (4, [some (.ref 2), some (.int x0), some (.ref 246), none], [.int x0, .ref 2, .int (nI 0), .ref 246])) (by decide +kernel) rfl ?_
  dsimp only
  refine am_Rq.callV (show decode (am_by 56) 4 = .ok (.invokevirtual 56, 3) by decide +kernel) rfl [.int x0] [.int (nI 0), .ref 246] rfl rfl (Nat.le_of_ble_eq_true rfl) rfl hC.2.1 rfl (hc hp hC) ?_
  rintro hp1 _ ⟨rfl, hC1, hf1⟩
  have hU1 := (hf1.2.2 246 (fun q => by omega)).trans hU
  show am_Rq _ 56 7 [some (.ref 2), some (.int x0), some (.ref 246), none] [.int v, .int (nI 0), .ref 246] _ _
  refine am_Rq.blk (is := [(.i2l, 1)]) (q := (8, [some (.ref 2), some (.int x0), some (.ref 246), none], [.long v.toInt64, .int (nI 0), .ref 246])) (by decide +kernel) rfl ?_
  dsimp only
  refine am_Rq.las (k := 0) (x := v.toInt64) (show decode (am_by 56) 8 = .ok (.lastore, 1) by decide +kernel) hU1 (by omega) (by omega) (by omega) ?_
  refine am_Rq.blk (is := [(.goto 6, 3)]) (q := (15, [some (.ref 2), some (.int x0), some (.ref 246), none], [])) (by decide +kernel) rfl ?_
  dsimp only
  refine am_Rq.blk (is := [(.iconst 0, 1)]) (q := (16, [some (.ref 2), some (.int x0), some (.ref 246), none], [.int (nI 0)])) (by decide +kernel) rfl ?_
  dsimp only
  refine am_Rq.ret (v := some (.int (nI 0))) (show decode (am_by 56) 16 = .ok (.ireturn, 1) by decide +kernel) rfl rfl ?_
  exact ⟨_, rfl, rfl, hC1.kept (fun a a1 a2 => am_sn (by omega)), am_ss hU1, (hf1.mono (A' := fun x => (3 ≤ x ∧ x < 238) ∨ x = 246) (fun a q => Or.inl q)).set (Or.inr rfl) hU1 (by simp [am_la_len])⟩
theorem w_conversion_no2 {x0 : Int32} {t : Nat → Nat} {nx ct : Nat} {ks : Nat → Nat → Nat} (hC : CS hp t nx ct ks) {ou : Nat → Int64} (hU : hp[246]? = some (101, am_la ou 1)) (hc : CNo 57 [.int x0] 2 t nx ct ks) : am_Rq 8 56 0 (am_en [.ref 2, .int x0, .ref 246] 4) [] hp (am_Ret fun hp1 r => r = some (.int (nI 1)) ∧ hp1 = hp ++ [c_ex 2]) := by
  show am_Rq _ 56 0 [some (.ref 2), some (.int x0), some (.ref 246), none] [] _ _
  refine am_Rq.blk (is := [(.aload_n 2, 1), (.iconst 0, 1), (.aload_n 0, 1), (.iload_n 1, 1)]) (q := (4, [some (.ref 2), some (.int x0), some (.ref 246), none], [.int x0, .ref 2, .int (nI 0), .ref 246])) (by decide +kernel) rfl ?_
  dsimp only
  refine am_Rq.callVX (show decode (am_by 56) 4 = .ok (.invokevirtual 56, 3) by decide +kernel) rfl [.int x0] [.int (nI 0), .ref 246] rfl rfl (Nat.le_of_ble_eq_true rfl) rfl hC.2.1 rfl (hc hp hC) ?_
  rintro hp1 o ⟨rfl, rfl⟩
  show am_Rq _ 56 12 [some (.ref 2), some (.int x0), some (.ref 246), none] [.ref hp.length] (hp ++ [c_ex 2]) _
  refine am_Rq.blk (is := [(.astore_n 3, 1), (.iconst 1, 1)]) (q := (14, [some (.ref 2), some (.int x0), some (.ref 246), some (.ref hp.length)], [.int (nI 1)])) (by decide +kernel) rfl ?_
  dsimp only
  refine am_Rq.ret (v := some (.int (nI 1))) (show decode (am_by 56) 14 = .ok (.ireturn, 1) by decide +kernel) rfl rfl ?_
  exact ⟨_, rfl, rfl, rfl⟩
theorem w_set {x0 : Int32} {t : Nat → Nat} {nx ct : Nat} {ks : Nat → Nat → Nat} (hC : CS hp t nx ct ks) {ou : Nat → Int64} (hU : hp[246]? = some (101, am_la ou 1)) {v : Int32} {t1 : Nat → Nat} {nx1 ct1 : Nat} {ks1 : Nat → Nat → Nat} (hc : COk 59 [.int x0] v t nx ct ks t1 nx1 ct1 ks1) : am_Rq 8 58 0 (am_en [.ref 2, .int x0, .ref 246] 4) [] hp (am_Ret fun hp1 r => r = some (.int (nI 0)) ∧ CS hp1 t1 nx1 ct1 ks1 ∧ hp1[246]? = some (101, am_la (va_up ou 0 v.toInt64) 1) ∧ am_fr (fun x => (3 ≤ x ∧ x < 238) ∨ x = 246) hp hp1) := by
  show am_Rq _ 58 0 [some (.ref 2), some (.int x0), some (.ref 246), none] [] _ _
  refine am_Rq.blk (is := [(.aload_n 2, 1), (.iconst 0, 1), (.aload_n 0, 1), (.iload_n 1, 1)]) (q := (4, [some (.ref 2), some (.int x0), some (.ref 246), none], [.int x0, .ref 2, .int (nI 0), .ref 246])) (by decide +kernel) rfl ?_
  dsimp only
  refine am_Rq.callV (show decode (am_by 58) 4 = .ok (.invokevirtual 59, 3) by decide +kernel) rfl [.int x0] [.int (nI 0), .ref 246] rfl rfl (Nat.le_of_ble_eq_true rfl) rfl hC.2.1 rfl (hc hp hC) ?_
  rintro hp1 _ ⟨rfl, hC1, hf1⟩
  have hU1 := (hf1.2.2 246 (fun q => by omega)).trans hU
  show am_Rq _ 58 7 [some (.ref 2), some (.int x0), some (.ref 246), none] [.int v, .int (nI 0), .ref 246] _ _
  refine am_Rq.blk (is := [(.i2l, 1)]) (q := (8, [some (.ref 2), some (.int x0), some (.ref 246), none], [.long v.toInt64, .int (nI 0), .ref 246])) (by decide +kernel) rfl ?_
  dsimp only
  refine am_Rq.las (k := 0) (x := v.toInt64) (show decode (am_by 58) 8 = .ok (.lastore, 1) by decide +kernel) hU1 (by omega) (by omega) (by omega) ?_
  refine am_Rq.blk (is := [(.goto 6, 3)]) (q := (15, [some (.ref 2), some (.int x0), some (.ref 246), none], [])) (by decide +kernel) rfl ?_
  dsimp only
  refine am_Rq.blk (is := [(.iconst 0, 1)]) (q := (16, [some (.ref 2), some (.int x0), some (.ref 246), none], [.int (nI 0)])) (by decide +kernel) rfl ?_
  dsimp only
  refine am_Rq.ret (v := some (.int (nI 0))) (show decode (am_by 58) 16 = .ok (.ireturn, 1) by decide +kernel) rfl rfl ?_
  exact ⟨_, rfl, rfl, hC1.kept (fun a a1 a2 => am_sn (by omega)), am_ss hU1, (hf1.mono (A' := fun x => (3 ≤ x ∧ x < 238) ∨ x = 246) (fun a q => Or.inl q)).set (Or.inr rfl) hU1 (by simp [am_la_len])⟩
theorem w_set_no0 {x0 : Int32} {t : Nat → Nat} {nx ct : Nat} {ks : Nat → Nat → Nat} (hC : CS hp t nx ct ks) {ou : Nat → Int64} (hU : hp[246]? = some (101, am_la ou 1)) (hc : CNo 59 [.int x0] 0 t nx ct ks) : am_Rq 8 58 0 (am_en [.ref 2, .int x0, .ref 246] 4) [] hp (am_Ret fun hp1 r => r = some (.int (nI 1)) ∧ hp1 = hp ++ [c_ex 0]) := by
  show am_Rq _ 58 0 [some (.ref 2), some (.int x0), some (.ref 246), none] [] _ _
  refine am_Rq.blk (is := [(.aload_n 2, 1), (.iconst 0, 1), (.aload_n 0, 1), (.iload_n 1, 1)]) (q := (4, [some (.ref 2), some (.int x0), some (.ref 246), none], [.int x0, .ref 2, .int (nI 0), .ref 246])) (by decide +kernel) rfl ?_
  dsimp only
  refine am_Rq.callVX (show decode (am_by 58) 4 = .ok (.invokevirtual 59, 3) by decide +kernel) rfl [.int x0] [.int (nI 0), .ref 246] rfl rfl (Nat.le_of_ble_eq_true rfl) rfl hC.2.1 rfl (hc hp hC) ?_
  rintro hp1 o ⟨rfl, rfl⟩
  show am_Rq _ 58 12 [some (.ref 2), some (.int x0), some (.ref 246), none] [.ref hp.length] (hp ++ [c_ex 0]) _
  refine am_Rq.blk (is := [(.astore_n 3, 1), (.iconst 1, 1)]) (q := (14, [some (.ref 2), some (.int x0), some (.ref 246), some (.ref hp.length)], [.int (nI 1)])) (by decide +kernel) rfl ?_
  dsimp only
  refine am_Rq.ret (v := some (.int (nI 1))) (show decode (am_by 58) 14 = .ok (.ireturn, 1) by decide +kernel) rfl rfl ?_
  exact ⟨_, rfl, rfl, rfl⟩
theorem w_gets {x0 x1 x2 : Int32} {t : Nat → Nat} {nx ct : Nat} {ks : Nat → Nat → Nat} (hC : CS hp t nx ct ks) {ou : Nat → Int64} (hU : hp[246]? = some (101, am_la ou 1)) {v : Int32} {t1 : Nat → Nat} {nx1 ct1 : Nat} {ks1 : Nat → Nat → Nat} (hc : COk 80 [.int x0, .int x1, .int x2] v t nx ct ks t1 nx1 ct1 ks1) : am_Rq 8 79 0 (am_en [.ref 2, .int x0, .int x1, .int x2, .ref 246] 6) [] hp (am_Ret fun hp1 r => r = some (.int (nI 0)) ∧ CS hp1 t1 nx1 ct1 ks1 ∧ hp1[246]? = some (101, am_la (va_up ou 0 v.toInt64) 1) ∧ am_fr (fun x => (3 ≤ x ∧ x < 238) ∨ x = 246) hp hp1) := by
  show am_Rq _ 79 0 [some (.ref 2), some (.int x0), some (.int x1), some (.int x2), some (.ref 246), none] [] _ _
  refine am_Rq.blk (is := [(.aload 4, 2), (.iconst 0, 1), (.aload_n 0, 1), (.iload_n 1, 1), (.iload_n 2, 1), (.iload_n 3, 1)]) (q := (7, [some (.ref 2), some (.int x0), some (.int x1), some (.int x2), some (.ref 246), none], [.int x2, .int x1, .int x0, .ref 2, .int (nI 0), .ref 246])) (by decide +kernel) rfl ?_
  dsimp only
  refine am_Rq.callV (show decode (am_by 79) 7 = .ok (.invokevirtual 62, 3) by decide +kernel) rfl [.int x0, .int x1, .int x2] [.int (nI 0), .ref 246] rfl rfl (Nat.le_of_ble_eq_true rfl) rfl hC.2.1 rfl (hc hp hC) ?_
  rintro hp1 _ ⟨rfl, hC1, hf1⟩
  have hU1 := (hf1.2.2 246 (fun q => by omega)).trans hU
  show am_Rq _ 79 10 [some (.ref 2), some (.int x0), some (.int x1), some (.int x2), some (.ref 246), none] [.int v, .int (nI 0), .ref 246] _ _
  refine am_Rq.blk (is := [(.i2l, 1)]) (q := (11, [some (.ref 2), some (.int x0), some (.int x1), some (.int x2), some (.ref 246), none], [.long v.toInt64, .int (nI 0), .ref 246])) (by decide +kernel) rfl ?_
  dsimp only
  refine am_Rq.las (k := 0) (x := v.toInt64) (show decode (am_by 79) 11 = .ok (.lastore, 1) by decide +kernel) hU1 (by omega) (by omega) (by omega) ?_
  refine am_Rq.blk (is := [(.goto 11, 3)]) (q := (23, [some (.ref 2), some (.int x0), some (.int x1), some (.int x2), some (.ref 246), none], [])) (by decide +kernel) rfl ?_
  dsimp only
  refine am_Rq.blk (is := [(.iconst 0, 1)]) (q := (24, [some (.ref 2), some (.int x0), some (.int x1), some (.int x2), some (.ref 246), none], [.int (nI 0)])) (by decide +kernel) rfl ?_
  dsimp only
  refine am_Rq.ret (v := some (.int (nI 0))) (show decode (am_by 79) 24 = .ok (.ireturn, 1) by decide +kernel) rfl rfl ?_
  exact ⟨_, rfl, rfl, hC1.kept (fun a a1 a2 => am_sn (by omega)), am_ss hU1, (hf1.mono (A' := fun x => (3 ≤ x ∧ x < 238) ∨ x = 246) (fun a q => Or.inl q)).set (Or.inr rfl) hU1 (by simp [am_la_len])⟩
theorem w_gets_no0 {x0 x1 x2 : Int32} {t : Nat → Nat} {nx ct : Nat} {ks : Nat → Nat → Nat} (hC : CS hp t nx ct ks) {ou : Nat → Int64} (hU : hp[246]? = some (101, am_la ou 1)) (hc : CNo 80 [.int x0, .int x1, .int x2] 0 t nx ct ks) : am_Rq 8 79 0 (am_en [.ref 2, .int x0, .int x1, .int x2, .ref 246] 6) [] hp (am_Ret fun hp1 r => r = some (.int (nI 1)) ∧ hp1 = hp ++ [c_ex 0]) := by
  show am_Rq _ 79 0 [some (.ref 2), some (.int x0), some (.int x1), some (.int x2), some (.ref 246), none] [] _ _
  refine am_Rq.blk (is := [(.aload 4, 2), (.iconst 0, 1), (.aload_n 0, 1), (.iload_n 1, 1), (.iload_n 2, 1), (.iload_n 3, 1)]) (q := (7, [some (.ref 2), some (.int x0), some (.int x1), some (.int x2), some (.ref 246), none], [.int x2, .int x1, .int x0, .ref 2, .int (nI 0), .ref 246])) (by decide +kernel) rfl ?_
  dsimp only
  refine am_Rq.callVX (show decode (am_by 79) 7 = .ok (.invokevirtual 62, 3) by decide +kernel) rfl [.int x0, .int x1, .int x2] [.int (nI 0), .ref 246] rfl rfl (Nat.le_of_ble_eq_true rfl) rfl hC.2.1 rfl (hc hp hC) ?_
  rintro hp1 o ⟨rfl, rfl⟩
  show am_Rq _ 79 15 [some (.ref 2), some (.int x0), some (.int x1), some (.int x2), some (.ref 246), none] [.ref hp.length] (hp ++ [c_ex 0]) _
  refine am_Rq.blk (is := [(.astore 5, 2), (.iconst 1, 1)]) (q := (18, [some (.ref 2), some (.int x0), some (.int x1), some (.int x2), some (.ref 246), some (.ref hp.length)], [.int (nI 1)])) (by decide +kernel) rfl ?_
  dsimp only
  refine am_Rq.ret (v := some (.int (nI 1))) (show decode (am_by 79) 18 = .ok (.ireturn, 1) by decide +kernel) rfl rfl ?_
  exact ⟨_, rfl, rfl, rfl⟩
theorem w_gets_no2 {x0 x1 x2 : Int32} {t : Nat → Nat} {nx ct : Nat} {ks : Nat → Nat → Nat} (hC : CS hp t nx ct ks) {ou : Nat → Int64} (hU : hp[246]? = some (101, am_la ou 1)) (hc : CNo 80 [.int x0, .int x1, .int x2] 2 t nx ct ks) : am_Rq 8 79 0 (am_en [.ref 2, .int x0, .int x1, .int x2, .ref 246] 6) [] hp (am_Ret fun hp1 r => r = some (.int (nI 2)) ∧ hp1 = hp ++ [c_ex 2]) := by
  show am_Rq _ 79 0 [some (.ref 2), some (.int x0), some (.int x1), some (.int x2), some (.ref 246), none] [] _ _
  refine am_Rq.blk (is := [(.aload 4, 2), (.iconst 0, 1), (.aload_n 0, 1), (.iload_n 1, 1), (.iload_n 2, 1), (.iload_n 3, 1)]) (q := (7, [some (.ref 2), some (.int x0), some (.int x1), some (.int x2), some (.ref 246), none], [.int x2, .int x1, .int x0, .ref 2, .int (nI 0), .ref 246])) (by decide +kernel) rfl ?_
  dsimp only
  refine am_Rq.callVX (show decode (am_by 79) 7 = .ok (.invokevirtual 62, 3) by decide +kernel) rfl [.int x0, .int x1, .int x2] [.int (nI 0), .ref 246] rfl rfl (Nat.le_of_ble_eq_true rfl) rfl hC.2.1 rfl (hc hp hC) ?_
  rintro hp1 o ⟨rfl, rfl⟩
  show am_Rq _ 79 19 [some (.ref 2), some (.int x0), some (.int x1), some (.int x2), some (.ref 246), none] [.ref hp.length] (hp ++ [c_ex 2]) _
  refine am_Rq.blk (is := [(.astore 5, 2), (.iconst 2, 1)]) (q := (22, [some (.ref 2), some (.int x0), some (.int x1), some (.int x2), some (.ref 246), some (.ref hp.length)], [.int (nI 2)])) (by decide +kernel) rfl ?_
  dsimp only
  refine am_Rq.ret (v := some (.int (nI 2))) (show decode (am_by 79) 22 = .ok (.ireturn, 1) by decide +kernel) rfl rfl ?_
  exact ⟨_, rfl, rfl, rfl⟩
theorem w_brings {x0 x1 : Int32} {t : Nat → Nat} {nx ct : Nat} {ks : Nat → Nat → Nat} (hC : CS hp t nx ct ks) {ou : Nat → Int64} (hU : hp[246]? = some (101, am_la ou 1)) {v : Int32} {t1 : Nat → Nat} {nx1 ct1 : Nat} {ks1 : Nat → Nat → Nat} (hc : COk 82 [.int x0, .int x1] v t nx ct ks t1 nx1 ct1 ks1) : am_Rq 8 81 0 (am_en [.ref 2, .int x0, .int x1, .ref 246] 5) [] hp (am_Ret fun hp1 r => r = some (.int (nI 0)) ∧ CS hp1 t1 nx1 ct1 ks1 ∧ hp1[246]? = some (101, am_la (va_up ou 0 v.toInt64) 1) ∧ am_fr (fun x => (3 ≤ x ∧ x < 238) ∨ x = 246) hp hp1) := by
  show am_Rq _ 81 0 [some (.ref 2), some (.int x0), some (.int x1), some (.ref 246), none] [] _ _
  refine am_Rq.blk (is := [(.aload_n 3, 1), (.iconst 0, 1), (.aload_n 0, 1), (.iload_n 1, 1), (.iload_n 2, 1)]) (q := (5, [some (.ref 2), some (.int x0), some (.int x1), some (.ref 246), none], [.int x1, .int x0, .ref 2, .int (nI 0), .ref 246])) (by decide +kernel) rfl ?_
  dsimp only
  refine am_Rq.callV (show decode (am_by 81) 5 = .ok (.invokevirtual 65, 3) by decide +kernel) rfl [.int x0, .int x1] [.int (nI 0), .ref 246] rfl rfl (Nat.le_of_ble_eq_true rfl) rfl hC.2.1 rfl (hc hp hC) ?_
  rintro hp1 _ ⟨rfl, hC1, hf1⟩
  have hU1 := (hf1.2.2 246 (fun q => by omega)).trans hU
  show am_Rq _ 81 8 [some (.ref 2), some (.int x0), some (.int x1), some (.ref 246), none] [.int v, .int (nI 0), .ref 246] _ _
  refine am_Rq.blk (is := [(.i2l, 1)]) (q := (9, [some (.ref 2), some (.int x0), some (.int x1), some (.ref 246), none], [.long v.toInt64, .int (nI 0), .ref 246])) (by decide +kernel) rfl ?_
  dsimp only
  refine am_Rq.las (k := 0) (x := v.toInt64) (show decode (am_by 81) 9 = .ok (.lastore, 1) by decide +kernel) hU1 (by omega) (by omega) (by omega) ?_
  refine am_Rq.blk (is := [(.goto 11, 3)]) (q := (21, [some (.ref 2), some (.int x0), some (.int x1), some (.ref 246), none], [])) (by decide +kernel) rfl ?_
  dsimp only
  refine am_Rq.blk (is := [(.iconst 0, 1)]) (q := (22, [some (.ref 2), some (.int x0), some (.int x1), some (.ref 246), none], [.int (nI 0)])) (by decide +kernel) rfl ?_
  dsimp only
  refine am_Rq.ret (v := some (.int (nI 0))) (show decode (am_by 81) 22 = .ok (.ireturn, 1) by decide +kernel) rfl rfl ?_
  exact ⟨_, rfl, rfl, hC1.kept (fun a a1 a2 => am_sn (by omega)), am_ss hU1, (hf1.mono (A' := fun x => (3 ≤ x ∧ x < 238) ∨ x = 246) (fun a q => Or.inl q)).set (Or.inr rfl) hU1 (by simp [am_la_len])⟩
theorem w_brings_no0 {x0 x1 : Int32} {t : Nat → Nat} {nx ct : Nat} {ks : Nat → Nat → Nat} (hC : CS hp t nx ct ks) {ou : Nat → Int64} (hU : hp[246]? = some (101, am_la ou 1)) (hc : CNo 82 [.int x0, .int x1] 0 t nx ct ks) : am_Rq 8 81 0 (am_en [.ref 2, .int x0, .int x1, .ref 246] 5) [] hp (am_Ret fun hp1 r => r = some (.int (nI 1)) ∧ hp1 = hp ++ [c_ex 0]) := by
  show am_Rq _ 81 0 [some (.ref 2), some (.int x0), some (.int x1), some (.ref 246), none] [] _ _
  refine am_Rq.blk (is := [(.aload_n 3, 1), (.iconst 0, 1), (.aload_n 0, 1), (.iload_n 1, 1), (.iload_n 2, 1)]) (q := (5, [some (.ref 2), some (.int x0), some (.int x1), some (.ref 246), none], [.int x1, .int x0, .ref 2, .int (nI 0), .ref 246])) (by decide +kernel) rfl ?_
  dsimp only
  refine am_Rq.callVX (show decode (am_by 81) 5 = .ok (.invokevirtual 65, 3) by decide +kernel) rfl [.int x0, .int x1] [.int (nI 0), .ref 246] rfl rfl (Nat.le_of_ble_eq_true rfl) rfl hC.2.1 rfl (hc hp hC) ?_
  rintro hp1 o ⟨rfl, rfl⟩
  show am_Rq _ 81 13 [some (.ref 2), some (.int x0), some (.int x1), some (.ref 246), none] [.ref hp.length] (hp ++ [c_ex 0]) _
  refine am_Rq.blk (is := [(.astore 4, 2), (.iconst 1, 1)]) (q := (16, [some (.ref 2), some (.int x0), some (.int x1), some (.ref 246), some (.ref hp.length)], [.int (nI 1)])) (by decide +kernel) rfl ?_
  dsimp only
  refine am_Rq.ret (v := some (.int (nI 1))) (show decode (am_by 81) 16 = .ok (.ireturn, 1) by decide +kernel) rfl rfl ?_
  exact ⟨_, rfl, rfl, rfl⟩
theorem w_brings_no2 {x0 x1 : Int32} {t : Nat → Nat} {nx ct : Nat} {ks : Nat → Nat → Nat} (hC : CS hp t nx ct ks) {ou : Nat → Int64} (hU : hp[246]? = some (101, am_la ou 1)) (hc : CNo 82 [.int x0, .int x1] 2 t nx ct ks) : am_Rq 8 81 0 (am_en [.ref 2, .int x0, .int x1, .ref 246] 5) [] hp (am_Ret fun hp1 r => r = some (.int (nI 2)) ∧ hp1 = hp ++ [c_ex 2]) := by
  show am_Rq _ 81 0 [some (.ref 2), some (.int x0), some (.int x1), some (.ref 246), none] [] _ _
  refine am_Rq.blk (is := [(.aload_n 3, 1), (.iconst 0, 1), (.aload_n 0, 1), (.iload_n 1, 1), (.iload_n 2, 1)]) (q := (5, [some (.ref 2), some (.int x0), some (.int x1), some (.ref 246), none], [.int x1, .int x0, .ref 2, .int (nI 0), .ref 246])) (by decide +kernel) rfl ?_
  dsimp only
  refine am_Rq.callVX (show decode (am_by 81) 5 = .ok (.invokevirtual 65, 3) by decide +kernel) rfl [.int x0, .int x1] [.int (nI 0), .ref 246] rfl rfl (Nat.le_of_ble_eq_true rfl) rfl hC.2.1 rfl (hc hp hC) ?_
  rintro hp1 o ⟨rfl, rfl⟩
  show am_Rq _ 81 17 [some (.ref 2), some (.int x0), some (.int x1), some (.ref 246), none] [.ref hp.length] (hp ++ [c_ex 2]) _
  refine am_Rq.blk (is := [(.astore 4, 2), (.iconst 2, 1)]) (q := (20, [some (.ref 2), some (.int x0), some (.int x1), some (.ref 246), some (.ref hp.length)], [.int (nI 2)])) (by decide +kernel) rfl ?_
  dsimp only
  refine am_Rq.ret (v := some (.int (nI 2))) (show decode (am_by 81) 20 = .ok (.ireturn, 1) by decide +kernel) rfl rfl ?_
  exact ⟨_, rfl, rfl, rfl⟩
theorem w_flip {x0 x1 : Int32} {t : Nat → Nat} {nx ct : Nat} {ks : Nat → Nat → Nat} (hC : CS hp t nx ct ks) {ou : Nat → Int64} (hU : hp[246]? = some (101, am_la ou 1)) {v : Int32} {t1 : Nat → Nat} {nx1 ct1 : Nat} {ks1 : Nat → Nat → Nat} (hc : COk 85 [.int x0, .int x1] v t nx ct ks t1 nx1 ct1 ks1) : am_Rq 8 84 0 (am_en [.ref 2, .int x0, .int x1, .ref 246] 5) [] hp (am_Ret fun hp1 r => r = some (.int (nI 0)) ∧ CS hp1 t1 nx1 ct1 ks1 ∧ hp1[246]? = some (101, am_la (va_up ou 0 v.toInt64) 1) ∧ am_fr (fun x => (3 ≤ x ∧ x < 238) ∨ x = 246) hp hp1) := by
  show am_Rq _ 84 0 [some (.ref 2), some (.int x0), some (.int x1), some (.ref 246), none] [] _ _
  refine am_Rq.blk (is := [(.aload_n 3, 1), (.iconst 0, 1), (.aload_n 0, 1), (.iload_n 1, 1), (.iload_n 2, 1)]) (q := (5, [some (.ref 2), some (.int x0), some (.int x1), some (.ref 246), none], [.int x1, .int x0, .ref 2, .int (nI 0), .ref 246])) (by decide +kernel) rfl ?_
  dsimp only
  refine am_Rq.callV (show decode (am_by 84) 5 = .ok (.invokevirtual 68, 3) by decide +kernel) rfl [.int x0, .int x1] [.int (nI 0), .ref 246] rfl rfl (Nat.le_of_ble_eq_true rfl) rfl hC.2.1 rfl (hc hp hC) ?_
  rintro hp1 _ ⟨rfl, hC1, hf1⟩
  have hU1 := (hf1.2.2 246 (fun q => by omega)).trans hU
  show am_Rq _ 84 8 [some (.ref 2), some (.int x0), some (.int x1), some (.ref 246), none] [.int v, .int (nI 0), .ref 246] _ _
  refine am_Rq.blk (is := [(.i2l, 1)]) (q := (9, [some (.ref 2), some (.int x0), some (.int x1), some (.ref 246), none], [.long v.toInt64, .int (nI 0), .ref 246])) (by decide +kernel) rfl ?_
  dsimp only
  refine am_Rq.las (k := 0) (x := v.toInt64) (show decode (am_by 84) 9 = .ok (.lastore, 1) by decide +kernel) hU1 (by omega) (by omega) (by omega) ?_
  refine am_Rq.blk (is := [(.goto 7, 3)]) (q := (17, [some (.ref 2), some (.int x0), some (.int x1), some (.ref 246), none], [])) (by decide +kernel) rfl ?_
  dsimp only
  refine am_Rq.blk (is := [(.iconst 0, 1)]) (q := (18, [some (.ref 2), some (.int x0), some (.int x1), some (.ref 246), none], [.int (nI 0)])) (by decide +kernel) rfl ?_
  dsimp only
  refine am_Rq.ret (v := some (.int (nI 0))) (show decode (am_by 84) 18 = .ok (.ireturn, 1) by decide +kernel) rfl rfl ?_
  exact ⟨_, rfl, rfl, hC1.kept (fun a a1 a2 => am_sn (by omega)), am_ss hU1, (hf1.mono (A' := fun x => (3 ≤ x ∧ x < 238) ∨ x = 246) (fun a q => Or.inl q)).set (Or.inr rfl) hU1 (by simp [am_la_len])⟩
theorem w_flip_no0 {x0 x1 : Int32} {t : Nat → Nat} {nx ct : Nat} {ks : Nat → Nat → Nat} (hC : CS hp t nx ct ks) {ou : Nat → Int64} (hU : hp[246]? = some (101, am_la ou 1)) (hc : CNo 85 [.int x0, .int x1] 0 t nx ct ks) : am_Rq 8 84 0 (am_en [.ref 2, .int x0, .int x1, .ref 246] 5) [] hp (am_Ret fun hp1 r => r = some (.int (nI 1)) ∧ hp1 = hp ++ [c_ex 0]) := by
  show am_Rq _ 84 0 [some (.ref 2), some (.int x0), some (.int x1), some (.ref 246), none] [] _ _
  refine am_Rq.blk (is := [(.aload_n 3, 1), (.iconst 0, 1), (.aload_n 0, 1), (.iload_n 1, 1), (.iload_n 2, 1)]) (q := (5, [some (.ref 2), some (.int x0), some (.int x1), some (.ref 246), none], [.int x1, .int x0, .ref 2, .int (nI 0), .ref 246])) (by decide +kernel) rfl ?_
  dsimp only
  refine am_Rq.callVX (show decode (am_by 84) 5 = .ok (.invokevirtual 68, 3) by decide +kernel) rfl [.int x0, .int x1] [.int (nI 0), .ref 246] rfl rfl (Nat.le_of_ble_eq_true rfl) rfl hC.2.1 rfl (hc hp hC) ?_
  rintro hp1 o ⟨rfl, rfl⟩
  show am_Rq _ 84 13 [some (.ref 2), some (.int x0), some (.int x1), some (.ref 246), none] [.ref hp.length] (hp ++ [c_ex 0]) _
  refine am_Rq.blk (is := [(.astore 4, 2), (.iconst 1, 1)]) (q := (16, [some (.ref 2), some (.int x0), some (.int x1), some (.ref 246), some (.ref hp.length)], [.int (nI 1)])) (by decide +kernel) rfl ?_
  dsimp only
  refine am_Rq.ret (v := some (.int (nI 1))) (show decode (am_by 84) 16 = .ok (.ireturn, 1) by decide +kernel) rfl rfl ?_
  exact ⟨_, rfl, rfl, rfl⟩
theorem w_undo {t : Nat → Nat} {nx ct : Nat} {ks : Nat → Nat → Nat} (hC : CS hp t nx ct ks) {ou : Nat → Int64} (hU : hp[246]? = some (101, am_la ou 1)) {v : Int32} {t1 : Nat → Nat} {nx1 ct1 : Nat} {ks1 : Nat → Nat → Nat} (hc : COk 87 [] v t nx ct ks t1 nx1 ct1 ks1) : am_Rq 8 86 0 (am_en [.ref 2, .ref 246] 3) [] hp (am_Ret fun hp1 r => r = some (.int (nI 0)) ∧ CS hp1 t1 nx1 ct1 ks1 ∧ hp1[246]? = some (101, am_la (va_up ou 0 v.toInt64) 1) ∧ am_fr (fun x => (3 ≤ x ∧ x < 238) ∨ x = 246) hp hp1) := by
  show am_Rq _ 86 0 [some (.ref 2), some (.ref 246), none] [] _ _
  refine am_Rq.blk (is := [(.aload_n 1, 1), (.iconst 0, 1), (.aload_n 0, 1)]) (q := (3, [some (.ref 2), some (.ref 246), none], [.ref 2, .int (nI 0), .ref 246])) (by decide +kernel) rfl ?_
  dsimp only
  refine am_Rq.callV (show decode (am_by 86) 3 = .ok (.invokevirtual 71, 3) by decide +kernel) rfl [] [.int (nI 0), .ref 246] rfl rfl (Nat.le_of_ble_eq_true rfl) rfl hC.2.1 rfl (hc hp hC) ?_
  rintro hp1 _ ⟨rfl, hC1, hf1⟩
  have hU1 := (hf1.2.2 246 (fun q => by omega)).trans hU
  show am_Rq _ 86 6 [some (.ref 2), some (.ref 246), none] [.int v, .int (nI 0), .ref 246] _ _
  refine am_Rq.blk (is := [(.i2l, 1)]) (q := (7, [some (.ref 2), some (.ref 246), none], [.long v.toInt64, .int (nI 0), .ref 246])) (by decide +kernel) rfl ?_
  dsimp only
  refine am_Rq.las (k := 0) (x := v.toInt64) (show decode (am_by 86) 7 = .ok (.lastore, 1) by decide +kernel) hU1 (by omega) (by omega) (by omega) ?_
  refine am_Rq.blk (is := [(.goto 6, 3)]) (q := (14, [some (.ref 2), some (.ref 246), none], [])) (by decide +kernel) rfl ?_
  dsimp only
  refine am_Rq.blk (is := [(.iconst 0, 1)]) (q := (15, [some (.ref 2), some (.ref 246), none], [.int (nI 0)])) (by decide +kernel) rfl ?_
  dsimp only
  refine am_Rq.ret (v := some (.int (nI 0))) (show decode (am_by 86) 15 = .ok (.ireturn, 1) by decide +kernel) rfl rfl ?_
  exact ⟨_, rfl, rfl, hC1.kept (fun a a1 a2 => am_sn (by omega)), am_ss hU1, (hf1.mono (A' := fun x => (3 ≤ x ∧ x < 238) ∨ x = 246) (fun a q => Or.inl q)).set (Or.inr rfl) hU1 (by simp [am_la_len])⟩
theorem w_undo_no1 {t : Nat → Nat} {nx ct : Nat} {ks : Nat → Nat → Nat} (hC : CS hp t nx ct ks) {ou : Nat → Int64} (hU : hp[246]? = some (101, am_la ou 1)) (hc : CNo 87 [] 1 t nx ct ks) : am_Rq 8 86 0 (am_en [.ref 2, .ref 246] 3) [] hp (am_Ret fun hp1 r => r = some (.int (nI 1)) ∧ hp1 = hp ++ [c_ex 1]) := by
  show am_Rq _ 86 0 [some (.ref 2), some (.ref 246), none] [] _ _
  refine am_Rq.blk (is := [(.aload_n 1, 1), (.iconst 0, 1), (.aload_n 0, 1)]) (q := (3, [some (.ref 2), some (.ref 246), none], [.ref 2, .int (nI 0), .ref 246])) (by decide +kernel) rfl ?_
  dsimp only
  refine am_Rq.callVX (show decode (am_by 86) 3 = .ok (.invokevirtual 71, 3) by decide +kernel) rfl [] [.int (nI 0), .ref 246] rfl rfl (Nat.le_of_ble_eq_true rfl) rfl hC.2.1 rfl (hc hp hC) ?_
  rintro hp1 o ⟨rfl, rfl⟩
  show am_Rq _ 86 11 [some (.ref 2), some (.ref 246), none] [.ref hp.length] (hp ++ [c_ex 1]) _
  refine am_Rq.blk (is := [(.astore_n 2, 1), (.iconst 1, 1)]) (q := (13, [some (.ref 2), some (.ref 246), some (.ref hp.length)], [.int (nI 1)])) (by decide +kernel) rfl ?_
  dsimp only
  refine am_Rq.ret (v := some (.int (nI 1))) (show decode (am_by 86) 13 = .ok (.ireturn, 1) by decide +kernel) rfl rfl ?_
  exact ⟨_, rfl, rfl, rfl⟩
end L95
