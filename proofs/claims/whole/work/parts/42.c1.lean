/-! The class: leaves (rows by prog/c1.py). -/
def am_b (p : Bool) : Nat := match p with
  | true => 1
  | false => 0
theorem am_b_eq (p : Bool) : am_c1 .eq (nI (am_b p)) = !p := by cases p <;> rfl
theorem am_b_ne (p : Bool) : am_c1 .ne (nI (am_b p)) = p := by cases p <;> rfl
section C1
variable {d : Nat} {hp : am_H}
theorem c_within (x a b : Int32) : am_Rq d 15 0 (am_en [.int x, .int a, .int b] 3) [] hp (am_Ret fun hp1 v => hp1 = hp ∧ v = some (.int (nI (am_b (decide (a ≤ x) && decide (x ≤ b)))))) := by
  show am_Rq _ 15 0 [some (.int x), some (.int a), some (.int b)] [] _ _
  refine am_Rq.blk (is := [(.iload_n 0, 1), (.iload_n 1, 1)]) (q := (2, [some (.int x), some (.int a), some (.int b)], [.int a, .int x])) (by decide +kernel) rfl ?_
  dsimp only
  refine am_Rq.if2 (t := 14) (show decode (am_by 15) 2 = .ok (.if_icmp .lt 12, 3) by decide +kernel) (by decide) (fun h1 => ?_) (fun h1 => ?_)
  ·
    refine am_Rq.blk (is := [(.iconst 0, 1)]) (q := (15, [some (.int x), some (.int a), some (.int b)], [.int (nI 0)])) (by decide +kernel) rfl ?_
    dsimp only
    refine am_Rq.ret (v := some (.int (nI 0))) (show decode (am_by 15) 15 = .ok (.ireturn, 1) by decide +kernel) rfl rfl ?_
    have h2 : ¬ a ≤ x := by have := of_decide_eq_true h1; rw [Int32.not_le]; exact this
    exact ⟨_, rfl, rfl, by rw [decide_eq_false h2]; rfl⟩
  ·
    refine am_Rq.blk (is := [(.iload_n 0, 1), (.iload_n 2, 1)]) (q := (7, [some (.int x), some (.int a), some (.int b)], [.int b, .int x])) (by decide +kernel) rfl ?_
    dsimp only
    refine am_Rq.if2 (t := 14) (show decode (am_by 15) 7 = .ok (.if_icmp .gt 7, 3) by decide +kernel) (by decide) (fun h2 => ?_) (fun h2 => ?_)
    ·
      refine am_Rq.blk (is := [(.iconst 0, 1)]) (q := (15, [some (.int x), some (.int a), some (.int b)], [.int (nI 0)])) (by decide +kernel) rfl ?_
      dsimp only
      refine am_Rq.ret (v := some (.int (nI 0))) (show decode (am_by 15) 15 = .ok (.ireturn, 1) by decide +kernel) rfl rfl ?_
      have h3 : ¬ x ≤ b := by have := of_decide_eq_true h2; rw [Int32.not_le]; exact this
      exact ⟨_, rfl, rfl, by rw [decide_eq_false h3, Bool.and_false]; rfl⟩
    ·
      refine am_Rq.blk (is := [(.iconst 1, 1), (.goto 4, 3)]) (q := (15, [some (.int x), some (.int a), some (.int b)], [.int (nI 1)])) (by decide +kernel) rfl ?_
      dsimp only
      refine am_Rq.ret (v := some (.int (nI 1))) (show decode (am_by 15) 15 = .ok (.ireturn, 1) by decide +kernel) rfl rfl ?_
      have h3 : a ≤ x := by have := of_decide_eq_false h1; rw [Int32.not_lt] at this; exact this
      have h4 : x ≤ b := by have := of_decide_eq_false h2; rw [Int32.not_lt] at this; exact this
      exact ⟨_, rfl, rfl, by rw [decide_eq_true h3, decide_eq_true h4]; rfl⟩
theorem m_in (x a b : Int32) : am_Rq d 92 0 (am_en [.int x, .int a, .int b] 3) [] hp (am_Ret fun hp1 v => hp1 = hp ∧ v = some (.int (nI (am_b (decide (a ≤ x) && decide (x ≤ b)))))) := by
  show am_Rq _ 92 0 [some (.int x), some (.int a), some (.int b)] [] _ _
  refine am_Rq.blk (is := [(.iload_n 0, 1), (.iload_n 1, 1)]) (q := (2, [some (.int x), some (.int a), some (.int b)], [.int a, .int x])) (by decide +kernel) rfl ?_
  dsimp only
  refine am_Rq.if2 (t := 14) (show decode (am_by 92) 2 = .ok (.if_icmp .lt 12, 3) by decide +kernel) (by decide) (fun h1 => ?_) (fun h1 => ?_)
  ·
    refine am_Rq.blk (is := [(.iconst 0, 1)]) (q := (15, [some (.int x), some (.int a), some (.int b)], [.int (nI 0)])) (by decide +kernel) rfl ?_
    dsimp only
    refine am_Rq.ret (v := some (.int (nI 0))) (show decode (am_by 92) 15 = .ok (.ireturn, 1) by decide +kernel) rfl rfl ?_
    have h2 : ¬ a ≤ x := by have := of_decide_eq_true h1; rw [Int32.not_le]; exact this
    exact ⟨_, rfl, rfl, by rw [decide_eq_false h2]; rfl⟩
  ·
    refine am_Rq.blk (is := [(.iload_n 0, 1), (.iload_n 2, 1)]) (q := (7, [some (.int x), some (.int a), some (.int b)], [.int b, .int x])) (by decide +kernel) rfl ?_
    dsimp only
    refine am_Rq.if2 (t := 14) (show decode (am_by 92) 7 = .ok (.if_icmp .gt 7, 3) by decide +kernel) (by decide) (fun h2 => ?_) (fun h2 => ?_)
    ·
      refine am_Rq.blk (is := [(.iconst 0, 1)]) (q := (15, [some (.int x), some (.int a), some (.int b)], [.int (nI 0)])) (by decide +kernel) rfl ?_
      dsimp only
      refine am_Rq.ret (v := some (.int (nI 0))) (show decode (am_by 92) 15 = .ok (.ireturn, 1) by decide +kernel) rfl rfl ?_
      have h3 : ¬ x ≤ b := by have := of_decide_eq_true h2; rw [Int32.not_le]; exact this
      exact ⟨_, rfl, rfl, by rw [decide_eq_false h3, Bool.and_false]; rfl⟩
    ·
      refine am_Rq.blk (is := [(.iconst 1, 1), (.goto 4, 3)]) (q := (15, [some (.int x), some (.int a), some (.int b)], [.int (nI 1)])) (by decide +kernel) rfl ?_
      dsimp only
      refine am_Rq.ret (v := some (.int (nI 1))) (show decode (am_by 92) 15 = .ok (.ireturn, 1) by decide +kernel) rfl rfl ?_
      have h3 : a ≤ x := by have := of_decide_eq_false h1; rw [Int32.not_lt] at this; exact this
      have h4 : x ≤ b := by have := of_decide_eq_false h2; rw [Int32.not_lt] at this; exact this
      exact ⟨_, rfl, rfl, by rw [decide_eq_true h3, decide_eq_true h4]; rfl⟩
theorem c_give {b c : Nat} {t : Nat → Nat} (h : Led hp b t) (hc : c < 5) {k n : Nat} (hk : k < 8)  : am_Rq d 28 0 (am_en [.ref (b + 2 + 2 * c), .int (nI k), .int (nI n)] 3) [] hp (am_Ret fun hp1 v => v = none ∧ Led hp1 b (va_up (va_up t (40 + 8 * c + k) (t (40 + 8 * c + k) + n)) (8 * c + 7) (t (8 * c + 7) + n)) ∧ am_fr (c_in b) hp hp1) := by
  show am_Rq _ 28 0 [some (.ref (b + 2 + 2 * c)), some (.int (nI k)), some (.int (nI n))] [] _ _
  refine am_Rq.blk (is := [(.aload_n 0, 1)]) (q := (1, [some (.ref (b + 2 + 2 * c)), some (.int (nI k)), some (.int (nI n))], [.ref (b + 2 + 2 * c)])) (by decide +kernel) rfl ?_
  dsimp only
  refine am_Rq.getf (v := .ref (b + 3 + 2 * c)) (show decode (am_by 28) 1 = .ok (.getfield 18, 3) by decide +kernel) rfl (Led.sc h (by omega)) rfl ?_
  refine am_Rq.blk (is := [(.iload_n 1, 1), (.dup2, 1)]) (q := (6, [some (.ref (b + 2 + 2 * c)), some (.int (nI k)), some (.int (nI n))], [.int (nI k), .ref (b + 3 + 2 * c), .int (nI k), .ref (b + 3 + 2 * c)])) (by decide +kernel) rfl ?_
  dsimp only
  refine Led.gHd (c := c) (k := k) h (by omega) (by omega) (show decode (am_by 28) 6 = .ok (.iaload, 1) by decide +kernel) ?_
  refine am_Rq.blk (is := [(.iload_n 2, 1), (.iadd, 1)]) (q := (9, [some (.ref (b + 2 + 2 * c)), some (.int (nI k)), some (.int (nI n))], [.int ((nI (t (40 + 8 * c + k))) + (nI n)), .int (nI k), .ref (b + 3 + 2 * c)])) (by decide +kernel) rfl ?_
  dsimp only
  rw [show (nI (t (40 + 8 * c + k))) + (nI n) = nI ((t (40 + 8 * c + k)) + n) from nI_add _ _]
  refine Led.pHd (c := c) (k := k) (v := (t (40 + 8 * c + k)) + n) h (by omega) (by omega) (show decode (am_by 28) 9 = .ok (.iastore, 1) by decide +kernel) ?_
  intro hp1 hL1 hf1
  refine am_Rq.blk (is := [(.aload_n 0, 1), (.dup, 1)]) (q := (12, [some (.ref (b + 2 + 2 * c)), some (.int (nI k)), some (.int (nI n))], [.ref (b + 2 + 2 * c), .ref (b + 2 + 2 * c)])) (by decide +kernel) rfl ?_
  dsimp only
  refine am_Rq.getf (v := .int (nI ((va_up t (40 + 8 * c + k) ((t (40 + 8 * c + k)) + n)) (8 * c + 7)))) (show decode (am_by 28) 12 = .ok (.getfield 37, 3) by decide +kernel) rfl (Led.sc hL1 (by omega)) rfl ?_
  refine am_Rq.blk (is := [(.iload_n 2, 1), (.iadd, 1)]) (q := (17, [some (.ref (b + 2 + 2 * c)), some (.int (nI k)), some (.int (nI n))], [.int ((nI ((va_up t (40 + 8 * c + k) ((t (40 + 8 * c + k)) + n)) (8 * c + 7))) + (nI n)), .ref (b + 2 + 2 * c)])) (by decide +kernel) rfl ?_
  dsimp only
  rw [show (nI ((va_up t (40 + 8 * c + k) ((t (40 + 8 * c + k)) + n)) (8 * c + 7))) + (nI n) = nI (((va_up t (40 + 8 * c + k) ((t (40 + 8 * c + k)) + n)) (8 * c + 7)) + n) from nI_add _ _]
  refine Led.pSc (c := c) (k := 7) (v := ((va_up t (40 + 8 * c + k) ((t (40 + 8 * c + k)) + n)) (8 * c + 7)) + n) hL1 (by omega) (show decode (am_by 28) 17 = .ok (.putfield 37, 3) by decide +kernel) rfl (by decide) (by first | rfl | exact rfl) rfl ?_
  intro hp2 hL2 hf2
  refine am_Rq.ret (v := none) (show decode (am_by 28) 20 = .ok (.return_, 1) by decide +kernel) rfl rfl ?_
  refine ⟨_, rfl, rfl, ?_, (hf1.trans hf2)⟩
  rw [va_up_ne _ _ (show 8 * c + 7 ≠ 40 + 8 * c + k by omega)] at hL2
  exact hL2
theorem c_take {b c : Nat} {t : Nat → Nat} (h : Led hp b t) (hc : c < 5) {k n : Nat} (hk : k < 8) (h1 : n ≤ t (40 + 8 * c + k)) (h2 : n ≤ t (8 * c + 7)) : am_Rq d 31 0 (am_en [.ref (b + 2 + 2 * c), .int (nI k), .int (nI n)] 3) [] hp (am_Ret fun hp1 v => v = none ∧ Led hp1 b (va_up (va_up t (40 + 8 * c + k) (t (40 + 8 * c + k) - n)) (8 * c + 7) (t (8 * c + 7) - n)) ∧ am_fr (c_in b) hp hp1) := by
  show am_Rq _ 31 0 [some (.ref (b + 2 + 2 * c)), some (.int (nI k)), some (.int (nI n))] [] _ _
  refine am_Rq.blk (is := [(.aload_n 0, 1)]) (q := (1, [some (.ref (b + 2 + 2 * c)), some (.int (nI k)), some (.int (nI n))], [.ref (b + 2 + 2 * c)])) (by decide +kernel) rfl ?_
  dsimp only
  refine am_Rq.getf (v := .ref (b + 3 + 2 * c)) (show decode (am_by 31) 1 = .ok (.getfield 18, 3) by decide +kernel) rfl (Led.sc h (by omega)) rfl ?_
  refine am_Rq.blk (is := [(.iload_n 1, 1), (.dup2, 1)]) (q := (6, [some (.ref (b + 2 + 2 * c)), some (.int (nI k)), some (.int (nI n))], [.int (nI k), .ref (b + 3 + 2 * c), .int (nI k), .ref (b + 3 + 2 * c)])) (by decide +kernel) rfl ?_
  dsimp only
  refine Led.gHd (c := c) (k := k) h (by omega) (by omega) (show decode (am_by 31) 6 = .ok (.iaload, 1) by decide +kernel) ?_
  refine am_Rq.blk (is := [(.iload_n 2, 1), (.isub, 1)]) (q := (9, [some (.ref (b + 2 + 2 * c)), some (.int (nI k)), some (.int (nI n))], [.int ((nI (t (40 + 8 * c + k))) - (nI n)), .int (nI k), .ref (b + 3 + 2 * c)])) (by decide +kernel) rfl ?_
  dsimp only
  rw [show (nI (t (40 + 8 * c + k))) - (nI n) = nI ((t (40 + 8 * c + k)) - n) from nm_isub (by omega)]
  refine Led.pHd (c := c) (k := k) (v := (t (40 + 8 * c + k)) - n) h (by omega) (by omega) (show decode (am_by 31) 9 = .ok (.iastore, 1) by decide +kernel) ?_
  intro hp1 hL1 hf1
  refine am_Rq.blk (is := [(.aload_n 0, 1), (.dup, 1)]) (q := (12, [some (.ref (b + 2 + 2 * c)), some (.int (nI k)), some (.int (nI n))], [.ref (b + 2 + 2 * c), .ref (b + 2 + 2 * c)])) (by decide +kernel) rfl ?_
  dsimp only
  refine am_Rq.getf (v := .int (nI ((va_up t (40 + 8 * c + k) ((t (40 + 8 * c + k)) - n)) (8 * c + 7)))) (show decode (am_by 31) 12 = .ok (.getfield 37, 3) by decide +kernel) rfl (Led.sc hL1 (by omega)) rfl ?_
  refine am_Rq.blk (is := [(.iload_n 2, 1), (.isub, 1)]) (q := (17, [some (.ref (b + 2 + 2 * c)), some (.int (nI k)), some (.int (nI n))], [.int ((nI ((va_up t (40 + 8 * c + k) ((t (40 + 8 * c + k)) - n)) (8 * c + 7))) - (nI n)), .ref (b + 2 + 2 * c)])) (by decide +kernel) rfl ?_
  dsimp only
  rw [show (nI ((va_up t (40 + 8 * c + k) ((t (40 + 8 * c + k)) - n)) (8 * c + 7))) - (nI n) = nI (((va_up t (40 + 8 * c + k) ((t (40 + 8 * c + k)) - n)) (8 * c + 7)) - n) from nm_isub (by rw [va_up_ne _ _ (by omega)]; exact h2)]
  refine Led.pSc (c := c) (k := 7) (v := ((va_up t (40 + 8 * c + k) ((t (40 + 8 * c + k)) - n)) (8 * c + 7)) - n) hL1 (by omega) (show decode (am_by 31) 17 = .ok (.putfield 37, 3) by decide +kernel) rfl (by decide) (by first | rfl | exact rfl) rfl ?_
  intro hp2 hL2 hf2
  refine am_Rq.ret (v := none) (show decode (am_by 31) 20 = .ok (.return_, 1) by decide +kernel) rfl rfl ?_
  refine ⟨_, rfl, rfl, ?_, (hf1.trans hf2)⟩
  rw [va_up_ne _ _ (show 8 * c + 7 ≠ 40 + 8 * c + k by omega)] at hL2
  exact hL2
theorem c_inCommon {b c : Nat} {t : Nat → Nat} (h : Led hp b t) (hc : c < 5) {n : Nat} (hn : n < 2 ^ 31) (h0 : 0 < t (8 * c + 6)) (h6 : t (8 * c + 6) < 2 ^ 31) (h1 : t (8 * c) < 2 ^ 31) (hb : n * 1000 * t (8 * c) < 2 ^ 63) : am_Rq d 12 0 (am_en [.ref (b + 2 + 2 * c), .int (nI n)] 2) [] hp (am_Ret fun hp1 v => hp1 = hp ∧ v = some (.int (nI (n * 1000 * t (8 * c) / t (8 * c + 6))))) := by
  show am_Rq _ 12 0 [some (.ref (b + 2 + 2 * c)), some (.int (nI n))] [] _ _
  refine am_Rq.blk (is := [(.aload_n 0, 1)]) (q := (1, [some (.ref (b + 2 + 2 * c)), some (.int (nI n))], [.ref (b + 2 + 2 * c)])) (by decide +kernel) rfl ?_
  dsimp only
  refine am_Rq.getf (v := .int (nI (t (8 * c + 6)))) (show decode (am_by 12) 1 = .ok (.getfield 15, 3) by decide +kernel) rfl (Led.sc h (by omega)) rfl ?_
  refine am_Rq.blk (is := [(.iconst 1, 1)]) (q := (5, [some (.ref (b + 2 + 2 * c)), some (.int (nI n))], [.int (nI 1), .int (nI (t (8 * c + 6)))])) (by decide +kernel) rfl ?_
  dsimp only
  refine am_Rq.if2T (t := 10) (show decode (am_by 12) 5 = .ok (.if_icmp .ge 5, 3) by decide +kernel) (by decide) (by rw [nm_ge h6 (by omega)]; exact decide_eq_true h0) ?_
  refine am_Rq.blk (is := [(.iload_n 1, 1), (.i2l, 1)]) (q := (12, [some (.ref (b + 2 + 2 * c)), some (.int (nI n))], [.long ((nI n).toInt64)])) (by decide +kernel) rfl ?_
  dsimp only
  rw [show (nI n).toInt64 = lN n from nm_l (by omega)]
  refine am_Rq.blk (is := [(.ldc2_w 46, 3), (.lmul, 1)]) (q := (16, [some (.ref (b + 2 + 2 * c)), some (.int (nI n))], [.long ((lN n) * (lN 1000))])) (by decide +kernel) rfl ?_
  dsimp only
  rw [show (lN n) * (lN 1000) = lN (n * 1000) from lN_mul _ _]
  refine am_Rq.blk (is := [(.aload_n 0, 1)]) (q := (17, [some (.ref (b + 2 + 2 * c)), some (.int (nI n))], [.ref (b + 2 + 2 * c), .long (lN (n * 1000))])) (by decide +kernel) rfl ?_
  dsimp only
  refine am_Rq.getf (v := .int (nI (t (8 * c)))) (show decode (am_by 12) 17 = .ok (.getfield 9, 3) by decide +kernel) rfl (Led.sc h (by omega)) rfl ?_
  refine am_Rq.blk (is := [(.i2l, 1)]) (q := (21, [some (.ref (b + 2 + 2 * c)), some (.int (nI n))], [.long ((nI (t (8 * c))).toInt64), .long (lN (n * 1000))])) (by decide +kernel) rfl ?_
  dsimp only
  rw [show (nI (t (8 * c))).toInt64 = lN (t (8 * c)) from nm_l (by omega)]
  refine am_Rq.blk (is := [(.lmul, 1)]) (q := (22, [some (.ref (b + 2 + 2 * c)), some (.int (nI n))], [.long ((lN (n * 1000)) * (lN (t (8 * c))))])) (by decide +kernel) rfl ?_
  dsimp only
  rw [show (lN (n * 1000)) * (lN (t (8 * c))) = lN ((n * 1000) * (t (8 * c))) from lN_mul _ _]
  refine am_Rq.blk (is := [(.aload_n 0, 1)]) (q := (23, [some (.ref (b + 2 + 2 * c)), some (.int (nI n))], [.ref (b + 2 + 2 * c), .long (lN ((n * 1000) * (t (8 * c))))])) (by decide +kernel) rfl ?_
  dsimp only
  refine am_Rq.getf (v := .int (nI (t (8 * c + 6)))) (show decode (am_by 12) 23 = .ok (.getfield 15, 3) by decide +kernel) rfl (Led.sc h (by omega)) rfl ?_
  refine am_Rq.blk (is := [(.i2l, 1)]) (q := (27, [some (.ref (b + 2 + 2 * c)), some (.int (nI n))], [.long ((nI (t (8 * c + 6))).toInt64), .long (lN ((n * 1000) * (t (8 * c))))])) (by decide +kernel) rfl ?_
  dsimp only
  rw [show (nI (t (8 * c + 6))).toInt64 = lN (t (8 * c + 6)) from nm_l (by omega)]
  refine am_Rq.ldivN (a := (n * 1000) * (t (8 * c))) (b := t (8 * c + 6)) (show decode (am_by 12) 27 = .ok (.ldiv, 1) by decide +kernel) (h0) (hb) (by omega) ?_
  refine am_Rq.blk (is := [(.l2i, 1)]) (q := (29, [some (.ref (b + 2 + 2 * c)), some (.int (nI n))], [.int ((lN (((n * 1000) * (t (8 * c))) / (t (8 * c + 6)))).toInt32)])) (by decide +kernel) rfl ?_
  dsimp only
  rw [show (lN (((n * 1000) * (t (8 * c))) / (t (8 * c + 6)))).toInt32 = nI (((n * 1000) * (t (8 * c))) / (t (8 * c + 6))) from nm_i _]
  refine am_Rq.ret (v := some (.int (nI (((n * 1000) * (t (8 * c))) / (t (8 * c + 6)))))) (show decode (am_by 12) 29 = .ok (.ireturn, 1) by decide +kernel) rfl rfl ?_
  exact ⟨_, rfl, rfl, rfl⟩
end C1
