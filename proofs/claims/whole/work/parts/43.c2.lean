/-! The class: its classes and grants (rows by prog/c2.py). -/
/-- what has vested -/
def g_v (sh cl ln en m : Nat) : Nat := if en ≠ 0 then sh else if m < cl then 0 else if ln ≤ m ∨ ln < 1 then sh else sh * m / ln
/-- the conversion price behind a round -/
def g_p (iss gd cv n p all : Nat) : Nat := if iss = 0 ∨ gd = 0 ∨ cv ≤ 1000 * p then cv else if gd = 2 then 1000 * p else (cv * all + 1000 * p * n) / (all + n)
theorem c_bits : ∀ s, s < 16 → ∀ c, c < 5 → 1 ≤ c → am_c2 .ne ((nI s >>> ((nI c - nI 1) &&& 31)) &&& nI 1) (nI 1) = !(Nat.testBit s (c - 1)) := by decide +kernel
theorem Led.same {hp : am_H} {b : Nat} {t : Nat → Nat} (h : Led hp b t) {i v : Nat} (e : v = t i) : Led hp b (va_up t i v) := h.congr (fun k _ => by
  by_cases q : k = i
  · rw [q, va_up_self, e]
  · rw [va_up_ne _ _ q])
section C2
variable {d : Nat} {hp : am_H}
theorem c_contains {s c : Nat} (hs : s < 16) (hc : c < 5) (h1 : 1 ≤ c) : am_Rq d 64 0 (am_en [.int (nI s), .int (nI c)] 2) [] hp (am_Ret fun hp1 v => hp1 = hp ∧ v = some (.int (nI (am_b (Nat.testBit s (c - 1)))))) := by
  show am_Rq _ 64 0 [some (.int (nI s)), some (.int (nI c))] [] _ _
  refine am_Rq.blk (is := [(.iload_n 0, 1), (.iload_n 1, 1), (.iconst 1, 1), (.isub, 1), (.ishr, 1), (.iconst 1, 1), (.iand, 1), (.iconst 1, 1)]) (q := (8, [some (.int (nI s)), some (.int (nI c))], [.int (nI 1), .int (((nI s) >>> (((nI c) - (nI 1)) &&& 31)) &&& (nI 1))])) (by decide +kernel) rfl ?_
  dsimp only
  refine am_Rq.if2 (t := 15) (show decode (am_by 64) 8 = .ok (.if_icmp .ne 7, 3) by decide +kernel) (by decide) (fun h2 => ?_) (fun h2 => ?_)
  ·
    rw [c_bits s hs c hc h1] at h2
    refine am_Rq.blk (is := [(.iconst 0, 1)]) (q := (16, [some (.int (nI s)), some (.int (nI c))], [.int (nI 0)])) (by decide +kernel) rfl ?_
    dsimp only
    refine am_Rq.ret (v := some (.int (nI 0))) (show decode (am_by 64) 16 = .ok (.ireturn, 1) by decide +kernel) rfl rfl ?_
    exact ⟨_, rfl, rfl, by cases hb : Nat.testBit s (c - 1) <;> rw [hb] at h2 <;> first | rfl | cases h2⟩
  ·
    rw [c_bits s hs c hc h1] at h2
    refine am_Rq.blk (is := [(.iconst 1, 1), (.goto 4, 3)]) (q := (16, [some (.int (nI s)), some (.int (nI c))], [.int (nI 1)])) (by decide +kernel) rfl ?_
    dsimp only
    refine am_Rq.ret (v := some (.int (nI 1))) (show decode (am_by 64) 16 = .ok (.ireturn, 1) by decide +kernel) rfl rfl ?_
    exact ⟨_, rfl, rfl, by cases hb : Nat.testBit s (c - 1) <;> rw [hb] at h2 <;> first | rfl | cases h2⟩
theorem c_min {a b : Nat} (ha : a < 2 ^ 31) (hb : b < 2 ^ 31) : am_Rq d 20 0 (am_en [.int (nI a), .int (nI b)] 2) [] hp (am_Ret fun hp1 v => hp1 = hp ∧ v = some (.int (nI (min a b)))) := by
  show am_Rq _ 20 0 [some (.int (nI a)), some (.int (nI b))] [] _ _
  refine am_Rq.blk (is := [(.iload_n 0, 1), (.iload_n 1, 1)]) (q := (2, [some (.int (nI a)), some (.int (nI b))], [.int (nI b), .int (nI a)])) (by decide +kernel) rfl ?_
  dsimp only
  refine am_Rq.if2 (t := 9) (show decode (am_by 20) 2 = .ok (.if_icmp .gt 7, 3) by decide +kernel) (by decide) (fun h1 => ?_) (fun h1 => ?_)
  ·
    rw [nm_gt (by omega) (by omega)] at h1
    have h1 := of_decide_eq_true h1
    refine am_Rq.blk (is := [(.iload_n 1, 1)]) (q := (10, [some (.int (nI a)), some (.int (nI b))], [.int (nI b)])) (by decide +kernel) rfl ?_
    dsimp only
    refine am_Rq.ret (v := some (.int (nI b))) (show decode (am_by 20) 10 = .ok (.ireturn, 1) by decide +kernel) rfl rfl ?_
    exact ⟨_, rfl, rfl, by rw [show min a b = b by omega]⟩
  ·
    rw [nm_gt (by omega) (by omega)] at h1
    have h1 := of_decide_eq_false h1
    refine am_Rq.blk (is := [(.iload_n 0, 1), (.goto 4, 3)]) (q := (10, [some (.int (nI a)), some (.int (nI b))], [.int (nI a)])) (by decide +kernel) rfl ?_
    dsimp only
    refine am_Rq.ret (v := some (.int (nI a))) (show decode (am_by 20) 10 = .ok (.ireturn, 1) by decide +kernel) rfl rfl ?_
    exact ⟨_, rfl, rfl, by rw [show min a b = a by omega]⟩
theorem c_max (x y : Int64) : am_Rq d 71 0 (am_en [.long x, .long y] 4) [] hp (am_Ret fun hp1 v => hp1 = hp ∧ v = some (.long (if y ≤ x then x else y))) := by
  show am_Rq _ 71 0 [some (.long x), none, some (.long y), none] [] _ _
  refine am_Rq.blk (is := [(.lload_n 0, 1), (.lload_n 2, 1), (.lcmp, 1)]) (q := (3, [some (.long x), none, some (.long y), none], [.int (lg_cmp x y)])) (by decide +kernel) rfl ?_
  dsimp only
  refine am_Rq.if1 (t := 10) (show decode (am_by 71) 3 = .ok (.ifCond .lt 7, 3) by decide +kernel) (by decide) (fun h1 => ?_) (fun h1 => ?_)
  ·
    rw [nm_clt] at h1
    have h2 := of_decide_eq_true h1
    refine am_Rq.blk (is := [(.lload_n 2, 1)]) (q := (11, [some (.long x), none, some (.long y), none], [.long y])) (by decide +kernel) rfl ?_
    dsimp only
    refine am_Rq.ret (v := some (.long y)) (show decode (am_by 71) 11 = .ok (.lreturn, 1) by decide +kernel) rfl rfl ?_
    exact ⟨_, rfl, rfl, by rw [if_neg (by rw [Int64.not_le]; exact h2)]⟩
  ·
    rw [nm_clt] at h1
    have h2 := of_decide_eq_false h1
    refine am_Rq.blk (is := [(.lload_n 0, 1), (.goto 4, 3)]) (q := (11, [some (.long x), none, some (.long y), none], [.long x])) (by decide +kernel) rfl ?_
    dsimp only
    refine am_Rq.ret (v := some (.long x)) (show decode (am_by 71) 11 = .ok (.lreturn, 1) by decide +kernel) rfl rfl ?_
    exact ⟨_, rfl, rfl, by rw [if_pos (by rw [Int64.not_lt] at h2; exact h2)]⟩
theorem c_setTerms {b c : Nat} {t : Nat → Nat} (h : Led hp b t) (hc : c < 5) {p0 p1 p2 p3 p4 p5 : Nat} : am_Rq d 21 0 (am_en [.ref (b + 2 + 2 * c), .int (nI p0), .int (nI p1), .int (nI p2), .int (nI p3), .int (nI p4), .int (nI p5)] 7) [] hp (am_Ret fun hp1 v => v = none ∧ Led hp1 b (va_up (va_up (va_up (va_up (va_up (va_up (va_up t (8 * c + 0) p0) (8 * c + 1) p1) (8 * c + 2) p2) (8 * c + 3) p3) (8 * c + 4) p4) (8 * c + 5) p5) (8 * c + 6) (1000 * p0)) ∧ am_fr (c_in b) hp hp1) := by
  show am_Rq _ 21 0 [some (.ref (b + 2 + 2 * c)), some (.int (nI p0)), some (.int (nI p1)), some (.int (nI p2)), some (.int (nI p3)), some (.int (nI p4)), some (.int (nI p5))] [] _ _
  refine am_Rq.blk (is := [(.aload_n 0, 1), (.iload_n 1, 1)]) (q := (2, [some (.ref (b + 2 + 2 * c)), some (.int (nI p0)), some (.int (nI p1)), some (.int (nI p2)), some (.int (nI p3)), some (.int (nI p4)), some (.int (nI p5))], [.int (nI p0), .ref (b + 2 + 2 * c)])) (by decide +kernel) rfl ?_
  dsimp only
  refine Led.pSc (c := c) (k := 0) (v := p0) h (by omega) (show decode (am_by 21) 2 = .ok (.putfield 9, 3) by decide +kernel) rfl (by decide) (by first | rfl | exact rfl) rfl ?_
  intro hp1 hL1 hf1
  refine am_Rq.blk (is := [(.aload_n 0, 1), (.iload_n 2, 1)]) (q := (7, [some (.ref (b + 2 + 2 * c)), some (.int (nI p0)), some (.int (nI p1)), some (.int (nI p2)), some (.int (nI p3)), some (.int (nI p4)), some (.int (nI p5))], [.int (nI p1), .ref (b + 2 + 2 * c)])) (by decide +kernel) rfl ?_
  dsimp only
  refine Led.pSc (c := c) (k := 1) (v := p1) hL1 (by omega) (show decode (am_by 21) 7 = .ok (.putfield 22, 3) by decide +kernel) rfl (by decide) (by first | rfl | exact rfl) rfl ?_
  intro hp2 hL2 hf2
  refine am_Rq.blk (is := [(.aload_n 0, 1), (.iload_n 3, 1)]) (q := (12, [some (.ref (b + 2 + 2 * c)), some (.int (nI p0)), some (.int (nI p1)), some (.int (nI p2)), some (.int (nI p3)), some (.int (nI p4)), some (.int (nI p5))], [.int (nI p2), .ref (b + 2 + 2 * c)])) (by decide +kernel) rfl ?_
  dsimp only
  refine Led.pSc (c := c) (k := 2) (v := p2) hL2 (by omega) (show decode (am_by 21) 12 = .ok (.putfield 25, 3) by decide +kernel) rfl (by decide) (by first | rfl | exact rfl) rfl ?_
  intro hp3 hL3 hf3
  refine am_Rq.blk (is := [(.aload_n 0, 1), (.iload 4, 2)]) (q := (18, [some (.ref (b + 2 + 2 * c)), some (.int (nI p0)), some (.int (nI p1)), some (.int (nI p2)), some (.int (nI p3)), some (.int (nI p4)), some (.int (nI p5))], [.int (nI p3), .ref (b + 2 + 2 * c)])) (by decide +kernel) rfl ?_
  dsimp only
  refine Led.pSc (c := c) (k := 3) (v := p3) hL3 (by omega) (show decode (am_by 21) 18 = .ok (.putfield 28, 3) by decide +kernel) rfl (by decide) (by first | rfl | exact rfl) rfl ?_
  intro hp4 hL4 hf4
  refine am_Rq.blk (is := [(.aload_n 0, 1), (.iload 5, 2)]) (q := (24, [some (.ref (b + 2 + 2 * c)), some (.int (nI p0)), some (.int (nI p1)), some (.int (nI p2)), some (.int (nI p3)), some (.int (nI p4)), some (.int (nI p5))], [.int (nI p4), .ref (b + 2 + 2 * c)])) (by decide +kernel) rfl ?_
  dsimp only
  refine Led.pSc (c := c) (k := 4) (v := p4) hL4 (by omega) (show decode (am_by 21) 24 = .ok (.putfield 31, 3) by decide +kernel) rfl (by decide) (by first | rfl | exact rfl) rfl ?_
  intro hp5 hL5 hf5
  refine am_Rq.blk (is := [(.aload_n 0, 1), (.iload 6, 2)]) (q := (30, [some (.ref (b + 2 + 2 * c)), some (.int (nI p0)), some (.int (nI p1)), some (.int (nI p2)), some (.int (nI p3)), some (.int (nI p4)), some (.int (nI p5))], [.int (nI p5), .ref (b + 2 + 2 * c)])) (by decide +kernel) rfl ?_
  dsimp only
  refine Led.pSc (c := c) (k := 5) (v := p5) hL5 (by omega) (show decode (am_by 21) 30 = .ok (.putfield 34, 3) by decide +kernel) rfl (by decide) (by first | rfl | exact rfl) rfl ?_
  intro hp6 hL6 hf6
  refine am_Rq.blk (is := [(.aload_n 0, 1), (.sipush 1000, 3), (.iload_n 1, 1), (.imul, 1)]) (q := (39, [some (.ref (b + 2 + 2 * c)), some (.int (nI p0)), some (.int (nI p1)), some (.int (nI p2)), some (.int (nI p3)), some (.int (nI p4)), some (.int (nI p5))], [.int ((nI 1000) * (nI p0)), .ref (b + 2 + 2 * c)])) (by decide +kernel) rfl ?_
  dsimp only
  rw [show (nI 1000) * (nI p0) = nI (1000 * p0) from nm_imul _ _]
  refine Led.pSc (c := c) (k := 6) (v := 1000 * p0) hL6 (by omega) (show decode (am_by 21) 39 = .ok (.putfield 15, 3) by decide +kernel) rfl (by decide) (by first | rfl | exact rfl) rfl ?_
  intro hp7 hL7 hf7
  refine am_Rq.ret (v := none) (show decode (am_by 21) 42 = .ok (.return_, 1) by decide +kernel) rfl rfl ?_
  exact ⟨_, rfl, rfl, hL7, ((((((hf1.trans hf2).trans hf3).trans hf4).trans hf5).trans hf6).trans hf7)⟩
theorem c_preference {b c : Nat} {t : Nat → Nat} (h : Led hp b t) (hc : c < 5)  : am_Rq d 69 0 (am_en [.ref (b + 2 + 2 * c)] 1) [] hp (am_Ret fun hp1 v => hp1 = hp ∧ v = some (.int (nI (t (8 * c + 7) * t (8 * c) * t (8 * c + 1))))) := by
  show am_Rq _ 69 0 [some (.ref (b + 2 + 2 * c))] [] _ _
  refine am_Rq.blk (is := [(.aload_n 0, 1)]) (q := (1, [some (.ref (b + 2 + 2 * c))], [.ref (b + 2 + 2 * c)])) (by decide +kernel) rfl ?_
  dsimp only
  refine am_Rq.getf (v := .int (nI (t (8 * c + 7)))) (show decode (am_by 69) 1 = .ok (.getfield 37, 3) by decide +kernel) rfl (Led.sc h (by omega)) rfl ?_
  refine am_Rq.blk (is := [(.aload_n 0, 1)]) (q := (5, [some (.ref (b + 2 + 2 * c))], [.ref (b + 2 + 2 * c), .int (nI (t (8 * c + 7)))])) (by decide +kernel) rfl ?_
  dsimp only
  refine am_Rq.getf (v := .int (nI (t (8 * c)))) (show decode (am_by 69) 5 = .ok (.getfield 9, 3) by decide +kernel) rfl (Led.sc h (by omega)) rfl ?_
  refine am_Rq.blk (is := [(.imul, 1)]) (q := (9, [some (.ref (b + 2 + 2 * c))], [.int ((nI (t (8 * c + 7))) * (nI (t (8 * c))))])) (by decide +kernel) rfl ?_
  dsimp only
  rw [show (nI (t (8 * c + 7))) * (nI (t (8 * c))) = nI ((t (8 * c + 7)) * (t (8 * c))) from nm_imul _ _]
  refine am_Rq.blk (is := [(.aload_n 0, 1)]) (q := (10, [some (.ref (b + 2 + 2 * c))], [.ref (b + 2 + 2 * c), .int (nI ((t (8 * c + 7)) * (t (8 * c))))])) (by decide +kernel) rfl ?_
  dsimp only
  refine am_Rq.getf (v := .int (nI (t (8 * c + 1)))) (show decode (am_by 69) 10 = .ok (.getfield 22, 3) by decide +kernel) rfl (Led.sc h (by omega)) rfl ?_
  refine am_Rq.blk (is := [(.imul, 1)]) (q := (14, [some (.ref (b + 2 + 2 * c))], [.int ((nI ((t (8 * c + 7)) * (t (8 * c)))) * (nI (t (8 * c + 1))))])) (by decide +kernel) rfl ?_
  dsimp only
  rw [show (nI ((t (8 * c + 7)) * (t (8 * c)))) * (nI (t (8 * c + 1))) = nI (((t (8 * c + 7)) * (t (8 * c))) * (t (8 * c + 1))) from nm_imul _ _]
  refine am_Rq.ret (v := some (.int (nI (((t (8 * c + 7)) * (t (8 * c))) * (t (8 * c + 1)))))) (show decode (am_by 69) 14 = .ok (.ireturn, 1) by decide +kernel) rfl rfl ?_
  exact ⟨_, rfl, rfl, rfl⟩
theorem c_most {b c : Nat} {t : Nat → Nat} (h : Led hp b t) (hc : c < 5) (hB : ∀ i, i < 154 → t i < 2 ^ 31) (hP : t (8 * c + 7) * t (8 * c) * t (8 * c + 1) < 2 ^ 31) (hM : t (8 * c + 7) * t (8 * c) * t (8 * c + 4) < 2 ^ 63) : am_Rq (d + 1) 70 0 (am_en [.ref (b + 2 + 2 * c)] 1) [] hp (am_Ret fun hp1 v => hp1 = hp ∧ v = some (.long (lN (t (8 * c + 7) * t (8 * c) * t (8 * c + 4) - t (8 * c + 7) * t (8 * c) * t (8 * c + 1))))) := by
  show am_Rq _ 70 0 [some (.ref (b + 2 + 2 * c))] [] _ _
  refine am_Rq.blk (is := [(.lconst 0, 1), (.aload_n 0, 1)]) (q := (2, [some (.ref (b + 2 + 2 * c))], [.ref (b + 2 + 2 * c), .long (lN 0)])) (by decide +kernel) rfl ?_
  dsimp only
  refine am_Rq.getf (v := .int (nI (t (8 * c + 7)))) (show decode (am_by 70) 2 = .ok (.getfield 37, 3) by decide +kernel) rfl (Led.sc h (by omega)) rfl ?_
  refine am_Rq.blk (is := [(.i2l, 1)]) (q := (6, [some (.ref (b + 2 + 2 * c))], [.long ((nI (t (8 * c + 7))).toInt64), .long (lN 0)])) (by decide +kernel) rfl ?_
  dsimp only
  rw [show (nI (t (8 * c + 7))).toInt64 = lN (t (8 * c + 7)) from nm_l (hB _ (by omega))]
  refine am_Rq.blk (is := [(.aload_n 0, 1)]) (q := (7, [some (.ref (b + 2 + 2 * c))], [.ref (b + 2 + 2 * c), .long (lN (t (8 * c + 7))), .long (lN 0)])) (by decide +kernel) rfl ?_
  dsimp only
  refine am_Rq.getf (v := .int (nI (t (8 * c)))) (show decode (am_by 70) 7 = .ok (.getfield 9, 3) by decide +kernel) rfl (Led.sc h (by omega)) rfl ?_
  refine am_Rq.blk (is := [(.i2l, 1)]) (q := (11, [some (.ref (b + 2 + 2 * c))], [.long ((nI (t (8 * c))).toInt64), .long (lN (t (8 * c + 7))), .long (lN 0)])) (by decide +kernel) rfl ?_
  dsimp only
  rw [show (nI (t (8 * c))).toInt64 = lN (t (8 * c)) from nm_l (hB _ (by omega))]
  refine am_Rq.blk (is := [(.lmul, 1)]) (q := (12, [some (.ref (b + 2 + 2 * c))], [.long ((lN (t (8 * c + 7))) * (lN (t (8 * c)))), .long (lN 0)])) (by decide +kernel) rfl ?_
  dsimp only
  rw [show (lN (t (8 * c + 7))) * (lN (t (8 * c))) = lN ((t (8 * c + 7)) * (t (8 * c))) from lN_mul _ _]
  refine am_Rq.blk (is := [(.aload_n 0, 1)]) (q := (13, [some (.ref (b + 2 + 2 * c))], [.ref (b + 2 + 2 * c), .long (lN ((t (8 * c + 7)) * (t (8 * c)))), .long (lN 0)])) (by decide +kernel) rfl ?_
  dsimp only
  refine am_Rq.getf (v := .int (nI (t (8 * c + 4)))) (show decode (am_by 70) 13 = .ok (.getfield 31, 3) by decide +kernel) rfl (Led.sc h (by omega)) rfl ?_
  refine am_Rq.blk (is := [(.i2l, 1)]) (q := (17, [some (.ref (b + 2 + 2 * c))], [.long ((nI (t (8 * c + 4))).toInt64), .long (lN ((t (8 * c + 7)) * (t (8 * c)))), .long (lN 0)])) (by decide +kernel) rfl ?_
  dsimp only
  rw [show (nI (t (8 * c + 4))).toInt64 = lN (t (8 * c + 4)) from nm_l (hB _ (by omega))]
  refine am_Rq.blk (is := [(.lmul, 1)]) (q := (18, [some (.ref (b + 2 + 2 * c))], [.long ((lN ((t (8 * c + 7)) * (t (8 * c)))) * (lN (t (8 * c + 4)))), .long (lN 0)])) (by decide +kernel) rfl ?_
  dsimp only
  rw [show (lN ((t (8 * c + 7)) * (t (8 * c)))) * (lN (t (8 * c + 4))) = lN (((t (8 * c + 7)) * (t (8 * c))) * (t (8 * c + 4))) from lN_mul _ _]
  refine am_Rq.blk (is := [(.aload_n 0, 1)]) (q := (19, [some (.ref (b + 2 + 2 * c))], [.ref (b + 2 + 2 * c), .long (lN (((t (8 * c + 7)) * (t (8 * c))) * (t (8 * c + 4)))), .long (lN 0)])) (by decide +kernel) rfl ?_
  dsimp only
  refine am_Rq.callV (show decode (am_by 70) 19 = .ok (.invokevirtual 48, 3) by decide +kernel) rfl [] [.long (lN (((t (8 * c + 7)) * (t (8 * c))) * (t (8 * c + 4)))), .long (lN 0)] rfl rfl (Nat.le_of_ble_eq_true rfl) rfl (Led.sc h (by omega)) rfl (c_preference h hc) ?_
  rintro _ _ ⟨rfl, rfl⟩
  show am_Rq _ 70 22 [some (.ref (b + 2 + 2 * c))] [.int (nI (t (8 * c + 7) * t (8 * c) * t (8 * c + 1))), .long (lN (((t (8 * c + 7)) * (t (8 * c))) * (t (8 * c + 4)))), .long (lN 0)] _ _
  refine am_Rq.blk (is := [(.i2l, 1)]) (q := (23, [some (.ref (b + 2 + 2 * c))], [.long ((nI (t (8 * c + 7) * t (8 * c) * t (8 * c + 1))).toInt64), .long (lN (((t (8 * c + 7)) * (t (8 * c))) * (t (8 * c + 4)))), .long (lN 0)])) (by decide +kernel) rfl ?_
  dsimp only
  rw [show (nI (t (8 * c + 7) * t (8 * c) * t (8 * c + 1))).toInt64 = lN (t (8 * c + 7) * t (8 * c) * t (8 * c + 1)) from nm_l (hP)]
  refine am_Rq.blk (is := [(.lsub, 1)]) (q := (24, [some (.ref (b + 2 + 2 * c))], [.long ((lN (((t (8 * c + 7)) * (t (8 * c))) * (t (8 * c + 4)))) - (lN (t (8 * c + 7) * t (8 * c) * t (8 * c + 1)))), .long (lN 0)])) (by decide +kernel) rfl ?_
  dsimp only
  refine am_Rq.callS (show decode (am_by 70) 24 = .ok (.invokestatic 52, 3) by decide +kernel) rfl [.long (lN 0), .long ((lN (((t (8 * c + 7)) * (t (8 * c))) * (t (8 * c + 4)))) - (lN (t (8 * c + 7) * t (8 * c) * t (8 * c + 1))))] [] rfl rfl (Nat.le_of_ble_eq_true rfl) rfl rfl (c_max _ _) ?_
  rintro _ _ ⟨rfl, rfl⟩
  show am_Rq _ 70 27 [some (.ref (b + 2 + 2 * c))] [.long (if ((lN (((t (8 * c + 7)) * (t (8 * c))) * (t (8 * c + 4)))) - (lN (t (8 * c + 7) * t (8 * c) * t (8 * c + 1)))) ≤ (lN 0) then (lN 0) else ((lN (((t (8 * c + 7)) * (t (8 * c))) * (t (8 * c + 4)))) - (lN (t (8 * c + 7) * t (8 * c) * t (8 * c + 1)))))] _ _
  have e : (if ((lN (((t (8 * c + 7)) * (t (8 * c))) * (t (8 * c + 4)))) - (lN (t (8 * c + 7) * t (8 * c) * t (8 * c + 1)))) ≤ (lN 0) then (lN 0) else ((lN (((t (8 * c + 7)) * (t (8 * c))) * (t (8 * c + 4)))) - (lN (t (8 * c + 7) * t (8 * c) * t (8 * c + 1))))) = lN (t (8 * c + 7) * t (8 * c) * t (8 * c + 4) - t (8 * c + 7) * t (8 * c) * t (8 * c + 1)) := by
    by_cases hle : t (8 * c + 7) * t (8 * c) * t (8 * c + 1) ≤ t (8 * c + 7) * t (8 * c) * t (8 * c + 4)
    · rw [lN_sub hle]
      split
      · rename_i hz
        rw [nm_lle (by omega) (by decide)] at hz
        rw [show t (8 * c + 7) * t (8 * c) * t (8 * c + 4) - t (8 * c + 7) * t (8 * c) * t (8 * c + 1) = 0 by omega]
      · rfl
    · rw [show t (8 * c + 7) * t (8 * c) * t (8 * c + 4) - t (8 * c + 7) * t (8 * c) * t (8 * c + 1) = 0 by omega, if_pos]
      rw [Int64.le_iff_toInt_le, Jvm.Kit.i64_sub (by rw [nm_t hM, nm_t (by omega)]; omega) (by rw [nm_t hM, nm_t (by omega)]; omega), nm_t hM, nm_t (by omega), nm_t (by decide)]
      omega
  refine am_Rq.ret (v := some (.long (if ((lN (((t (8 * c + 7)) * (t (8 * c))) * (t (8 * c + 4)))) - (lN (t (8 * c + 7) * t (8 * c) * t (8 * c + 1)))) ≤ (lN 0) then (lN 0) else ((lN (((t (8 * c + 7)) * (t (8 * c))) * (t (8 * c + 4)))) - (lN (t (8 * c + 7) * t (8 * c) * t (8 * c + 1))))))) (show decode (am_by 70) 27 = .ok (.lreturn, 1) by decide +kernel) rfl rfl ?_
  exact ⟨_, rfl, rfl, congrArg (fun z => some (Value.long z)) e⟩
theorem c_guard {b c : Nat} {t : Nat → Nat} (h : Led hp b t) (hc : c < 5) {n p all : Nat} (hB : ∀ i, i < 154 → t i < 2 ^ 31) (hn : n < 2 ^ 31) (hn0 : 0 < n) (hp0 : 1000 * p < 2 ^ 31) (hall : all < 2 ^ 31) (hg : t (8 * c + 5) ≤ 2) (hs : t (8 * c + 6) * all + 1000 * p * n < 2 ^ 63) : am_Rq d 27 0 (am_en [.ref (b + 2 + 2 * c), .int (nI n), .int (nI p), .int (nI all)] 9) [] hp (am_Ret fun hp1 v => v = none ∧ Led hp1 b (va_up t (8 * c + 6) (g_p (t (8 * c + 7)) (t (8 * c + 5)) (t (8 * c + 6)) n p all)) ∧ am_fr (c_in b) hp hp1) := by
  show am_Rq _ 27 0 [some (.ref (b + 2 + 2 * c)), some (.int (nI n)), some (.int (nI p)), some (.int (nI all)), none, none, none, none, none] [] _ _
  refine am_Rq.blk (is := [(.sipush 1000, 3), (.iload_n 2, 1), (.imul, 1)]) (q := (5, [some (.ref (b + 2 + 2 * c)), some (.int (nI n)), some (.int (nI p)), some (.int (nI all)), none, none, none, none, none], [.int ((nI 1000) * (nI p))])) (by decide +kernel) rfl ?_
  dsimp only
  rw [show (nI 1000) * (nI p) = nI (1000 * p) from nm_imul _ _]
  refine am_Rq.blk (is := [(.istore 4, 2), (.aload_n 0, 1)]) (q := (8, [some (.ref (b + 2 + 2 * c)), some (.int (nI n)), some (.int (nI p)), some (.int (nI all)), some (.int (nI (1000 * p))), none, none, none, none], [.ref (b + 2 + 2 * c)])) (by decide +kernel) rfl ?_
  dsimp only
  refine am_Rq.getf (v := .int (nI (t (8 * c + 7)))) (show decode (am_by 27) 8 = .ok (.getfield 37, 3) by decide +kernel) rfl (Led.sc h (by omega)) rfl ?_
  refine am_Rq.if1 (t := 30) (show decode (am_by 27) 11 = .ok (.ifCond .eq 19, 3) by decide +kernel) (by decide) (fun h1 => ?_) (fun h1 => ?_)
  ·
    rw [nm_eq0 (hB _ (by omega))] at h1
    have h1 := of_decide_eq_true h1
    refine am_Rq.ret (v := none) (show decode (am_by 27) 30 = .ok (.return_, 1) by decide +kernel) rfl rfl ?_
    exact ⟨_, rfl, rfl, h.same (by unfold g_p; rw [if_pos (by omega)]), am_fr.rf⟩
  ·
    rw [nm_eq0 (hB _ (by omega))] at h1
    have h1 := of_decide_eq_false h1
    refine am_Rq.blk (is := [(.aload_n 0, 1)]) (q := (15, [some (.ref (b + 2 + 2 * c)), some (.int (nI n)), some (.int (nI p)), some (.int (nI all)), some (.int (nI (1000 * p))), none, none, none, none], [.ref (b + 2 + 2 * c)])) (by decide +kernel) rfl ?_
    dsimp only
    refine am_Rq.getf (v := .int (nI (t (8 * c + 5)))) (show decode (am_by 27) 15 = .ok (.getfield 34, 3) by decide +kernel) rfl (Led.sc h (by omega)) rfl ?_
    refine am_Rq.if1 (t := 30) (show decode (am_by 27) 18 = .ok (.ifCond .eq 12, 3) by decide +kernel) (by decide) (fun h2 => ?_) (fun h2 => ?_)
    ·
      rw [nm_eq0 (hB _ (by omega))] at h2
      have h2 := of_decide_eq_true h2
      refine am_Rq.ret (v := none) (show decode (am_by 27) 30 = .ok (.return_, 1) by decide +kernel) rfl rfl ?_
      exact ⟨_, rfl, rfl, h.same (by unfold g_p; rw [if_pos (by omega)]), am_fr.rf⟩
    ·
      rw [nm_eq0 (hB _ (by omega))] at h2
      have h2 := of_decide_eq_false h2
      refine am_Rq.blk (is := [(.aload_n 0, 1)]) (q := (22, [some (.ref (b + 2 + 2 * c)), some (.int (nI n)), some (.int (nI p)), some (.int (nI all)), some (.int (nI (1000 * p))), none, none, none, none], [.ref (b + 2 + 2 * c)])) (by decide +kernel) rfl ?_
      dsimp only
      refine am_Rq.getf (v := .int (nI (t (8 * c + 6)))) (show decode (am_by 27) 22 = .ok (.getfield 15, 3) by decide +kernel) rfl (Led.sc h (by omega)) rfl ?_
      refine am_Rq.blk (is := [(.iload 4, 2)]) (q := (27, [some (.ref (b + 2 + 2 * c)), some (.int (nI n)), some (.int (nI p)), some (.int (nI all)), some (.int (nI (1000 * p))), none, none, none, none], [.int (nI (1000 * p)), .int (nI (t (8 * c + 6)))])) (by decide +kernel) rfl ?_
      dsimp only
      refine am_Rq.if2 (t := 31) (show decode (am_by 27) 27 = .ok (.if_icmp .gt 4, 3) by decide +kernel) (by decide) (fun h3 => ?_) (fun h3 => ?_)
      ·
        rw [nm_gt (hB _ (by omega)) (by omega)] at h3
        have h3 := of_decide_eq_true h3
        refine am_Rq.blk (is := [(.aload_n 0, 1)]) (q := (32, [some (.ref (b + 2 + 2 * c)), some (.int (nI n)), some (.int (nI p)), some (.int (nI all)), some (.int (nI (1000 * p))), none, none, none, none], [.ref (b + 2 + 2 * c)])) (by decide +kernel) rfl ?_
        dsimp only
        refine am_Rq.getf (v := .int (nI (t (8 * c + 5)))) (show decode (am_by 27) 32 = .ok (.getfield 34, 3) by decide +kernel) rfl (Led.sc h (by omega)) rfl ?_
        refine am_Rq.blk (is := [(.iconst 2, 1)]) (q := (36, [some (.ref (b + 2 + 2 * c)), some (.int (nI n)), some (.int (nI p)), some (.int (nI all)), some (.int (nI (1000 * p))), none, none, none, none], [.int (nI 2), .int (nI (t (8 * c + 5)))])) (by decide +kernel) rfl ?_
        dsimp only
        refine am_Rq.if2 (t := 46) (show decode (am_by 27) 36 = .ok (.if_icmp .ne 10, 3) by decide +kernel) (by decide) (fun h4 => ?_) (fun h4 => ?_)
        ·
          rw [nm_ne (hB _ (by omega)) (by omega)] at h4
          have h4 := of_decide_eq_true h4
          refine am_Rq.blk (is := [(.aload_n 0, 1)]) (q := (47, [some (.ref (b + 2 + 2 * c)), some (.int (nI n)), some (.int (nI p)), some (.int (nI all)), some (.int (nI (1000 * p))), none, none, none, none], [.ref (b + 2 + 2 * c)])) (by decide +kernel) rfl ?_
          dsimp only
          refine am_Rq.getf (v := .int (nI (t (8 * c + 6)))) (show decode (am_by 27) 47 = .ok (.getfield 15, 3) by decide +kernel) rfl (Led.sc h (by omega)) rfl ?_
          refine am_Rq.blk (is := [(.i2l, 1)]) (q := (51, [some (.ref (b + 2 + 2 * c)), some (.int (nI n)), some (.int (nI p)), some (.int (nI all)), some (.int (nI (1000 * p))), none, none, none, none], [.long ((nI (t (8 * c + 6))).toInt64)])) (by decide +kernel) rfl ?_
          dsimp only
          rw [show (nI (t (8 * c + 6))).toInt64 = lN (t (8 * c + 6)) from nm_l (by first | omega | exact hB _ (by omega))]
          refine am_Rq.blk (is := [(.iload_n 3, 1), (.i2l, 1)]) (q := (53, [some (.ref (b + 2 + 2 * c)), some (.int (nI n)), some (.int (nI p)), some (.int (nI all)), some (.int (nI (1000 * p))), none, none, none, none], [.long ((nI all).toInt64), .long (lN (t (8 * c + 6)))])) (by decide +kernel) rfl ?_
          dsimp only
          rw [show (nI all).toInt64 = lN all from nm_l (by first | omega | exact hB _ (by omega))]
          refine am_Rq.blk (is := [(.lmul, 1)]) (q := (54, [some (.ref (b + 2 + 2 * c)), some (.int (nI n)), some (.int (nI p)), some (.int (nI all)), some (.int (nI (1000 * p))), none, none, none, none], [.long ((lN (t (8 * c + 6))) * (lN all))])) (by decide +kernel) rfl ?_
          dsimp only
          rw [show (lN (t (8 * c + 6))) * (lN all) = lN ((t (8 * c + 6)) * all) from lN_mul _ _]
          refine am_Rq.blk (is := [(.iload 4, 2), (.i2l, 1)]) (q := (57, [some (.ref (b + 2 + 2 * c)), some (.int (nI n)), some (.int (nI p)), some (.int (nI all)), some (.int (nI (1000 * p))), none, none, none, none], [.long ((nI (1000 * p)).toInt64), .long (lN ((t (8 * c + 6)) * all))])) (by decide +kernel) rfl ?_
          dsimp only
          rw [show (nI (1000 * p)).toInt64 = lN (1000 * p) from nm_l (by first | omega | exact hB _ (by omega))]
          refine am_Rq.blk (is := [(.iload_n 1, 1), (.i2l, 1)]) (q := (59, [some (.ref (b + 2 + 2 * c)), some (.int (nI n)), some (.int (nI p)), some (.int (nI all)), some (.int (nI (1000 * p))), none, none, none, none], [.long ((nI n).toInt64), .long (lN (1000 * p)), .long (lN ((t (8 * c + 6)) * all))])) (by decide +kernel) rfl ?_
          dsimp only
          rw [show (nI n).toInt64 = lN n from nm_l (by first | omega | exact hB _ (by omega))]
          refine am_Rq.blk (is := [(.lmul, 1)]) (q := (60, [some (.ref (b + 2 + 2 * c)), some (.int (nI n)), some (.int (nI p)), some (.int (nI all)), some (.int (nI (1000 * p))), none, none, none, none], [.long ((lN (1000 * p)) * (lN n)), .long (lN ((t (8 * c + 6)) * all))])) (by decide +kernel) rfl ?_
          dsimp only
          rw [show (lN (1000 * p)) * (lN n) = lN ((1000 * p) * n) from lN_mul _ _]
          refine am_Rq.blk (is := [(.ladd, 1)]) (q := (61, [some (.ref (b + 2 + 2 * c)), some (.int (nI n)), some (.int (nI p)), some (.int (nI all)), some (.int (nI (1000 * p))), none, none, none, none], [.long ((lN ((t (8 * c + 6)) * all)) + (lN ((1000 * p) * n)))])) (by decide +kernel) rfl ?_
          dsimp only
          rw [show (lN ((t (8 * c + 6)) * all)) + (lN ((1000 * p) * n)) = lN (((t (8 * c + 6)) * all) + ((1000 * p) * n)) from lN_add _ _]
          refine am_Rq.blk (is := [(.lstore 5, 2), (.iload_n 3, 1), (.i2l, 1)]) (q := (65, [some (.ref (b + 2 + 2 * c)), some (.int (nI n)), some (.int (nI p)), some (.int (nI all)), some (.int (nI (1000 * p))), some (.long (lN (((t (8 * c + 6)) * all) + ((1000 * p) * n)))), none, none, none], [.long ((nI all).toInt64)])) (by decide +kernel) rfl ?_
          dsimp only
          rw [show (nI all).toInt64 = lN all from nm_l (by first | omega | exact hB _ (by omega))]
          refine am_Rq.blk (is := [(.iload_n 1, 1), (.i2l, 1)]) (q := (67, [some (.ref (b + 2 + 2 * c)), some (.int (nI n)), some (.int (nI p)), some (.int (nI all)), some (.int (nI (1000 * p))), some (.long (lN (((t (8 * c + 6)) * all) + ((1000 * p) * n)))), none, none, none], [.long ((nI n).toInt64), .long (lN all)])) (by decide +kernel) rfl ?_
          dsimp only
          rw [show (nI n).toInt64 = lN n from nm_l (by first | omega | exact hB _ (by omega))]
          refine am_Rq.blk (is := [(.ladd, 1)]) (q := (68, [some (.ref (b + 2 + 2 * c)), some (.int (nI n)), some (.int (nI p)), some (.int (nI all)), some (.int (nI (1000 * p))), some (.long (lN (((t (8 * c + 6)) * all) + ((1000 * p) * n)))), none, none, none], [.long ((lN all) + (lN n))])) (by decide +kernel) rfl ?_
          dsimp only
          rw [show (lN all) + (lN n) = lN (all + n) from lN_add _ _]
          refine am_Rq.blk (is := [(.lstore 7, 2), (.lload 7, 2), (.lconst 0, 1), (.lcmp, 1)]) (q := (74, [some (.ref (b + 2 + 2 * c)), some (.int (nI n)), some (.int (nI p)), some (.int (nI all)), some (.int (nI (1000 * p))), some (.long (lN (((t (8 * c + 6)) * all) + ((1000 * p) * n)))), none, some (.long (lN (all + n))), none], [.int (lg_cmp (lN (all + n)) (lN 0))])) (by decide +kernel) rfl ?_
          dsimp only
          refine am_Rq.if1 (t := 87) (show decode (am_by 27) 74 = .ok (.ifCond .le 13, 3) by decide +kernel) (by decide) (fun h5 => ?_) (fun h5 => ?_)
          ·
            have h5 := of_decide_eq_true ((nm_cle _ _).symm.trans h5)
            rw [nm_lle (a := (all + n)) (b := 0) (by omega) (by omega)] at h5
            refine am_Rq.ret (v := none) (show decode (am_by 27) 87 = .ok (.return_, 1) by decide +kernel) rfl rfl ?_
            exact ⟨_, rfl, rfl, h.same (by unfold g_p; rw [if_pos (by omega)]), am_fr.rf⟩
          ·
            have h5 := of_decide_eq_false ((nm_cle _ _).symm.trans h5)
            rw [nm_lle (a := (all + n)) (b := 0) (by omega) (by omega)] at h5
            refine am_Rq.blk (is := [(.aload_n 0, 1), (.lload 5, 2), (.lload 7, 2)]) (q := (82, [some (.ref (b + 2 + 2 * c)), some (.int (nI n)), some (.int (nI p)), some (.int (nI all)), some (.int (nI (1000 * p))), some (.long (lN (((t (8 * c + 6)) * all) + ((1000 * p) * n)))), none, some (.long (lN (all + n))), none], [.long (lN (all + n)), .long (lN (((t (8 * c + 6)) * all) + ((1000 * p) * n))), .ref (b + 2 + 2 * c)])) (by decide +kernel) rfl ?_
            dsimp only
            refine am_Rq.ldivN (a := ((t (8 * c + 6)) * all) + ((1000 * p) * n)) (b := all + n) (show decode (am_by 27) 82 = .ok (.ldiv, 1) by decide +kernel) (by omega) (hs) (by omega) ?_
            refine am_Rq.blk (is := [(.l2i, 1)]) (q := (84, [some (.ref (b + 2 + 2 * c)), some (.int (nI n)), some (.int (nI p)), some (.int (nI all)), some (.int (nI (1000 * p))), some (.long (lN (((t (8 * c + 6)) * all) + ((1000 * p) * n)))), none, some (.long (lN (all + n))), none], [.int ((lN ((((t (8 * c + 6)) * all) + ((1000 * p) * n)) / (all + n))).toInt32), .ref (b + 2 + 2 * c)])) (by decide +kernel) rfl ?_
            dsimp only
            rw [show (lN ((((t (8 * c + 6)) * all) + ((1000 * p) * n)) / (all + n))).toInt32 = nI ((((t (8 * c + 6)) * all) + ((1000 * p) * n)) / (all + n)) from nm_i _]
            refine Led.pSc (c := c) (k := 6) (v := (((t (8 * c + 6)) * all) + ((1000 * p) * n)) / (all + n)) h (by omega) (show decode (am_by 27) 84 = .ok (.putfield 15, 3) by decide +kernel) rfl (by decide) (by first | rfl | exact rfl) rfl ?_
            intro hp1 hL1 hf1
            refine am_Rq.ret (v := none) (show decode (am_by 27) 87 = .ok (.return_, 1) by decide +kernel) rfl rfl ?_
            refine ⟨_, rfl, rfl, ?_, hf1⟩
            unfold g_p
            rw [if_neg (by omega)]
            first
              | (rw [if_pos (by omega)]; exact hL1)
              | (rw [if_neg (by omega)]; exact hL1)
        ·
          rw [nm_ne (hB _ (by omega)) (by omega)] at h4
          have h4 := of_decide_eq_false h4
          refine am_Rq.blk (is := [(.aload_n 0, 1), (.iload 4, 2)]) (q := (42, [some (.ref (b + 2 + 2 * c)), some (.int (nI n)), some (.int (nI p)), some (.int (nI all)), some (.int (nI (1000 * p))), none, none, none, none], [.int (nI (1000 * p)), .ref (b + 2 + 2 * c)])) (by decide +kernel) rfl ?_
          dsimp only
          refine Led.pSc (c := c) (k := 6) (v := 1000 * p) h (by omega) (show decode (am_by 27) 42 = .ok (.putfield 15, 3) by decide +kernel) rfl (by decide) (by first | rfl | exact rfl) rfl ?_
          intro hp2 hL2 hf2
          refine am_Rq.ret (v := none) (show decode (am_by 27) 45 = .ok (.return_, 1) by decide +kernel) rfl rfl ?_
          refine ⟨_, rfl, rfl, ?_, hf2⟩
          unfold g_p
          rw [if_neg (by omega)]
          first
            | (rw [if_pos (by omega)]; exact hL2)
            | (rw [if_neg (by omega)]; exact hL2)
      ·
        rw [nm_gt (hB _ (by omega)) (by omega)] at h3
        have h3 := of_decide_eq_false h3
        refine am_Rq.ret (v := none) (show decode (am_by 27) 30 = .ok (.return_, 1) by decide +kernel) rfl rfl ?_
        exact ⟨_, rfl, rfl, h.same (by unfold g_p; rw [if_pos (by omega)]), am_fr.rf⟩
end C2
