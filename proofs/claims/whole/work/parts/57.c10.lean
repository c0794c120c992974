/-! The class: preferred, grant, exercise (rows by prog/c10.py). -/
section C10
variable {d : Nat} {hp : am_H}
theorem c_preferred (hO : hp[2]? = some (0, [.ref 3, .ref 26, .ref 212])) {t : Nat → Nat} (h : Led hp 3 t) {K : Nat} (ok : c_ok K t) (hK : K ≤ 900) (h4 : 4 ≤ d) {nx ct : Nat} {ks : Nat → Nat → Nat} (hH : c_H hp 26 nx ct ks) {p0 p1 p2 p3 p4 p5 : Nat} (l0 : 1 ≤ p0) (u0 : p0 ≤ 1000) (l1 : 50 ≤ p1) (u1 : p1 ≤ 300) (l2 : 0 ≤ p2) (u2 : p2 ≤ 3) (l3 : 0 ≤ p3) (u3 : p3 ≤ 2) (l4 : 100 ≤ p4) (u4 : p4 ≤ 900) (l5 : 0 ≤ p5) (u5 : p5 ≤ 2) (hc : t 153 < 5) : am_Rq (d + 3) 14 0 (am_en [.ref 2, .int (nI p0), .int (nI p1), .int (nI p2), .int (nI p3), .int (nI p4), .int (nI p5)] 9) [] hp (am_Ret fun hp1 v => v = some (.int (nI (t 153))) ∧ Led hp1 3 (va_up (va_up (va_up (va_up (va_up (va_up (va_up (va_up t 153 (t 153 + 1)) (8 * (t 153) + 0) p0) (8 * (t 153) + 1) p1) (8 * (t 153) + 2) p2) (8 * (t 153) + 3) p3) (8 * (t 153) + 4) p4) (8 * (t 153) + 5) p5) (8 * (t 153) + 6) (1000 * p0)) ∧ c_H hp1 26 ((nx + 1) % 8) (min (ct + 1) 8) (va_up ks nx t) ∧ am_fr c_all hp hp1) := by
  show am_Rq _ 14 0 [some (.ref 2), some (.int (nI p0)), some (.int (nI p1)), some (.int (nI p2)), some (.int (nI p3)), some (.int (nI p4)), some (.int (nI p5)), none, none] [] _ _
  have hB := ok.b (by omega)
  refine am_Rq.blk (is := [(.iload_n 1, 1), (.iconst 1, 1), (.sipush 1000, 3)]) (q := (5, [some (.ref 2), some (.int (nI p0)), some (.int (nI p1)), some (.int (nI p2)), some (.int (nI p3)), some (.int (nI p4)), some (.int (nI p5)), none, none], [.int (nI 1000), .int (nI 1), .int (nI p0)])) (by decide +kernel) rfl ?_
  dsimp only
  refine am_Rq.callS (show decode (am_by 14) 5 = .ok (.invokestatic 30, 3) by decide +kernel) rfl [.int (nI p0), .int (nI 1), .int (nI 1000)] [] rfl rfl (Nat.le_of_ble_eq_true rfl) rfl rfl (c_within (nI p0) (nI 1) (nI 1000)) ?_
  rintro hq _ ⟨e1, rfl⟩
  rw [e1]
  clear e1 hq
  show am_Rq _ 14 8 [some (.ref 2), some (.int (nI p0)), some (.int (nI p1)), some (.int (nI p2)), some (.int (nI p3)), some (.int (nI p4)), some (.int (nI p5)), none, none] [.int (nI (am_b (rg_r (nI 1) (nI 1000) (nI p0))))] _ _
  refine am_Rq.if1F (show decode (am_by 14) 8 = .ok (.ifCond .eq 61, 3) by decide +kernel) (by decide) (by rw [am_b_eq, rg_le l0 u0 (by omega)]; rfl) ?_
  refine am_Rq.blk (is := [(.iload_n 2, 1), (.bipush 50, 2), (.sipush 300, 3)]) (q := (17, [some (.ref 2), some (.int (nI p0)), some (.int (nI p1)), some (.int (nI p2)), some (.int (nI p3)), some (.int (nI p4)), some (.int (nI p5)), none, none], [.int (nI 300), .int (nI 50), .int (nI p1)])) (by decide +kernel) rfl ?_
  dsimp only
  refine am_Rq.callS (show decode (am_by 14) 17 = .ok (.invokestatic 30, 3) by decide +kernel) rfl [.int (nI p1), .int (nI 50), .int (nI 300)] [] rfl rfl (Nat.le_of_ble_eq_true rfl) rfl rfl (c_within (nI p1) (nI 50) (nI 300)) ?_
  rintro hq _ ⟨e1, rfl⟩
  rw [e1]
  clear e1 hq
  show am_Rq _ 14 20 [some (.ref 2), some (.int (nI p0)), some (.int (nI p1)), some (.int (nI p2)), some (.int (nI p3)), some (.int (nI p4)), some (.int (nI p5)), none, none] [.int (nI (am_b (rg_r (nI 50) (nI 300) (nI p1))))] _ _
  refine am_Rq.if1F (show decode (am_by 14) 20 = .ok (.ifCond .eq 49, 3) by decide +kernel) (by decide) (by rw [am_b_eq, rg_le l1 u1 (by omega)]; rfl) ?_
  refine am_Rq.blk (is := [(.iload_n 3, 1), (.iconst 0, 1), (.iconst 3, 1)]) (q := (26, [some (.ref 2), some (.int (nI p0)), some (.int (nI p1)), some (.int (nI p2)), some (.int (nI p3)), some (.int (nI p4)), some (.int (nI p5)), none, none], [.int (nI 3), .int (nI 0), .int (nI p2)])) (by decide +kernel) rfl ?_
  dsimp only
  refine am_Rq.callS (show decode (am_by 14) 26 = .ok (.invokestatic 30, 3) by decide +kernel) rfl [.int (nI p2), .int (nI 0), .int (nI 3)] [] rfl rfl (Nat.le_of_ble_eq_true rfl) rfl rfl (c_within (nI p2) (nI 0) (nI 3)) ?_
  rintro hq _ ⟨e1, rfl⟩
  rw [e1]
  clear e1 hq
  show am_Rq _ 14 29 [some (.ref 2), some (.int (nI p0)), some (.int (nI p1)), some (.int (nI p2)), some (.int (nI p3)), some (.int (nI p4)), some (.int (nI p5)), none, none] [.int (nI (am_b (rg_r (nI 0) (nI 3) (nI p2))))] _ _
  refine am_Rq.if1F (show decode (am_by 14) 29 = .ok (.ifCond .eq 40, 3) by decide +kernel) (by decide) (by rw [am_b_eq, rg_le l2 u2 (by omega)]; rfl) ?_
  refine am_Rq.blk (is := [(.iload 4, 2), (.iconst 0, 1), (.iconst 2, 1)]) (q := (36, [some (.ref 2), some (.int (nI p0)), some (.int (nI p1)), some (.int (nI p2)), some (.int (nI p3)), some (.int (nI p4)), some (.int (nI p5)), none, none], [.int (nI 2), .int (nI 0), .int (nI p3)])) (by decide +kernel) rfl ?_
  dsimp only
  refine am_Rq.callS (show decode (am_by 14) 36 = .ok (.invokestatic 30, 3) by decide +kernel) rfl [.int (nI p3), .int (nI 0), .int (nI 2)] [] rfl rfl (Nat.le_of_ble_eq_true rfl) rfl rfl (c_within (nI p3) (nI 0) (nI 2)) ?_
  rintro hq _ ⟨e1, rfl⟩
  rw [e1]
  clear e1 hq
  show am_Rq _ 14 39 [some (.ref 2), some (.int (nI p0)), some (.int (nI p1)), some (.int (nI p2)), some (.int (nI p3)), some (.int (nI p4)), some (.int (nI p5)), none, none] [.int (nI (am_b (rg_r (nI 0) (nI 2) (nI p3))))] _ _
  refine am_Rq.if1F (show decode (am_by 14) 39 = .ok (.ifCond .eq 30, 3) by decide +kernel) (by decide) (by rw [am_b_eq, rg_le l3 u3 (by omega)]; rfl) ?_
  refine am_Rq.blk (is := [(.iload 5, 2), (.bipush 100, 2), (.sipush 900, 3)]) (q := (49, [some (.ref 2), some (.int (nI p0)), some (.int (nI p1)), some (.int (nI p2)), some (.int (nI p3)), some (.int (nI p4)), some (.int (nI p5)), none, none], [.int (nI 900), .int (nI 100), .int (nI p4)])) (by decide +kernel) rfl ?_
  dsimp only
  refine am_Rq.callS (show decode (am_by 14) 49 = .ok (.invokestatic 30, 3) by decide +kernel) rfl [.int (nI p4), .int (nI 100), .int (nI 900)] [] rfl rfl (Nat.le_of_ble_eq_true rfl) rfl rfl (c_within (nI p4) (nI 100) (nI 900)) ?_
  rintro hq _ ⟨e1, rfl⟩
  rw [e1]
  clear e1 hq
  show am_Rq _ 14 52 [some (.ref 2), some (.int (nI p0)), some (.int (nI p1)), some (.int (nI p2)), some (.int (nI p3)), some (.int (nI p4)), some (.int (nI p5)), none, none] [.int (nI (am_b (rg_r (nI 100) (nI 900) (nI p4))))] _ _
  refine am_Rq.if1F (show decode (am_by 14) 52 = .ok (.ifCond .eq 17, 3) by decide +kernel) (by decide) (by rw [am_b_eq, rg_le l4 u4 (by omega)]; rfl) ?_
  refine am_Rq.blk (is := [(.iload 6, 2), (.iconst 0, 1), (.iconst 2, 1)]) (q := (59, [some (.ref 2), some (.int (nI p0)), some (.int (nI p1)), some (.int (nI p2)), some (.int (nI p3)), some (.int (nI p4)), some (.int (nI p5)), none, none], [.int (nI 2), .int (nI 0), .int (nI p5)])) (by decide +kernel) rfl ?_
  dsimp only
  refine am_Rq.callS (show decode (am_by 14) 59 = .ok (.invokestatic 30, 3) by decide +kernel) rfl [.int (nI p5), .int (nI 0), .int (nI 2)] [] rfl rfl (Nat.le_of_ble_eq_true rfl) rfl rfl (c_within (nI p5) (nI 0) (nI 2)) ?_
  rintro hq _ ⟨e1, rfl⟩
  rw [e1]
  clear e1 hq
  show am_Rq _ 14 62 [some (.ref 2), some (.int (nI p0)), some (.int (nI p1)), some (.int (nI p2)), some (.int (nI p3)), some (.int (nI p4)), some (.int (nI p5)), none, none] [.int (nI (am_b (rg_r (nI 0) (nI 2) (nI p5))))] _ _
  refine am_Rq.if1F (show decode (am_by 14) 62 = .ok (.ifCond .eq 7, 3) by decide +kernel) (by decide) (by rw [am_b_eq, rg_le l5 u5 (by omega)]; rfl) ?_
  refine am_Rq.blk (is := [(.iconst 1, 1), (.goto 4, 3)]) (q := (70, [some (.ref 2), some (.int (nI p0)), some (.int (nI p1)), some (.int (nI p2)), some (.int (nI p3)), some (.int (nI p4)), some (.int (nI p5)), none, none], [.int (nI 1)])) (by decide +kernel) rfl ?_
  dsimp only
  refine am_Rq.blk (is := [(.istore 7, 2), (.iload 7, 2)]) (q := (74, [some (.ref 2), some (.int (nI p0)), some (.int (nI p1)), some (.int (nI p2)), some (.int (nI p3)), some (.int (nI p4)), some (.int (nI p5)), some (.int (nI 1)), none], [.int (nI 1)])) (by decide +kernel) rfl ?_
  dsimp only
  refine am_Rq.if1T (t := 85) (show decode (am_by 14) 74 = .ok (.ifCond .ne 11, 3) by decide +kernel) (by decide) (rfl) ?_
  refine am_Rq.blk (is := [(.aload_n 0, 1)]) (q := (86, [some (.ref 2), some (.int (nI p0)), some (.int (nI p1)), some (.int (nI p2)), some (.int (nI p3)), some (.int (nI p4)), some (.int (nI p5)), some (.int (nI 1)), none], [.ref 2])) (by decide +kernel) rfl ?_
  dsimp only
  refine am_Rq.getf (v := .ref 3) (show decode (am_by 14) 86 = .ok (.getfield 12, 3) by decide +kernel) rfl hO rfl ?_
  refine am_Rq.getf (v := .int (nI (t 153))) (show decode (am_by 14) 89 = .ok (.getfield 37, 3) by decide +kernel) rfl (Led.lg h) rfl ?_
  refine am_Rq.blk (is := [(.istore 8, 2), (.iload 8, 2), (.iconst 5, 1)]) (q := (97, [some (.ref 2), some (.int (nI p0)), some (.int (nI p1)), some (.int (nI p2)), some (.int (nI p3)), some (.int (nI p4)), some (.int (nI p5)), some (.int (nI 1)), some (.int (nI (t 153)))], [.int (nI 5), .int (nI (t 153))])) (by decide +kernel) rfl ?_
  dsimp only
  refine am_Rq.if2T (t := 108) (show decode (am_by 14) 97 = .ok (.if_icmp .lt 11, 3) by decide +kernel) (by decide) (by rw [nm_lt (by omega) (by omega)]; exact decide_eq_true (by omega)) ?_
  refine am_Rq.blk (is := [(.aload_n 0, 1)]) (q := (109, [some (.ref 2), some (.int (nI p0)), some (.int (nI p1)), some (.int (nI p2)), some (.int (nI p3)), some (.int (nI p4)), some (.int (nI p5)), some (.int (nI 1)), some (.int (nI (t 153)))], [.ref 2])) (by decide +kernel) rfl ?_
  dsimp only
  refine am_Rq.getf (v := .ref 26) (show decode (am_by 14) 109 = .ok (.getfield 19, 3) by decide +kernel) rfl hO rfl ?_
  refine am_Rq.blk (is := [(.aload_n 0, 1)]) (q := (113, [some (.ref 2), some (.int (nI p0)), some (.int (nI p1)), some (.int (nI p2)), some (.int (nI p3)), some (.int (nI p4)), some (.int (nI p5)), some (.int (nI 1)), some (.int (nI (t 153)))], [.ref 2, .ref 26])) (by decide +kernel) rfl ?_
  dsimp only
  refine am_Rq.getf (v := .ref 3) (show decode (am_by 14) 113 = .ok (.getfield 12, 3) by decide +kernel) rfl hO rfl ?_
  refine am_Rq.callV (show decode (am_by 14) 116 = .ok (.invokevirtual 44, 3) by decide +kernel) rfl [.ref 3] [] rfl rfl (Nat.le_of_ble_eq_true rfl) rfl hH.2.2.2.1 rfl (c_keep h hH (by omega) ok.e) ?_
  rintro hp1 _ ⟨rfl, hL1, hH1, hf1⟩
  have hc1_2 := (hf1.2.2 2 (fun q => by have := q.1; omega)).trans hO
  show am_Rq _ 14 119 [some (.ref 2), some (.int (nI p0)), some (.int (nI p1)), some (.int (nI p2)), some (.int (nI p3)), some (.int (nI p4)), some (.int (nI p5)), some (.int (nI 1)), some (.int (nI (t 153)))] [] _ _
  refine am_Rq.blk (is := [(.aload_n 0, 1)]) (q := (120, [some (.ref 2), some (.int (nI p0)), some (.int (nI p1)), some (.int (nI p2)), some (.int (nI p3)), some (.int (nI p4)), some (.int (nI p5)), some (.int (nI 1)), some (.int (nI (t 153)))], [.ref 2])) (by decide +kernel) rfl ?_
  dsimp only
  refine am_Rq.getf (v := .ref 3) (show decode (am_by 14) 120 = .ok (.getfield 12, 3) by decide +kernel) rfl hc1_2 rfl ?_
  refine am_Rq.blk (is := [(.iload 8, 2), (.iconst 1, 1), (.iadd, 1)]) (q := (127, [some (.ref 2), some (.int (nI p0)), some (.int (nI p1)), some (.int (nI p2)), some (.int (nI p3)), some (.int (nI p4)), some (.int (nI p5)), some (.int (nI 1)), some (.int (nI (t 153)))], [.int ((nI (t 153)) + (nI 1)), .ref 3])) (by decide +kernel) rfl ?_
  dsimp only
  rw [show (nI (t 153)) + (nI 1) = nI ((t 153) + 1) from nI_add _ _]
  refine Led.pLg (k := 2) (p := 153) (v := (t 153) + 1) hL1 (show decode (am_by 14) 127 = .ok (.putfield 37, 3) by decide +kernel) rfl (by decide) (by first | rfl | exact rfl) rfl ?_
  intro hp2 hL2 hf2
  have hc2_2 := (hf2.2.2 (2) (fun q => by obtain ⟨_, _⟩ := q; omega)).trans hc1_2
  refine am_Rq.blk (is := [(.aload_n 0, 1)]) (q := (131, [some (.ref 2), some (.int (nI p0)), some (.int (nI p1)), some (.int (nI p2)), some (.int (nI p3)), some (.int (nI p4)), some (.int (nI p5)), some (.int (nI 1)), some (.int (nI (t 153)))], [.ref 2])) (by decide +kernel) rfl ?_
  dsimp only
  refine am_Rq.getf (v := .ref 3) (show decode (am_by 14) 131 = .ok (.getfield 12, 3) by decide +kernel) rfl hc2_2 rfl ?_
  refine am_Rq.getf (v := .ref (3 + 1)) (show decode (am_by 14) 134 = .ok (.getfield 48, 3) by decide +kernel) rfl (Led.lg hL2) rfl ?_
  refine am_Rq.blk (is := [(.iload 8, 2)]) (q := (139, [some (.ref 2), some (.int (nI p0)), some (.int (nI p1)), some (.int (nI p2)), some (.int (nI p3)), some (.int (nI p4)), some (.int (nI p5)), some (.int (nI 1)), some (.int (nI (t 153)))], [.int (nI (t 153)), .ref (3 + 1)])) (by decide +kernel) rfl ?_
  dsimp only
  refine am_Rq.ral (k := t 153) (show decode (am_by 14) 139 = .ok (.aaload, 1) by decide +kernel) (Led.ca hL2) rfl (by omega) (by omega) ?_
  refine am_Rq.blk (is := [(.iload_n 1, 1), (.iload_n 2, 1), (.iload_n 3, 1), (.iload 4, 2), (.iload 5, 2), (.iload 6, 2)]) (q := (149, [some (.ref 2), some (.int (nI p0)), some (.int (nI p1)), some (.int (nI p2)), some (.int (nI p3)), some (.int (nI p4)), some (.int (nI p5)), some (.int (nI 1)), some (.int (nI (t 153)))], [.int (nI p5), .int (nI p4), .int (nI p3), .int (nI p2), .int (nI p1), .int (nI p0), .ref (3 + 2 + 2 * (t 153))])) (by decide +kernel) rfl ?_
  dsimp only
  refine am_Rq.callV (show decode (am_by 14) 149 = .ok (.invokevirtual 52, 3) by decide +kernel) rfl [.int (nI p0), .int (nI p1), .int (nI p2), .int (nI p3), .int (nI p4), .int (nI p5)] [] rfl rfl (Nat.le_of_ble_eq_true rfl) rfl (Led.sc hL2 (by omega)) rfl (c_setTerms hL2 (by omega)) ?_
  rintro hp3 _ ⟨rfl, hL3, hf3⟩
  have hc3_2 := (hf3.2.2 (2) (fun q => by obtain ⟨_, _⟩ := q; omega)).trans hc2_2
  show am_Rq _ 14 152 [some (.ref 2), some (.int (nI p0)), some (.int (nI p1)), some (.int (nI p2)), some (.int (nI p3)), some (.int (nI p4)), some (.int (nI p5)), some (.int (nI 1)), some (.int (nI (t 153)))] [] _ _
  refine am_Rq.blk (is := [(.iload 8, 2)]) (q := (154, [some (.ref 2), some (.int (nI p0)), some (.int (nI p1)), some (.int (nI p2)), some (.int (nI p3)), some (.int (nI p4)), some (.int (nI p5)), some (.int (nI 1)), some (.int (nI (t 153)))], [.int (nI (t 153))])) (by decide +kernel) rfl ?_
  dsimp only
  refine am_Rq.ret (v := some (.int (nI (t 153)))) (show decode (am_by 14) 154 = .ok (.ireturn, 1) by decide +kernel) rfl rfl ?_
  exact ⟨_, rfl, rfl, hL3, c_H.kept hH1 (fun a ha => (hf2.trans hf3).2.2 a (fun q => by obtain ⟨_, _⟩ := q; obtain ⟨_, _⟩ := ha; omega)), (((hf1.mono (fun a q => by obtain ⟨_, _⟩ := q; exact ⟨by omega, by omega⟩)).trans (hf2.mono (fun a q => by obtain ⟨_, _⟩ := q; exact ⟨by omega, by omega⟩))).trans (hf3.mono (fun a q => by obtain ⟨_, _⟩ := q; exact ⟨by omega, by omega⟩)))⟩
theorem c_preferred_no2 (hO : hp[2]? = some (0, [.ref 3, .ref 26, .ref 212])) {t : Nat → Nat} (h : Led hp 3 t) {K : Nat} (ok : c_ok K t) (hK : K ≤ 900) (h4 : 4 ≤ d) {p0 p1 p2 p3 p4 p5 : Nat} (l0 : 1 ≤ p0) (u0 : p0 ≤ 1000) (l1 : 50 ≤ p1) (u1 : p1 ≤ 300) (l2 : 0 ≤ p2) (u2 : p2 ≤ 3) (l3 : 0 ≤ p3) (u3 : p3 ≤ 2) (l4 : 100 ≤ p4) (u4 : p4 ≤ 900) (l5 : 0 ≤ p5) (u5 : p5 ≤ 2) (hc : t 153 = 5) : am_Rq (d + 3) 14 0 (am_en [.ref 2, .int (nI p0), .int (nI p1), .int (nI p2), .int (nI p3), .int (nI p4), .int (nI p5)] 9) [] hp (c_No 1 hp) := by
  show am_Rq _ 14 0 [some (.ref 2), some (.int (nI p0)), some (.int (nI p1)), some (.int (nI p2)), some (.int (nI p3)), some (.int (nI p4)), some (.int (nI p5)), none, none] [] _ _
  have hB := ok.b (by omega)
  refine am_Rq.blk (is := [(.iload_n 1, 1), (.iconst 1, 1), (.sipush 1000, 3)]) (q := (5, [some (.ref 2), some (.int (nI p0)), some (.int (nI p1)), some (.int (nI p2)), some (.int (nI p3)), some (.int (nI p4)), some (.int (nI p5)), none, none], [.int (nI 1000), .int (nI 1), .int (nI p0)])) (by decide +kernel) rfl ?_
  dsimp only
  refine am_Rq.callS (show decode (am_by 14) 5 = .ok (.invokestatic 30, 3) by decide +kernel) rfl [.int (nI p0), .int (nI 1), .int (nI 1000)] [] rfl rfl (Nat.le_of_ble_eq_true rfl) rfl rfl (c_within (nI p0) (nI 1) (nI 1000)) ?_
  rintro hq _ ⟨e1, rfl⟩
  rw [e1]
  clear e1 hq
  show am_Rq _ 14 8 [some (.ref 2), some (.int (nI p0)), some (.int (nI p1)), some (.int (nI p2)), some (.int (nI p3)), some (.int (nI p4)), some (.int (nI p5)), none, none] [.int (nI (am_b (rg_r (nI 1) (nI 1000) (nI p0))))] _ _
  refine am_Rq.if1F (show decode (am_by 14) 8 = .ok (.ifCond .eq 61, 3) by decide +kernel) (by decide) (by rw [am_b_eq, rg_le l0 u0 (by omega)]; rfl) ?_
  refine am_Rq.blk (is := [(.iload_n 2, 1), (.bipush 50, 2), (.sipush 300, 3)]) (q := (17, [some (.ref 2), some (.int (nI p0)), some (.int (nI p1)), some (.int (nI p2)), some (.int (nI p3)), some (.int (nI p4)), some (.int (nI p5)), none, none], [.int (nI 300), .int (nI 50), .int (nI p1)])) (by decide +kernel) rfl ?_
  dsimp only
  refine am_Rq.callS (show decode (am_by 14) 17 = .ok (.invokestatic 30, 3) by decide +kernel) rfl [.int (nI p1), .int (nI 50), .int (nI 300)] [] rfl rfl (Nat.le_of_ble_eq_true rfl) rfl rfl (c_within (nI p1) (nI 50) (nI 300)) ?_
  rintro hq _ ⟨e1, rfl⟩
  rw [e1]
  clear e1 hq
  show am_Rq _ 14 20 [some (.ref 2), some (.int (nI p0)), some (.int (nI p1)), some (.int (nI p2)), some (.int (nI p3)), some (.int (nI p4)), some (.int (nI p5)), none, none] [.int (nI (am_b (rg_r (nI 50) (nI 300) (nI p1))))] _ _
  refine am_Rq.if1F (show decode (am_by 14) 20 = .ok (.ifCond .eq 49, 3) by decide +kernel) (by decide) (by rw [am_b_eq, rg_le l1 u1 (by omega)]; rfl) ?_
  refine am_Rq.blk (is := [(.iload_n 3, 1), (.iconst 0, 1), (.iconst 3, 1)]) (q := (26, [some (.ref 2), some (.int (nI p0)), some (.int (nI p1)), some (.int (nI p2)), some (.int (nI p3)), some (.int (nI p4)), some (.int (nI p5)), none, none], [.int (nI 3), .int (nI 0), .int (nI p2)])) (by decide +kernel) rfl ?_
  dsimp only
  refine am_Rq.callS (show decode (am_by 14) 26 = .ok (.invokestatic 30, 3) by decide +kernel) rfl [.int (nI p2), .int (nI 0), .int (nI 3)] [] rfl rfl (Nat.le_of_ble_eq_true rfl) rfl rfl (c_within (nI p2) (nI 0) (nI 3)) ?_
  rintro hq _ ⟨e1, rfl⟩
  rw [e1]
  clear e1 hq
  show am_Rq _ 14 29 [some (.ref 2), some (.int (nI p0)), some (.int (nI p1)), some (.int (nI p2)), some (.int (nI p3)), some (.int (nI p4)), some (.int (nI p5)), none, none] [.int (nI (am_b (rg_r (nI 0) (nI 3) (nI p2))))] _ _
  refine am_Rq.if1F (show decode (am_by 14) 29 = .ok (.ifCond .eq 40, 3) by decide +kernel) (by decide) (by rw [am_b_eq, rg_le l2 u2 (by omega)]; rfl) ?_
  refine am_Rq.blk (is := [(.iload 4, 2), (.iconst 0, 1), (.iconst 2, 1)]) (q := (36, [some (.ref 2), some (.int (nI p0)), some (.int (nI p1)), some (.int (nI p2)), some (.int (nI p3)), some (.int (nI p4)), some (.int (nI p5)), none, none], [.int (nI 2), .int (nI 0), .int (nI p3)])) (by decide +kernel) rfl ?_
  dsimp only
  refine am_Rq.callS (show decode (am_by 14) 36 = .ok (.invokestatic 30, 3) by decide +kernel) rfl [.int (nI p3), .int (nI 0), .int (nI 2)] [] rfl rfl (Nat.le_of_ble_eq_true rfl) rfl rfl (c_within (nI p3) (nI 0) (nI 2)) ?_
  rintro hq _ ⟨e1, rfl⟩
  rw [e1]
  clear e1 hq
  show am_Rq _ 14 39 [some (.ref 2), some (.int (nI p0)), some (.int (nI p1)), some (.int (nI p2)), some (.int (nI p3)), some (.int (nI p4)), some (.int (nI p5)), none, none] [.int (nI (am_b (rg_r (nI 0) (nI 2) (nI p3))))] _ _
  refine am_Rq.if1F (show decode (am_by 14) 39 = .ok (.ifCond .eq 30, 3) by decide +kernel) (by decide) (by rw [am_b_eq, rg_le l3 u3 (by omega)]; rfl) ?_
  refine am_Rq.blk (is := [(.iload 5, 2), (.bipush 100, 2), (.sipush 900, 3)]) (q := (49, [some (.ref 2), some (.int (nI p0)), some (.int (nI p1)), some (.int (nI p2)), some (.int (nI p3)), some (.int (nI p4)), some (.int (nI p5)), none, none], [.int (nI 900), .int (nI 100), .int (nI p4)])) (by decide +kernel) rfl ?_
  dsimp only
  refine am_Rq.callS (show decode (am_by 14) 49 = .ok (.invokestatic 30, 3) by decide +kernel) rfl [.int (nI p4), .int (nI 100), .int (nI 900)] [] rfl rfl (Nat.le_of_ble_eq_true rfl) rfl rfl (c_within (nI p4) (nI 100) (nI 900)) ?_
  rintro hq _ ⟨e1, rfl⟩
  rw [e1]
  clear e1 hq
  show am_Rq _ 14 52 [some (.ref 2), some (.int (nI p0)), some (.int (nI p1)), some (.int (nI p2)), some (.int (nI p3)), some (.int (nI p4)), some (.int (nI p5)), none, none] [.int (nI (am_b (rg_r (nI 100) (nI 900) (nI p4))))] _ _
  refine am_Rq.if1F (show decode (am_by 14) 52 = .ok (.ifCond .eq 17, 3) by decide +kernel) (by decide) (by rw [am_b_eq, rg_le l4 u4 (by omega)]; rfl) ?_
  refine am_Rq.blk (is := [(.iload 6, 2), (.iconst 0, 1), (.iconst 2, 1)]) (q := (59, [some (.ref 2), some (.int (nI p0)), some (.int (nI p1)), some (.int (nI p2)), some (.int (nI p3)), some (.int (nI p4)), some (.int (nI p5)), none, none], [.int (nI 2), .int (nI 0), .int (nI p5)])) (by decide +kernel) rfl ?_
  dsimp only
  refine am_Rq.callS (show decode (am_by 14) 59 = .ok (.invokestatic 30, 3) by decide +kernel) rfl [.int (nI p5), .int (nI 0), .int (nI 2)] [] rfl rfl (Nat.le_of_ble_eq_true rfl) rfl rfl (c_within (nI p5) (nI 0) (nI 2)) ?_
  rintro hq _ ⟨e1, rfl⟩
  rw [e1]
  clear e1 hq
  show am_Rq _ 14 62 [some (.ref 2), some (.int (nI p0)), some (.int (nI p1)), some (.int (nI p2)), some (.int (nI p3)), some (.int (nI p4)), some (.int (nI p5)), none, none] [.int (nI (am_b (rg_r (nI 0) (nI 2) (nI p5))))] _ _
  refine am_Rq.if1F (show decode (am_by 14) 62 = .ok (.ifCond .eq 7, 3) by decide +kernel) (by decide) (by rw [am_b_eq, rg_le l5 u5 (by omega)]; rfl) ?_
  refine am_Rq.blk (is := [(.iconst 1, 1), (.goto 4, 3)]) (q := (70, [some (.ref 2), some (.int (nI p0)), some (.int (nI p1)), some (.int (nI p2)), some (.int (nI p3)), some (.int (nI p4)), some (.int (nI p5)), none, none], [.int (nI 1)])) (by decide +kernel) rfl ?_
  dsimp only
  refine am_Rq.blk (is := [(.istore 7, 2), (.iload 7, 2)]) (q := (74, [some (.ref 2), some (.int (nI p0)), some (.int (nI p1)), some (.int (nI p2)), some (.int (nI p3)), some (.int (nI p4)), some (.int (nI p5)), some (.int (nI 1)), none], [.int (nI 1)])) (by decide +kernel) rfl ?_
  dsimp only
  refine am_Rq.if1T (t := 85) (show decode (am_by 14) 74 = .ok (.ifCond .ne 11, 3) by decide +kernel) (by decide) (rfl) ?_
  refine am_Rq.blk (is := [(.aload_n 0, 1)]) (q := (86, [some (.ref 2), some (.int (nI p0)), some (.int (nI p1)), some (.int (nI p2)), some (.int (nI p3)), some (.int (nI p4)), some (.int (nI p5)), some (.int (nI 1)), none], [.ref 2])) (by decide +kernel) rfl ?_
  dsimp only
  refine am_Rq.getf (v := .ref 3) (show decode (am_by 14) 86 = .ok (.getfield 12, 3) by decide +kernel) rfl hO rfl ?_
  refine am_Rq.getf (v := .int (nI (t 153))) (show decode (am_by 14) 89 = .ok (.getfield 37, 3) by decide +kernel) rfl (Led.lg h) rfl ?_
  refine am_Rq.blk (is := [(.istore 8, 2), (.iload 8, 2), (.iconst 5, 1)]) (q := (97, [some (.ref 2), some (.int (nI p0)), some (.int (nI p1)), some (.int (nI p2)), some (.int (nI p3)), some (.int (nI p4)), some (.int (nI p5)), some (.int (nI 1)), some (.int (nI (t 153)))], [.int (nI 5), .int (nI (t 153))])) (by decide +kernel) rfl ?_
  dsimp only
  refine am_Rq.if2F (show decode (am_by 14) 97 = .ok (.if_icmp .lt 11, 3) by decide +kernel) (by decide) (by rw [nm_lt (by omega) (by omega)]; exact decide_eq_false (by omega)) ?_
  refine am_Rq.thrN (k := 1) (ic := 43) (show decode (am_by 14) 100 = .ok (.new 41, 3) by decide +kernel) rfl (by omega) rfl (show decode (am_by 14) 103 = .ok (.dup, 1) by decide +kernel) (show decode (am_by 14) 104 = .ok (.invokespecial 43, 3) by decide +kernel) (show decode (am_by 14) 107 = .ok (.athrow, 1) by decide +kernel) ?_
  exact ⟨rfl, rfl⟩
theorem c_preferred_no1 (hO : hp[2]? = some (0, [.ref 3, .ref 26, .ref 212])) {t : Nat → Nat} (h : Led hp 3 t) {K : Nat} (ok : c_ok K t) (hK : K ≤ 900) (h4 : 4 ≤ d) {x0 x1 x2 x3 x4 x5 : Int32} (hx : (rg_r (nI 1) (nI 1000) (x0) && (rg_r (nI 50) (nI 300) (x1) && (rg_r (nI 0) (nI 3) (x2) && (rg_r (nI 0) (nI 2) (x3) && (rg_r (nI 100) (nI 900) (x4) && (rg_r (nI 0) (nI 2) (x5))))))) = false) : am_Rq (d + 3) 14 0 (am_en [.ref 2, .int x0, .int x1, .int x2, .int x3, .int x4, .int x5] 9) [] hp (c_No 0 hp) := by
  show am_Rq _ 14 0 [some (.ref 2), some (.int x0), some (.int x1), some (.int x2), some (.int x3), some (.int x4), some (.int x5), none, none] [] _ _
  have hB := ok.b (by omega)
  refine am_Rq.blk (is := [(.iload_n 1, 1), (.iconst 1, 1), (.sipush 1000, 3)]) (q := (5, [some (.ref 2), some (.int x0), some (.int x1), some (.int x2), some (.int x3), some (.int x4), some (.int x5), none, none], [.int (nI 1000), .int (nI 1), .int x0])) (by decide +kernel) rfl ?_
  dsimp only
  refine am_Rq.callS (show decode (am_by 14) 5 = .ok (.invokestatic 30, 3) by decide +kernel) rfl [.int x0, .int (nI 1), .int (nI 1000)] [] rfl rfl (Nat.le_of_ble_eq_true rfl) rfl rfl (c_within (x0) (nI 1) (nI 1000)) ?_
  rintro hq _ ⟨e1, rfl⟩
  rw [e1]
  clear e1 hq
  show am_Rq _ 14 8 [some (.ref 2), some (.int x0), some (.int x1), some (.int x2), some (.int x3), some (.int x4), some (.int x5), none, none] [.int (nI (am_b (rg_r (nI 1) (nI 1000) (x0))))] _ _
  refine am_Rq.if1 (t := 69) (show decode (am_by 14) 8 = .ok (.ifCond .eq 61, 3) by decide +kernel) (by decide) (fun g0 => ?_) (fun g0 => ?_)
  ·
    refine am_Rq.blk (is := [(.iconst 0, 1), (.istore 7, 2), (.iload 7, 2)]) (q := (74, [some (.ref 2), some (.int x0), some (.int x1), some (.int x2), some (.int x3), some (.int x4), some (.int x5), some (.int (nI 0)), none], [.int (nI 0)])) (by decide +kernel) rfl ?_
    dsimp only
    refine am_Rq.if1F (show decode (am_by 14) 74 = .ok (.ifCond .ne 11, 3) by decide +kernel) (by decide) (rfl) ?_
    refine am_Rq.thrN (k := 0) (ic := 36) (show decode (am_by 14) 77 = .ok (.new 34, 3) by decide +kernel) rfl (by omega) rfl (show decode (am_by 14) 80 = .ok (.dup, 1) by decide +kernel) (show decode (am_by 14) 81 = .ok (.invokespecial 36, 3) by decide +kernel) (show decode (am_by 14) 84 = .ok (.athrow, 1) by decide +kernel) ?_
    exact ⟨rfl, rfl⟩
  ·
    rw [am_b_eq, Bool.not_eq_false'] at g0
    refine am_Rq.blk (is := [(.iload_n 2, 1), (.bipush 50, 2), (.sipush 300, 3)]) (q := (17, [some (.ref 2), some (.int x0), some (.int x1), some (.int x2), some (.int x3), some (.int x4), some (.int x5), none, none], [.int (nI 300), .int (nI 50), .int x1])) (by decide +kernel) rfl ?_
    dsimp only
    refine am_Rq.callS (show decode (am_by 14) 17 = .ok (.invokestatic 30, 3) by decide +kernel) rfl [.int x1, .int (nI 50), .int (nI 300)] [] rfl rfl (Nat.le_of_ble_eq_true rfl) rfl rfl (c_within (x1) (nI 50) (nI 300)) ?_
    rintro hq _ ⟨e1, rfl⟩
    rw [e1]
    clear e1 hq
    show am_Rq _ 14 20 [some (.ref 2), some (.int x0), some (.int x1), some (.int x2), some (.int x3), some (.int x4), some (.int x5), none, none] [.int (nI (am_b (rg_r (nI 50) (nI 300) (x1))))] _ _
    refine am_Rq.if1 (t := 69) (show decode (am_by 14) 20 = .ok (.ifCond .eq 49, 3) by decide +kernel) (by decide) (fun g1 => ?_) (fun g1 => ?_)
    ·
      refine am_Rq.blk (is := [(.iconst 0, 1), (.istore 7, 2), (.iload 7, 2)]) (q := (74, [some (.ref 2), some (.int x0), some (.int x1), some (.int x2), some (.int x3), some (.int x4), some (.int x5), some (.int (nI 0)), none], [.int (nI 0)])) (by decide +kernel) rfl ?_
      dsimp only
      refine am_Rq.if1F (show decode (am_by 14) 74 = .ok (.ifCond .ne 11, 3) by decide +kernel) (by decide) (rfl) ?_
      refine am_Rq.thrN (k := 0) (ic := 36) (show decode (am_by 14) 77 = .ok (.new 34, 3) by decide +kernel) rfl (by omega) rfl (show decode (am_by 14) 80 = .ok (.dup, 1) by decide +kernel) (show decode (am_by 14) 81 = .ok (.invokespecial 36, 3) by decide +kernel) (show decode (am_by 14) 84 = .ok (.athrow, 1) by decide +kernel) ?_
      exact ⟨rfl, rfl⟩
    ·
      rw [am_b_eq, Bool.not_eq_false'] at g1
      refine am_Rq.blk (is := [(.iload_n 3, 1), (.iconst 0, 1), (.iconst 3, 1)]) (q := (26, [some (.ref 2), some (.int x0), some (.int x1), some (.int x2), some (.int x3), some (.int x4), some (.int x5), none, none], [.int (nI 3), .int (nI 0), .int x2])) (by decide +kernel) rfl ?_
      dsimp only
      refine am_Rq.callS (show decode (am_by 14) 26 = .ok (.invokestatic 30, 3) by decide +kernel) rfl [.int x2, .int (nI 0), .int (nI 3)] [] rfl rfl (Nat.le_of_ble_eq_true rfl) rfl rfl (c_within (x2) (nI 0) (nI 3)) ?_
      rintro hq _ ⟨e1, rfl⟩
      rw [e1]
      clear e1 hq
      show am_Rq _ 14 29 [some (.ref 2), some (.int x0), some (.int x1), some (.int x2), some (.int x3), some (.int x4), some (.int x5), none, none] [.int (nI (am_b (rg_r (nI 0) (nI 3) (x2))))] _ _
      refine am_Rq.if1 (t := 69) (show decode (am_by 14) 29 = .ok (.ifCond .eq 40, 3) by decide +kernel) (by decide) (fun g2 => ?_) (fun g2 => ?_)
      ·
        refine am_Rq.blk (is := [(.iconst 0, 1), (.istore 7, 2), (.iload 7, 2)]) (q := (74, [some (.ref 2), some (.int x0), some (.int x1), some (.int x2), some (.int x3), some (.int x4), some (.int x5), some (.int (nI 0)), none], [.int (nI 0)])) (by decide +kernel) rfl ?_
        dsimp only
        refine am_Rq.if1F (show decode (am_by 14) 74 = .ok (.ifCond .ne 11, 3) by decide +kernel) (by decide) (rfl) ?_
        refine am_Rq.thrN (k := 0) (ic := 36) (show decode (am_by 14) 77 = .ok (.new 34, 3) by decide +kernel) rfl (by omega) rfl (show decode (am_by 14) 80 = .ok (.dup, 1) by decide +kernel) (show decode (am_by 14) 81 = .ok (.invokespecial 36, 3) by decide +kernel) (show decode (am_by 14) 84 = .ok (.athrow, 1) by decide +kernel) ?_
        exact ⟨rfl, rfl⟩
      ·
        rw [am_b_eq, Bool.not_eq_false'] at g2
        refine am_Rq.blk (is := [(.iload 4, 2), (.iconst 0, 1), (.iconst 2, 1)]) (q := (36, [some (.ref 2), some (.int x0), some (.int x1), some (.int x2), some (.int x3), some (.int x4), some (.int x5), none, none], [.int (nI 2), .int (nI 0), .int x3])) (by decide +kernel) rfl ?_
        dsimp only
        refine am_Rq.callS (show decode (am_by 14) 36 = .ok (.invokestatic 30, 3) by decide +kernel) rfl [.int x3, .int (nI 0), .int (nI 2)] [] rfl rfl (Nat.le_of_ble_eq_true rfl) rfl rfl (c_within (x3) (nI 0) (nI 2)) ?_
        rintro hq _ ⟨e1, rfl⟩
        rw [e1]
        clear e1 hq
        show am_Rq _ 14 39 [some (.ref 2), some (.int x0), some (.int x1), some (.int x2), some (.int x3), some (.int x4), some (.int x5), none, none] [.int (nI (am_b (rg_r (nI 0) (nI 2) (x3))))] _ _
        refine am_Rq.if1 (t := 69) (show decode (am_by 14) 39 = .ok (.ifCond .eq 30, 3) by decide +kernel) (by decide) (fun g3 => ?_) (fun g3 => ?_)
        ·
          refine am_Rq.blk (is := [(.iconst 0, 1), (.istore 7, 2), (.iload 7, 2)]) (q := (74, [some (.ref 2), some (.int x0), some (.int x1), some (.int x2), some (.int x3), some (.int x4), some (.int x5), some (.int (nI 0)), none], [.int (nI 0)])) (by decide +kernel) rfl ?_
          dsimp only
          refine am_Rq.if1F (show decode (am_by 14) 74 = .ok (.ifCond .ne 11, 3) by decide +kernel) (by decide) (rfl) ?_
          refine am_Rq.thrN (k := 0) (ic := 36) (show decode (am_by 14) 77 = .ok (.new 34, 3) by decide +kernel) rfl (by omega) rfl (show decode (am_by 14) 80 = .ok (.dup, 1) by decide +kernel) (show decode (am_by 14) 81 = .ok (.invokespecial 36, 3) by decide +kernel) (show decode (am_by 14) 84 = .ok (.athrow, 1) by decide +kernel) ?_
          exact ⟨rfl, rfl⟩
        ·
          rw [am_b_eq, Bool.not_eq_false'] at g3
          refine am_Rq.blk (is := [(.iload 5, 2), (.bipush 100, 2), (.sipush 900, 3)]) (q := (49, [some (.ref 2), some (.int x0), some (.int x1), some (.int x2), some (.int x3), some (.int x4), some (.int x5), none, none], [.int (nI 900), .int (nI 100), .int x4])) (by decide +kernel) rfl ?_
          dsimp only
          refine am_Rq.callS (show decode (am_by 14) 49 = .ok (.invokestatic 30, 3) by decide +kernel) rfl [.int x4, .int (nI 100), .int (nI 900)] [] rfl rfl (Nat.le_of_ble_eq_true rfl) rfl rfl (c_within (x4) (nI 100) (nI 900)) ?_
          rintro hq _ ⟨e1, rfl⟩
          rw [e1]
          clear e1 hq
          show am_Rq _ 14 52 [some (.ref 2), some (.int x0), some (.int x1), some (.int x2), some (.int x3), some (.int x4), some (.int x5), none, none] [.int (nI (am_b (rg_r (nI 100) (nI 900) (x4))))] _ _
          refine am_Rq.if1 (t := 69) (show decode (am_by 14) 52 = .ok (.ifCond .eq 17, 3) by decide +kernel) (by decide) (fun g4 => ?_) (fun g4 => ?_)
          ·
            refine am_Rq.blk (is := [(.iconst 0, 1), (.istore 7, 2), (.iload 7, 2)]) (q := (74, [some (.ref 2), some (.int x0), some (.int x1), some (.int x2), some (.int x3), some (.int x4), some (.int x5), some (.int (nI 0)), none], [.int (nI 0)])) (by decide +kernel) rfl ?_
            dsimp only
            refine am_Rq.if1F (show decode (am_by 14) 74 = .ok (.ifCond .ne 11, 3) by decide +kernel) (by decide) (rfl) ?_
            refine am_Rq.thrN (k := 0) (ic := 36) (show decode (am_by 14) 77 = .ok (.new 34, 3) by decide +kernel) rfl (by omega) rfl (show decode (am_by 14) 80 = .ok (.dup, 1) by decide +kernel) (show decode (am_by 14) 81 = .ok (.invokespecial 36, 3) by decide +kernel) (show decode (am_by 14) 84 = .ok (.athrow, 1) by decide +kernel) ?_
            exact ⟨rfl, rfl⟩
          ·
            rw [am_b_eq, Bool.not_eq_false'] at g4
            refine am_Rq.blk (is := [(.iload 6, 2), (.iconst 0, 1), (.iconst 2, 1)]) (q := (59, [some (.ref 2), some (.int x0), some (.int x1), some (.int x2), some (.int x3), some (.int x4), some (.int x5), none, none], [.int (nI 2), .int (nI 0), .int x5])) (by decide +kernel) rfl ?_
            dsimp only
            refine am_Rq.callS (show decode (am_by 14) 59 = .ok (.invokestatic 30, 3) by decide +kernel) rfl [.int x5, .int (nI 0), .int (nI 2)] [] rfl rfl (Nat.le_of_ble_eq_true rfl) rfl rfl (c_within (x5) (nI 0) (nI 2)) ?_
            rintro hq _ ⟨e1, rfl⟩
            rw [e1]
            clear e1 hq
            show am_Rq _ 14 62 [some (.ref 2), some (.int x0), some (.int x1), some (.int x2), some (.int x3), some (.int x4), some (.int x5), none, none] [.int (nI (am_b (rg_r (nI 0) (nI 2) (x5))))] _ _
            refine am_Rq.if1 (t := 69) (show decode (am_by 14) 62 = .ok (.ifCond .eq 7, 3) by decide +kernel) (by decide) (fun g5 => ?_) (fun g5 => ?_)
            ·
              refine am_Rq.blk (is := [(.iconst 0, 1), (.istore 7, 2), (.iload 7, 2)]) (q := (74, [some (.ref 2), some (.int x0), some (.int x1), some (.int x2), some (.int x3), some (.int x4), some (.int x5), some (.int (nI 0)), none], [.int (nI 0)])) (by decide +kernel) rfl ?_
              dsimp only
              refine am_Rq.if1F (show decode (am_by 14) 74 = .ok (.ifCond .ne 11, 3) by decide +kernel) (by decide) (rfl) ?_
              refine am_Rq.thrN (k := 0) (ic := 36) (show decode (am_by 14) 77 = .ok (.new 34, 3) by decide +kernel) rfl (by omega) rfl (show decode (am_by 14) 80 = .ok (.dup, 1) by decide +kernel) (show decode (am_by 14) 81 = .ok (.invokespecial 36, 3) by decide +kernel) (show decode (am_by 14) 84 = .ok (.athrow, 1) by decide +kernel) ?_
              exact ⟨rfl, rfl⟩
            ·
              rw [am_b_eq, Bool.not_eq_false'] at g5
              rw [g0, g1, g2, g3, g4, g5] at hx
              cases hx
theorem c_grant (hO : hp[2]? = some (0, [.ref 3, .ref 26, .ref 212])) {t : Nat → Nat} (h : Led hp 3 t) {K : Nat} (ok : c_ok K t) (hK : K ≤ 900) (h4 : 4 ≤ d) {nx ct : Nat} {ks : Nat → Nat → Nat} (hH : c_H hp 26 nx ct ks) {k n cl ln : Nat} (hk : k < 8) (n1 : 1 ≤ n) (n2 : n ≤ 2000) (c2 : cl ≤ 60) (l1 : cl ≤ ln) (l2 : ln ≤ 60) (hg2 : sp_sm (fun g => t (83 + 7 * g + 1)) (t 82) < 2 ^ 31) (hg : t 82 < 10) (ho : sp_sm (fun g => t (83 + 7 * g + 1)) (t 82) + n ≤ t 80) : am_Rq (d + 3) 38 0 (am_en [.ref 2, .int (nI k), .int (nI n), .int (nI cl), .int (nI ln)] 7) [] hp (am_Ret fun hp1 v => v = some (.int (nI (t 82))) ∧ Led hp1 3 (va_up (va_up (va_up (va_up (va_up (va_up (va_up (va_up t 82 (t 82 + 1)) (83 + 7 * (t 82) + 0) (k)) (83 + 7 * (t 82) + 1) (n)) (83 + 7 * (t 82) + 4) (t 81)) (83 + 7 * (t 82) + 2) (cl)) (83 + 7 * (t 82) + 3) (ln)) (83 + 7 * (t 82) + 6) (0)) (83 + 7 * (t 82) + 5) (0)) ∧ c_H hp1 26 ((nx + 1) % 8) (min (ct + 1) 8) (va_up ks nx t) ∧ am_fr c_all hp hp1) := by
  show am_Rq _ 38 0 [some (.ref 2), some (.int (nI k)), some (.int (nI n)), some (.int (nI cl)), some (.int (nI ln)), none, none] [] _ _
  have hB := ok.b (by omega)
  have h82 := ok.2.2.2.2.1
  have h80 := ok.2.2.1
  refine am_Rq.blk (is := [(.aload_n 0, 1), (.iload_n 1, 1)]) (q := (2, [some (.ref 2), some (.int (nI k)), some (.int (nI n)), some (.int (nI cl)), some (.int (nI ln)), none, none], [.int (nI k), .ref 2])) (by decide +kernel) rfl ?_
  dsimp only
  refine am_Rq.callV (show decode (am_by 38) 2 = .ok (.invokevirtual 62, 3) by decide +kernel) rfl [.int (nI k)] [] rfl rfl (Nat.le_of_ble_eq_true rfl) rfl hO rfl (c_requireHolder (rg_le (by omega) (show k ≤ 7 by omega) (by omega)) (by omega)) ?_
  rintro hq _ ⟨e1, rfl⟩
  rw [e1]
  clear e1 hq
  show am_Rq _ 38 5 [some (.ref 2), some (.int (nI k)), some (.int (nI n)), some (.int (nI cl)), some (.int (nI ln)), none, none] [] _ _
  refine am_Rq.blk (is := [(.iload_n 2, 1), (.iconst 1, 1), (.sipush 2000, 3)]) (q := (10, [some (.ref 2), some (.int (nI k)), some (.int (nI n)), some (.int (nI cl)), some (.int (nI ln)), none, none], [.int (nI 2000), .int (nI 1), .int (nI n)])) (by decide +kernel) rfl ?_
  dsimp only
  refine am_Rq.callS (show decode (am_by 38) 10 = .ok (.invokestatic 30, 3) by decide +kernel) rfl [.int (nI n), .int (nI 1), .int (nI 2000)] [] rfl rfl (Nat.le_of_ble_eq_true rfl) rfl rfl (c_within (nI n) (nI 1) (nI 2000)) ?_
  rintro hq _ ⟨e1, rfl⟩
  rw [e1]
  clear e1 hq
  show am_Rq _ 38 13 [some (.ref 2), some (.int (nI k)), some (.int (nI n)), some (.int (nI cl)), some (.int (nI ln)), none, none] [.int (nI (am_b (rg_r (nI 1) (nI 2000) (nI n))))] _ _
  refine am_Rq.if1F (show decode (am_by 38) 13 = .ok (.ifCond .eq 28, 3) by decide +kernel) (by decide) (by rw [am_b_eq, rg_le n1 n2 (by omega)]; rfl) ?_
  refine am_Rq.blk (is := [(.iload_n 3, 1), (.iconst 0, 1), (.bipush 60, 2)]) (q := (20, [some (.ref 2), some (.int (nI k)), some (.int (nI n)), some (.int (nI cl)), some (.int (nI ln)), none, none], [.int (nI 60), .int (nI 0), .int (nI cl)])) (by decide +kernel) rfl ?_
  dsimp only
  refine am_Rq.callS (show decode (am_by 38) 20 = .ok (.invokestatic 30, 3) by decide +kernel) rfl [.int (nI cl), .int (nI 0), .int (nI 60)] [] rfl rfl (Nat.le_of_ble_eq_true rfl) rfl rfl (c_within (nI cl) (nI 0) (nI 60)) ?_
  rintro hq _ ⟨e1, rfl⟩
  rw [e1]
  clear e1 hq
  show am_Rq _ 38 23 [some (.ref 2), some (.int (nI k)), some (.int (nI n)), some (.int (nI cl)), some (.int (nI ln)), none, none] [.int (nI (am_b (rg_r (nI 0) (nI 60) (nI cl))))] _ _
  refine am_Rq.if1F (show decode (am_by 38) 23 = .ok (.ifCond .eq 18, 3) by decide +kernel) (by decide) (by rw [am_b_eq, rg_le (by omega) c2 (by omega)]; rfl) ?_
  refine am_Rq.blk (is := [(.iload 4, 2), (.iload_n 3, 1), (.bipush 60, 2)]) (q := (31, [some (.ref 2), some (.int (nI k)), some (.int (nI n)), some (.int (nI cl)), some (.int (nI ln)), none, none], [.int (nI 60), .int (nI cl), .int (nI ln)])) (by decide +kernel) rfl ?_
  dsimp only
  refine am_Rq.callS (show decode (am_by 38) 31 = .ok (.invokestatic 30, 3) by decide +kernel) rfl [.int (nI ln), .int (nI cl), .int (nI 60)] [] rfl rfl (Nat.le_of_ble_eq_true rfl) rfl rfl (c_within (nI ln) (nI cl) (nI 60)) ?_
  rintro hq _ ⟨e1, rfl⟩
  rw [e1]
  clear e1 hq
  show am_Rq _ 38 34 [some (.ref 2), some (.int (nI k)), some (.int (nI n)), some (.int (nI cl)), some (.int (nI ln)), none, none] [.int (nI (am_b (rg_r (nI cl) (nI 60) (nI ln))))] _ _
  refine am_Rq.if1F (show decode (am_by 38) 34 = .ok (.ifCond .eq 7, 3) by decide +kernel) (by decide) (by rw [am_b_eq, rg_le l1 l2 (by omega)]; rfl) ?_
  refine am_Rq.blk (is := [(.iconst 1, 1), (.goto 4, 3)]) (q := (42, [some (.ref 2), some (.int (nI k)), some (.int (nI n)), some (.int (nI cl)), some (.int (nI ln)), none, none], [.int (nI 1)])) (by decide +kernel) rfl ?_
  dsimp only
  refine am_Rq.blk (is := [(.istore 5, 2), (.iload 5, 2)]) (q := (46, [some (.ref 2), some (.int (nI k)), some (.int (nI n)), some (.int (nI cl)), some (.int (nI ln)), some (.int (nI 1)), none], [.int (nI 1)])) (by decide +kernel) rfl ?_
  dsimp only
  refine am_Rq.if1T (t := 57) (show decode (am_by 38) 46 = .ok (.ifCond .ne 11, 3) by decide +kernel) (by decide) (rfl) ?_
  refine am_Rq.blk (is := [(.aload_n 0, 1)]) (q := (58, [some (.ref 2), some (.int (nI k)), some (.int (nI n)), some (.int (nI cl)), some (.int (nI ln)), some (.int (nI 1)), none], [.ref 2])) (by decide +kernel) rfl ?_
  dsimp only
  refine am_Rq.getf (v := .ref 3) (show decode (am_by 38) 58 = .ok (.getfield 12, 3) by decide +kernel) rfl hO rfl ?_
  refine am_Rq.getf (v := .int (nI (t 82))) (show decode (am_by 38) 61 = .ok (.getfield 97, 3) by decide +kernel) rfl (Led.lg h) rfl ?_
  refine am_Rq.blk (is := [(.istore 6, 2), (.iload 6, 2), (.bipush 10, 2)]) (q := (70, [some (.ref 2), some (.int (nI k)), some (.int (nI n)), some (.int (nI cl)), some (.int (nI ln)), some (.int (nI 1)), some (.int (nI (t 82)))], [.int (nI 10), .int (nI (t 82))])) (by decide +kernel) rfl ?_
  dsimp only
  refine am_Rq.if2F (show decode (am_by 38) 70 = .ok (.if_icmp .ge 22, 3) by decide +kernel) (by decide) (by rw [nm_ge (by omega) (by omega)]; exact decide_eq_false (by omega)) ?_
  refine am_Rq.blk (is := [(.iload_n 2, 1), (.aload_n 0, 1)]) (q := (75, [some (.ref 2), some (.int (nI k)), some (.int (nI n)), some (.int (nI cl)), some (.int (nI ln)), some (.int (nI 1)), some (.int (nI (t 82)))], [.ref 2, .int (nI n)])) (by decide +kernel) rfl ?_
  dsimp only
  refine am_Rq.getf (v := .ref 3) (show decode (am_by 38) 75 = .ok (.getfield 12, 3) by decide +kernel) rfl hO rfl ?_
  refine am_Rq.getf (v := .int (nI (t 80))) (show decode (am_by 38) 78 = .ok (.getfield 94, 3) by decide +kernel) rfl (Led.lg h) rfl ?_
  refine am_Rq.blk (is := [(.aload_n 0, 1)]) (q := (82, [some (.ref 2), some (.int (nI k)), some (.int (nI n)), some (.int (nI cl)), some (.int (nI ln)), some (.int (nI 1)), some (.int (nI (t 82)))], [.ref 2, .int (nI (t 80)), .int (nI n)])) (by decide +kernel) rfl ?_
  dsimp only
  refine am_Rq.getf (v := .ref 3) (show decode (am_by 38) 82 = .ok (.getfield 12, 3) by decide +kernel) rfl hO rfl ?_
  refine am_Rq.callV (show decode (am_by 38) 85 = .ok (.invokevirtual 90, 3) by decide +kernel) rfl [] [.int (nI (t 80)), .int (nI n)] rfl rfl (Nat.le_of_ble_eq_true rfl) rfl (Led.lg h) rfl (c_allGr h ok (by omega)) ?_
  rintro hq _ ⟨e1, rfl⟩
  rw [e1]
  clear e1 hq
  show am_Rq _ 38 88 [some (.ref 2), some (.int (nI k)), some (.int (nI n)), some (.int (nI cl)), some (.int (nI ln)), some (.int (nI 1)), some (.int (nI (t 82)))] [.int (nI (sp_sm (fun g => t (83 + 7 * g + 1)) (t 82))), .int (nI (t 80)), .int (nI n)] _ _
  refine am_Rq.blk (is := [(.isub, 1)]) (q := (89, [some (.ref 2), some (.int (nI k)), some (.int (nI n)), some (.int (nI cl)), some (.int (nI ln)), some (.int (nI 1)), some (.int (nI (t 82)))], [.int ((nI (t 80)) - (nI (sp_sm (fun g => t (83 + 7 * g + 1)) (t 82)))), .int (nI n)])) (by decide +kernel) rfl ?_
  dsimp only
  refine am_Rq.if2T (t := 100) (show decode (am_by 38) 89 = .ok (.if_icmp .le 11, 3) by decide +kernel) (by decide) (by exact decide_eq_true (by rw [← Int32.not_lt, nm_subLt (by omega) hg2 (by omega)]; omega)) ?_
  refine am_Rq.blk (is := [(.aload_n 0, 1)]) (q := (101, [some (.ref 2), some (.int (nI k)), some (.int (nI n)), some (.int (nI cl)), some (.int (nI ln)), some (.int (nI 1)), some (.int (nI (t 82)))], [.ref 2])) (by decide +kernel) rfl ?_
  dsimp only
  refine am_Rq.getf (v := .ref 26) (show decode (am_by 38) 101 = .ok (.getfield 19, 3) by decide +kernel) rfl hO rfl ?_
  refine am_Rq.blk (is := [(.aload_n 0, 1)]) (q := (105, [some (.ref 2), some (.int (nI k)), some (.int (nI n)), some (.int (nI cl)), some (.int (nI ln)), some (.int (nI 1)), some (.int (nI (t 82)))], [.ref 2, .ref 26])) (by decide +kernel) rfl ?_
  dsimp only
  refine am_Rq.getf (v := .ref 3) (show decode (am_by 38) 105 = .ok (.getfield 12, 3) by decide +kernel) rfl hO rfl ?_
  refine am_Rq.callV (show decode (am_by 38) 108 = .ok (.invokevirtual 44, 3) by decide +kernel) rfl [.ref 3] [] rfl rfl (Nat.le_of_ble_eq_true rfl) rfl hH.2.2.2.1 rfl (c_keep h hH (by omega) ok.e) ?_
  rintro hp1 _ ⟨rfl, hL1, hH1, hf1⟩
  have hc1_2 := (hf1.2.2 2 (fun q => by have := q.1; omega)).trans hO
  show am_Rq _ 38 111 [some (.ref 2), some (.int (nI k)), some (.int (nI n)), some (.int (nI cl)), some (.int (nI ln)), some (.int (nI 1)), some (.int (nI (t 82)))] [] _ _
  refine am_Rq.blk (is := [(.aload_n 0, 1)]) (q := (112, [some (.ref 2), some (.int (nI k)), some (.int (nI n)), some (.int (nI cl)), some (.int (nI ln)), some (.int (nI 1)), some (.int (nI (t 82)))], [.ref 2])) (by decide +kernel) rfl ?_
  dsimp only
  refine am_Rq.getf (v := .ref 3) (show decode (am_by 38) 112 = .ok (.getfield 12, 3) by decide +kernel) rfl hc1_2 rfl ?_
  refine am_Rq.blk (is := [(.iload 6, 2), (.iconst 1, 1), (.iadd, 1)]) (q := (119, [some (.ref 2), some (.int (nI k)), some (.int (nI n)), some (.int (nI cl)), some (.int (nI ln)), some (.int (nI 1)), some (.int (nI (t 82)))], [.int ((nI (t 82)) + (nI 1)), .ref 3])) (by decide +kernel) rfl ?_
  dsimp only
  rw [show (nI (t 82)) + (nI 1) = nI ((t 82) + 1) from nI_add _ _]
  refine Led.pLg (k := 3) (p := 82) (v := (t 82) + 1) hL1 (show decode (am_by 38) 119 = .ok (.putfield 97, 3) by decide +kernel) rfl (by decide) (by first | rfl | exact rfl) rfl ?_
  intro hp2 hL2 hf2
  have hc2_2 := (hf2.2.2 (2) (fun q => by obtain ⟨_, _⟩ := q; omega)).trans hc1_2
  refine am_Rq.blk (is := [(.aload_n 0, 1)]) (q := (123, [some (.ref 2), some (.int (nI k)), some (.int (nI n)), some (.int (nI cl)), some (.int (nI ln)), some (.int (nI 1)), some (.int (nI (t 82)))], [.ref 2])) (by decide +kernel) rfl ?_
  dsimp only
  refine am_Rq.getf (v := .ref 3) (show decode (am_by 38) 123 = .ok (.getfield 12, 3) by decide +kernel) rfl hc2_2 rfl ?_
  refine am_Rq.getf (v := .ref (3 + 12)) (show decode (am_by 38) 126 = .ok (.getfield 100, 3) by decide +kernel) rfl (Led.lg hL2) rfl ?_
  refine am_Rq.blk (is := [(.iload 6, 2)]) (q := (131, [some (.ref 2), some (.int (nI k)), some (.int (nI n)), some (.int (nI cl)), some (.int (nI ln)), some (.int (nI 1)), some (.int (nI (t 82)))], [.int (nI (t 82)), .ref (3 + 12)])) (by decide +kernel) rfl ?_
  dsimp only
  refine am_Rq.ral (k := t 82) (show decode (am_by 38) 131 = .ok (.aaload, 1) by decide +kernel) (Led.ga hL2) rfl (by omega) (by omega) ?_
  refine am_Rq.blk (is := [(.iload_n 1, 1), (.iload_n 2, 1), (.aload_n 0, 1)]) (q := (135, [some (.ref 2), some (.int (nI k)), some (.int (nI n)), some (.int (nI cl)), some (.int (nI ln)), some (.int (nI 1)), some (.int (nI (t 82)))], [.ref 2, .int (nI n), .int (nI k), .ref (3 + 13 + 1 * (t 82))])) (by decide +kernel) rfl ?_
  dsimp only
  refine am_Rq.getf (v := .ref 3) (show decode (am_by 38) 135 = .ok (.getfield 12, 3) by decide +kernel) rfl hc2_2 rfl ?_
  refine am_Rq.getf (v := .int (nI ((va_up t (82) ((t 82) + 1)) 81))) (show decode (am_by 38) 138 = .ok (.getfield 104, 3) by decide +kernel) rfl (Led.lg hL2) rfl ?_
  refine am_Rq.blk (is := [(.iload_n 3, 1), (.iload 4, 2)]) (q := (144, [some (.ref 2), some (.int (nI k)), some (.int (nI n)), some (.int (nI cl)), some (.int (nI ln)), some (.int (nI 1)), some (.int (nI (t 82)))], [.int (nI ln), .int (nI cl), .int (nI ((va_up t (82) ((t 82) + 1)) 81)), .int (nI n), .int (nI k), .ref (3 + 13 + 1 * (t 82))])) (by decide +kernel) rfl ?_
  dsimp only
  rw [va_up_ne _ _ (show 81 ≠ 82 by omega)]
  refine am_Rq.callV (show decode (am_by 38) 144 = .ok (.invokevirtual 107, 3) by decide +kernel) rfl [.int (nI k), .int (nI n), .int (nI (t 81)), .int (nI cl), .int (nI ln)] [] rfl rfl (Nat.le_of_ble_eq_true rfl) rfl (Led.gr hL2 (by omega)) rfl (c_start hL2 (by omega)) ?_
  rintro hp3 _ ⟨rfl, hL3, hf3⟩
  have hc3_2 := (hf3.2.2 (2) (fun q => by obtain ⟨_, _⟩ := q; omega)).trans hc2_2
  show am_Rq _ 38 147 [some (.ref 2), some (.int (nI k)), some (.int (nI n)), some (.int (nI cl)), some (.int (nI ln)), some (.int (nI 1)), some (.int (nI (t 82)))] [] _ _
  refine am_Rq.blk (is := [(.iload 6, 2)]) (q := (149, [some (.ref 2), some (.int (nI k)), some (.int (nI n)), some (.int (nI cl)), some (.int (nI ln)), some (.int (nI 1)), some (.int (nI (t 82)))], [.int (nI (t 82))])) (by decide +kernel) rfl ?_
  dsimp only
  refine am_Rq.ret (v := some (.int (nI (t 82)))) (show decode (am_by 38) 149 = .ok (.ireturn, 1) by decide +kernel) rfl rfl ?_
  exact ⟨_, rfl, rfl, hL3, c_H.kept hH1 (fun a ha => (hf2.trans hf3).2.2 a (fun q => by obtain ⟨_, _⟩ := q; obtain ⟨_, _⟩ := ha; omega)), (((hf1.mono (fun a q => by obtain ⟨_, _⟩ := q; exact ⟨by omega, by omega⟩)).trans (hf2.mono (fun a q => by obtain ⟨_, _⟩ := q; exact ⟨by omega, by omega⟩))).trans (hf3.mono (fun a q => by obtain ⟨_, _⟩ := q; exact ⟨by omega, by omega⟩)))⟩
theorem c_grant_no3 (hO : hp[2]? = some (0, [.ref 3, .ref 26, .ref 212])) {t : Nat → Nat} (h : Led hp 3 t) {K : Nat} (ok : c_ok K t) (hK : K ≤ 900) (h4 : 4 ≤ d) {k n cl ln : Nat} (hk : k < 8) (n1 : 1 ≤ n) (n2 : n ≤ 2000) (c2 : cl ≤ 60) (l1 : cl ≤ ln) (l2 : ln ≤ 60) (hg2 : sp_sm (fun g => t (83 + 7 * g + 1)) (t 82) < 2 ^ 31) (hg : t 82 = 10) : am_Rq (d + 3) 38 0 (am_en [.ref 2, .int (nI k), .int (nI n), .int (nI cl), .int (nI ln)] 7) [] hp (c_No 1 hp) := by
  show am_Rq _ 38 0 [some (.ref 2), some (.int (nI k)), some (.int (nI n)), some (.int (nI cl)), some (.int (nI ln)), none, none] [] _ _
  have hB := ok.b (by omega)
  have h82 := ok.2.2.2.2.1
  have h80 := ok.2.2.1
  refine am_Rq.blk (is := [(.aload_n 0, 1), (.iload_n 1, 1)]) (q := (2, [some (.ref 2), some (.int (nI k)), some (.int (nI n)), some (.int (nI cl)), some (.int (nI ln)), none, none], [.int (nI k), .ref 2])) (by decide +kernel) rfl ?_
  dsimp only
  refine am_Rq.callV (show decode (am_by 38) 2 = .ok (.invokevirtual 62, 3) by decide +kernel) rfl [.int (nI k)] [] rfl rfl (Nat.le_of_ble_eq_true rfl) rfl hO rfl (c_requireHolder (rg_le (by omega) (show k ≤ 7 by omega) (by omega)) (by omega)) ?_
  rintro hq _ ⟨e1, rfl⟩
  rw [e1]
  clear e1 hq
  show am_Rq _ 38 5 [some (.ref 2), some (.int (nI k)), some (.int (nI n)), some (.int (nI cl)), some (.int (nI ln)), none, none] [] _ _
  refine am_Rq.blk (is := [(.iload_n 2, 1), (.iconst 1, 1), (.sipush 2000, 3)]) (q := (10, [some (.ref 2), some (.int (nI k)), some (.int (nI n)), some (.int (nI cl)), some (.int (nI ln)), none, none], [.int (nI 2000), .int (nI 1), .int (nI n)])) (by decide +kernel) rfl ?_
  dsimp only
  refine am_Rq.callS (show decode (am_by 38) 10 = .ok (.invokestatic 30, 3) by decide +kernel) rfl [.int (nI n), .int (nI 1), .int (nI 2000)] [] rfl rfl (Nat.le_of_ble_eq_true rfl) rfl rfl (c_within (nI n) (nI 1) (nI 2000)) ?_
  rintro hq _ ⟨e1, rfl⟩
  rw [e1]
  clear e1 hq
  show am_Rq _ 38 13 [some (.ref 2), some (.int (nI k)), some (.int (nI n)), some (.int (nI cl)), some (.int (nI ln)), none, none] [.int (nI (am_b (rg_r (nI 1) (nI 2000) (nI n))))] _ _
  refine am_Rq.if1F (show decode (am_by 38) 13 = .ok (.ifCond .eq 28, 3) by decide +kernel) (by decide) (by rw [am_b_eq, rg_le n1 n2 (by omega)]; rfl) ?_
  refine am_Rq.blk (is := [(.iload_n 3, 1), (.iconst 0, 1), (.bipush 60, 2)]) (q := (20, [some (.ref 2), some (.int (nI k)), some (.int (nI n)), some (.int (nI cl)), some (.int (nI ln)), none, none], [.int (nI 60), .int (nI 0), .int (nI cl)])) (by decide +kernel) rfl ?_
  dsimp only
  refine am_Rq.callS (show decode (am_by 38) 20 = .ok (.invokestatic 30, 3) by decide +kernel) rfl [.int (nI cl), .int (nI 0), .int (nI 60)] [] rfl rfl (Nat.le_of_ble_eq_true rfl) rfl rfl (c_within (nI cl) (nI 0) (nI 60)) ?_
  rintro hq _ ⟨e1, rfl⟩
  rw [e1]
  clear e1 hq
  show am_Rq _ 38 23 [some (.ref 2), some (.int (nI k)), some (.int (nI n)), some (.int (nI cl)), some (.int (nI ln)), none, none] [.int (nI (am_b (rg_r (nI 0) (nI 60) (nI cl))))] _ _
  refine am_Rq.if1F (show decode (am_by 38) 23 = .ok (.ifCond .eq 18, 3) by decide +kernel) (by decide) (by rw [am_b_eq, rg_le (by omega) c2 (by omega)]; rfl) ?_
  refine am_Rq.blk (is := [(.iload 4, 2), (.iload_n 3, 1), (.bipush 60, 2)]) (q := (31, [some (.ref 2), some (.int (nI k)), some (.int (nI n)), some (.int (nI cl)), some (.int (nI ln)), none, none], [.int (nI 60), .int (nI cl), .int (nI ln)])) (by decide +kernel) rfl ?_
  dsimp only
  refine am_Rq.callS (show decode (am_by 38) 31 = .ok (.invokestatic 30, 3) by decide +kernel) rfl [.int (nI ln), .int (nI cl), .int (nI 60)] [] rfl rfl (Nat.le_of_ble_eq_true rfl) rfl rfl (c_within (nI ln) (nI cl) (nI 60)) ?_
  rintro hq _ ⟨e1, rfl⟩
  rw [e1]
  clear e1 hq
  show am_Rq _ 38 34 [some (.ref 2), some (.int (nI k)), some (.int (nI n)), some (.int (nI cl)), some (.int (nI ln)), none, none] [.int (nI (am_b (rg_r (nI cl) (nI 60) (nI ln))))] _ _
  refine am_Rq.if1F (show decode (am_by 38) 34 = .ok (.ifCond .eq 7, 3) by decide +kernel) (by decide) (by rw [am_b_eq, rg_le l1 l2 (by omega)]; rfl) ?_
  refine am_Rq.blk (is := [(.iconst 1, 1), (.goto 4, 3)]) (q := (42, [some (.ref 2), some (.int (nI k)), some (.int (nI n)), some (.int (nI cl)), some (.int (nI ln)), none, none], [.int (nI 1)])) (by decide +kernel) rfl ?_
  dsimp only
  refine am_Rq.blk (is := [(.istore 5, 2), (.iload 5, 2)]) (q := (46, [some (.ref 2), some (.int (nI k)), some (.int (nI n)), some (.int (nI cl)), some (.int (nI ln)), some (.int (nI 1)), none], [.int (nI 1)])) (by decide +kernel) rfl ?_
  dsimp only
  refine am_Rq.if1T (t := 57) (show decode (am_by 38) 46 = .ok (.ifCond .ne 11, 3) by decide +kernel) (by decide) (rfl) ?_
  refine am_Rq.blk (is := [(.aload_n 0, 1)]) (q := (58, [some (.ref 2), some (.int (nI k)), some (.int (nI n)), some (.int (nI cl)), some (.int (nI ln)), some (.int (nI 1)), none], [.ref 2])) (by decide +kernel) rfl ?_
  dsimp only
  refine am_Rq.getf (v := .ref 3) (show decode (am_by 38) 58 = .ok (.getfield 12, 3) by decide +kernel) rfl hO rfl ?_
  refine am_Rq.getf (v := .int (nI (t 82))) (show decode (am_by 38) 61 = .ok (.getfield 97, 3) by decide +kernel) rfl (Led.lg h) rfl ?_
  refine am_Rq.blk (is := [(.istore 6, 2), (.iload 6, 2), (.bipush 10, 2)]) (q := (70, [some (.ref 2), some (.int (nI k)), some (.int (nI n)), some (.int (nI cl)), some (.int (nI ln)), some (.int (nI 1)), some (.int (nI (t 82)))], [.int (nI 10), .int (nI (t 82))])) (by decide +kernel) rfl ?_
  dsimp only
  refine am_Rq.if2T (t := 92) (show decode (am_by 38) 70 = .ok (.if_icmp .ge 22, 3) by decide +kernel) (by decide) (by rw [nm_ge (by omega) (by omega)]; exact decide_eq_true (by omega)) ?_
  refine am_Rq.thrN (k := 1) (ic := 43) (show decode (am_by 38) 92 = .ok (.new 41, 3) by decide +kernel) rfl (by omega) rfl (show decode (am_by 38) 95 = .ok (.dup, 1) by decide +kernel) (show decode (am_by 38) 96 = .ok (.invokespecial 43, 3) by decide +kernel) (show decode (am_by 38) 99 = .ok (.athrow, 1) by decide +kernel) ?_
  exact ⟨rfl, rfl⟩
theorem c_grant_no4 (hO : hp[2]? = some (0, [.ref 3, .ref 26, .ref 212])) {t : Nat → Nat} (h : Led hp 3 t) {K : Nat} (ok : c_ok K t) (hK : K ≤ 900) (h4 : 4 ≤ d) {k n cl ln : Nat} (hk : k < 8) (n1 : 1 ≤ n) (n2 : n ≤ 2000) (c2 : cl ≤ 60) (l1 : cl ≤ ln) (l2 : ln ≤ 60) (hg2 : sp_sm (fun g => t (83 + 7 * g + 1)) (t 82) < 2 ^ 31) (hg : t 82 < 10) (ho : t 80 < sp_sm (fun g => t (83 + 7 * g + 1)) (t 82) + n) : am_Rq (d + 3) 38 0 (am_en [.ref 2, .int (nI k), .int (nI n), .int (nI cl), .int (nI ln)] 7) [] hp (c_No 1 hp) := by
  show am_Rq _ 38 0 [some (.ref 2), some (.int (nI k)), some (.int (nI n)), some (.int (nI cl)), some (.int (nI ln)), none, none] [] _ _
  have hB := ok.b (by omega)
  have h82 := ok.2.2.2.2.1
  have h80 := ok.2.2.1
  refine am_Rq.blk (is := [(.aload_n 0, 1), (.iload_n 1, 1)]) (q := (2, [some (.ref 2), some (.int (nI k)), some (.int (nI n)), some (.int (nI cl)), some (.int (nI ln)), none, none], [.int (nI k), .ref 2])) (by decide +kernel) rfl ?_
  dsimp only
  refine am_Rq.callV (show decode (am_by 38) 2 = .ok (.invokevirtual 62, 3) by decide +kernel) rfl [.int (nI k)] [] rfl rfl (Nat.le_of_ble_eq_true rfl) rfl hO rfl (c_requireHolder (rg_le (by omega) (show k ≤ 7 by omega) (by omega)) (by omega)) ?_
  rintro hq _ ⟨e1, rfl⟩
  rw [e1]
  clear e1 hq
  show am_Rq _ 38 5 [some (.ref 2), some (.int (nI k)), some (.int (nI n)), some (.int (nI cl)), some (.int (nI ln)), none, none] [] _ _
  refine am_Rq.blk (is := [(.iload_n 2, 1), (.iconst 1, 1), (.sipush 2000, 3)]) (q := (10, [some (.ref 2), some (.int (nI k)), some (.int (nI n)), some (.int (nI cl)), some (.int (nI ln)), none, none], [.int (nI 2000), .int (nI 1), .int (nI n)])) (by decide +kernel) rfl ?_
  dsimp only
  refine am_Rq.callS (show decode (am_by 38) 10 = .ok (.invokestatic 30, 3) by decide +kernel) rfl [.int (nI n), .int (nI 1), .int (nI 2000)] [] rfl rfl (Nat.le_of_ble_eq_true rfl) rfl rfl (c_within (nI n) (nI 1) (nI 2000)) ?_
  rintro hq _ ⟨e1, rfl⟩
  rw [e1]
  clear e1 hq
  show am_Rq _ 38 13 [some (.ref 2), some (.int (nI k)), some (.int (nI n)), some (.int (nI cl)), some (.int (nI ln)), none, none] [.int (nI (am_b (rg_r (nI 1) (nI 2000) (nI n))))] _ _
  refine am_Rq.if1F (show decode (am_by 38) 13 = .ok (.ifCond .eq 28, 3) by decide +kernel) (by decide) (by rw [am_b_eq, rg_le n1 n2 (by omega)]; rfl) ?_
  refine am_Rq.blk (is := [(.iload_n 3, 1), (.iconst 0, 1), (.bipush 60, 2)]) (q := (20, [some (.ref 2), some (.int (nI k)), some (.int (nI n)), some (.int (nI cl)), some (.int (nI ln)), none, none], [.int (nI 60), .int (nI 0), .int (nI cl)])) (by decide +kernel) rfl ?_
  dsimp only
  refine am_Rq.callS (show decode (am_by 38) 20 = .ok (.invokestatic 30, 3) by decide +kernel) rfl [.int (nI cl), .int (nI 0), .int (nI 60)] [] rfl rfl (Nat.le_of_ble_eq_true rfl) rfl rfl (c_within (nI cl) (nI 0) (nI 60)) ?_
  rintro hq _ ⟨e1, rfl⟩
  rw [e1]
  clear e1 hq
  show am_Rq _ 38 23 [some (.ref 2), some (.int (nI k)), some (.int (nI n)), some (.int (nI cl)), some (.int (nI ln)), none, none] [.int (nI (am_b (rg_r (nI 0) (nI 60) (nI cl))))] _ _
  refine am_Rq.if1F (show decode (am_by 38) 23 = .ok (.ifCond .eq 18, 3) by decide +kernel) (by decide) (by rw [am_b_eq, rg_le (by omega) c2 (by omega)]; rfl) ?_
  refine am_Rq.blk (is := [(.iload 4, 2), (.iload_n 3, 1), (.bipush 60, 2)]) (q := (31, [some (.ref 2), some (.int (nI k)), some (.int (nI n)), some (.int (nI cl)), some (.int (nI ln)), none, none], [.int (nI 60), .int (nI cl), .int (nI ln)])) (by decide +kernel) rfl ?_
  dsimp only
  refine am_Rq.callS (show decode (am_by 38) 31 = .ok (.invokestatic 30, 3) by decide +kernel) rfl [.int (nI ln), .int (nI cl), .int (nI 60)] [] rfl rfl (Nat.le_of_ble_eq_true rfl) rfl rfl (c_within (nI ln) (nI cl) (nI 60)) ?_
  rintro hq _ ⟨e1, rfl⟩
  rw [e1]
  clear e1 hq
  show am_Rq _ 38 34 [some (.ref 2), some (.int (nI k)), some (.int (nI n)), some (.int (nI cl)), some (.int (nI ln)), none, none] [.int (nI (am_b (rg_r (nI cl) (nI 60) (nI ln))))] _ _
  refine am_Rq.if1F (show decode (am_by 38) 34 = .ok (.ifCond .eq 7, 3) by decide +kernel) (by decide) (by rw [am_b_eq, rg_le l1 l2 (by omega)]; rfl) ?_
  refine am_Rq.blk (is := [(.iconst 1, 1), (.goto 4, 3)]) (q := (42, [some (.ref 2), some (.int (nI k)), some (.int (nI n)), some (.int (nI cl)), some (.int (nI ln)), none, none], [.int (nI 1)])) (by decide +kernel) rfl ?_
  dsimp only
  refine am_Rq.blk (is := [(.istore 5, 2), (.iload 5, 2)]) (q := (46, [some (.ref 2), some (.int (nI k)), some (.int (nI n)), some (.int (nI cl)), some (.int (nI ln)), some (.int (nI 1)), none], [.int (nI 1)])) (by decide +kernel) rfl ?_
  dsimp only
  refine am_Rq.if1T (t := 57) (show decode (am_by 38) 46 = .ok (.ifCond .ne 11, 3) by decide +kernel) (by decide) (rfl) ?_
  refine am_Rq.blk (is := [(.aload_n 0, 1)]) (q := (58, [some (.ref 2), some (.int (nI k)), some (.int (nI n)), some (.int (nI cl)), some (.int (nI ln)), some (.int (nI 1)), none], [.ref 2])) (by decide +kernel) rfl ?_
  dsimp only
  refine am_Rq.getf (v := .ref 3) (show decode (am_by 38) 58 = .ok (.getfield 12, 3) by decide +kernel) rfl hO rfl ?_
  refine am_Rq.getf (v := .int (nI (t 82))) (show decode (am_by 38) 61 = .ok (.getfield 97, 3) by decide +kernel) rfl (Led.lg h) rfl ?_
  refine am_Rq.blk (is := [(.istore 6, 2), (.iload 6, 2), (.bipush 10, 2)]) (q := (70, [some (.ref 2), some (.int (nI k)), some (.int (nI n)), some (.int (nI cl)), some (.int (nI ln)), some (.int (nI 1)), some (.int (nI (t 82)))], [.int (nI 10), .int (nI (t 82))])) (by decide +kernel) rfl ?_
  dsimp only
  refine am_Rq.if2F (show decode (am_by 38) 70 = .ok (.if_icmp .ge 22, 3) by decide +kernel) (by decide) (by rw [nm_ge (by omega) (by omega)]; exact decide_eq_false (by omega)) ?_
  refine am_Rq.blk (is := [(.iload_n 2, 1), (.aload_n 0, 1)]) (q := (75, [some (.ref 2), some (.int (nI k)), some (.int (nI n)), some (.int (nI cl)), some (.int (nI ln)), some (.int (nI 1)), some (.int (nI (t 82)))], [.ref 2, .int (nI n)])) (by decide +kernel) rfl ?_
  dsimp only
  refine am_Rq.getf (v := .ref 3) (show decode (am_by 38) 75 = .ok (.getfield 12, 3) by decide +kernel) rfl hO rfl ?_
  refine am_Rq.getf (v := .int (nI (t 80))) (show decode (am_by 38) 78 = .ok (.getfield 94, 3) by decide +kernel) rfl (Led.lg h) rfl ?_
  refine am_Rq.blk (is := [(.aload_n 0, 1)]) (q := (82, [some (.ref 2), some (.int (nI k)), some (.int (nI n)), some (.int (nI cl)), some (.int (nI ln)), some (.int (nI 1)), some (.int (nI (t 82)))], [.ref 2, .int (nI (t 80)), .int (nI n)])) (by decide +kernel) rfl ?_
  dsimp only
  refine am_Rq.getf (v := .ref 3) (show decode (am_by 38) 82 = .ok (.getfield 12, 3) by decide +kernel) rfl hO rfl ?_
  refine am_Rq.callV (show decode (am_by 38) 85 = .ok (.invokevirtual 90, 3) by decide +kernel) rfl [] [.int (nI (t 80)), .int (nI n)] rfl rfl (Nat.le_of_ble_eq_true rfl) rfl (Led.lg h) rfl (c_allGr h ok (by omega)) ?_
  rintro hq _ ⟨e1, rfl⟩
  rw [e1]
  clear e1 hq
  show am_Rq _ 38 88 [some (.ref 2), some (.int (nI k)), some (.int (nI n)), some (.int (nI cl)), some (.int (nI ln)), some (.int (nI 1)), some (.int (nI (t 82)))] [.int (nI (sp_sm (fun g => t (83 + 7 * g + 1)) (t 82))), .int (nI (t 80)), .int (nI n)] _ _
  refine am_Rq.blk (is := [(.isub, 1)]) (q := (89, [some (.ref 2), some (.int (nI k)), some (.int (nI n)), some (.int (nI cl)), some (.int (nI ln)), some (.int (nI 1)), some (.int (nI (t 82)))], [.int ((nI (t 80)) - (nI (sp_sm (fun g => t (83 + 7 * g + 1)) (t 82)))), .int (nI n)])) (by decide +kernel) rfl ?_
  dsimp only
  refine am_Rq.if2F (show decode (am_by 38) 89 = .ok (.if_icmp .le 11, 3) by decide +kernel) (by decide) (by exact decide_eq_false (by rw [Int32.not_le, nm_subLt (by omega) hg2 (by omega)]; exact ho)) ?_
  refine am_Rq.thrN (k := 1) (ic := 43) (show decode (am_by 38) 92 = .ok (.new 41, 3) by decide +kernel) rfl (by omega) rfl (show decode (am_by 38) 95 = .ok (.dup, 1) by decide +kernel) (show decode (am_by 38) 96 = .ok (.invokespecial 43, 3) by decide +kernel) (show decode (am_by 38) 99 = .ok (.athrow, 1) by decide +kernel) ?_
  exact ⟨rfl, rfl⟩
theorem c_grant_no1 (hO : hp[2]? = some (0, [.ref 3, .ref 26, .ref 212])) {t : Nat → Nat} (h : Led hp 3 t) {K : Nat} (ok : c_ok K t) (hK : K ≤ 900) (h4 : 4 ≤ d) {x y u z : Int32} (hx : rg_r (nI 0) (nI 7) x = false) : am_Rq (d + 3) 38 0 (am_en [.ref 2, .int x, .int y, .int u, .int z] 7) [] hp (c_No 2 hp) := by
  show am_Rq _ 38 0 [some (.ref 2), some (.int x), some (.int y), some (.int u), some (.int z), none, none] [] _ _
  have hB := ok.b (by omega)
  refine am_Rq.blk (is := [(.aload_n 0, 1), (.iload_n 1, 1)]) (q := (2, [some (.ref 2), some (.int x), some (.int y), some (.int u), some (.int z), none, none], [.int x, .ref 2])) (by decide +kernel) rfl ?_
  dsimp only
  exact am_Rq.callNo (show decode (am_by 38) 2 = .ok (.invokevirtual 62, 3) by decide +kernel) rfl [.int x] [] rfl rfl (Nat.le_of_ble_eq_true rfl) rfl hO rfl rfl (c_requireHolder_no (hx) (by omega)) ⟨rfl, rfl⟩
theorem c_grant_no2 (hO : hp[2]? = some (0, [.ref 3, .ref 26, .ref 212])) {t : Nat → Nat} (h : Led hp 3 t) {K : Nat} (ok : c_ok K t) (hK : K ≤ 900) (h4 : 4 ≤ d) {k : Nat} (hk : k < 8) {y u z : Int32} (hx : (rg_r (nI 1) (nI 2000) y && (rg_r (nI 0) (nI 60) u && rg_r u (nI 60) z)) = false) : am_Rq (d + 3) 38 0 (am_en [.ref 2, .int (nI k), .int y, .int u, .int z] 7) [] hp (c_No 0 hp) := by
  show am_Rq _ 38 0 [some (.ref 2), some (.int (nI k)), some (.int y), some (.int u), some (.int z), none, none] [] _ _
  have hB := ok.b (by omega)
  refine am_Rq.blk (is := [(.aload_n 0, 1), (.iload_n 1, 1)]) (q := (2, [some (.ref 2), some (.int (nI k)), some (.int y), some (.int u), some (.int z), none, none], [.int (nI k), .ref 2])) (by decide +kernel) rfl ?_
  dsimp only
  refine am_Rq.callV (show decode (am_by 38) 2 = .ok (.invokevirtual 62, 3) by decide +kernel) rfl [.int (nI k)] [] rfl rfl (Nat.le_of_ble_eq_true rfl) rfl hO rfl (c_requireHolder (rg_le (by omega) (show k ≤ 7 by omega) (by omega)) (by omega)) ?_
  rintro hq _ ⟨e1, rfl⟩
  rw [e1]
  clear e1 hq
  show am_Rq _ 38 5 [some (.ref 2), some (.int (nI k)), some (.int y), some (.int u), some (.int z), none, none] [] _ _
  refine am_Rq.blk (is := [(.iload_n 2, 1), (.iconst 1, 1), (.sipush 2000, 3)]) (q := (10, [some (.ref 2), some (.int (nI k)), some (.int y), some (.int u), some (.int z), none, none], [.int (nI 2000), .int (nI 1), .int y])) (by decide +kernel) rfl ?_
  dsimp only
  refine am_Rq.callS (show decode (am_by 38) 10 = .ok (.invokestatic 30, 3) by decide +kernel) rfl [.int y, .int (nI 1), .int (nI 2000)] [] rfl rfl (Nat.le_of_ble_eq_true rfl) rfl rfl (c_within (y) (nI 1) (nI 2000)) ?_
  rintro hq _ ⟨e1, rfl⟩
  rw [e1]
  clear e1 hq
  show am_Rq _ 38 13 [some (.ref 2), some (.int (nI k)), some (.int y), some (.int u), some (.int z), none, none] [.int (nI (am_b (rg_r (nI 1) (nI 2000) (y))))] _ _
  refine am_Rq.if1 (t := 41) (show decode (am_by 38) 13 = .ok (.ifCond .eq 28, 3) by decide +kernel) (by decide) (fun g0 => ?_) (fun g0 => ?_)
  ·
    refine am_Rq.blk (is := [(.iconst 0, 1), (.istore 5, 2), (.iload 5, 2)]) (q := (46, [some (.ref 2), some (.int (nI k)), some (.int y), some (.int u), some (.int z), some (.int (nI 0)), none], [.int (nI 0)])) (by decide +kernel) rfl ?_
    dsimp only
    refine am_Rq.if1F (show decode (am_by 38) 46 = .ok (.ifCond .ne 11, 3) by decide +kernel) (by decide) (rfl) ?_
    refine am_Rq.thrN (k := 0) (ic := 36) (show decode (am_by 38) 49 = .ok (.new 34, 3) by decide +kernel) rfl (by omega) rfl (show decode (am_by 38) 52 = .ok (.dup, 1) by decide +kernel) (show decode (am_by 38) 53 = .ok (.invokespecial 36, 3) by decide +kernel) (show decode (am_by 38) 56 = .ok (.athrow, 1) by decide +kernel) ?_
    exact ⟨rfl, rfl⟩
  ·
    rw [am_b_eq, Bool.not_eq_false'] at g0
    refine am_Rq.blk (is := [(.iload_n 3, 1), (.iconst 0, 1), (.bipush 60, 2)]) (q := (20, [some (.ref 2), some (.int (nI k)), some (.int y), some (.int u), some (.int z), none, none], [.int (nI 60), .int (nI 0), .int u])) (by decide +kernel) rfl ?_
    dsimp only
    refine am_Rq.callS (show decode (am_by 38) 20 = .ok (.invokestatic 30, 3) by decide +kernel) rfl [.int u, .int (nI 0), .int (nI 60)] [] rfl rfl (Nat.le_of_ble_eq_true rfl) rfl rfl (c_within (u) (nI 0) (nI 60)) ?_
    rintro hq _ ⟨e1, rfl⟩
    rw [e1]
    clear e1 hq
    show am_Rq _ 38 23 [some (.ref 2), some (.int (nI k)), some (.int y), some (.int u), some (.int z), none, none] [.int (nI (am_b (rg_r (nI 0) (nI 60) (u))))] _ _
    refine am_Rq.if1 (t := 41) (show decode (am_by 38) 23 = .ok (.ifCond .eq 18, 3) by decide +kernel) (by decide) (fun g1 => ?_) (fun g1 => ?_)
    ·
      refine am_Rq.blk (is := [(.iconst 0, 1), (.istore 5, 2), (.iload 5, 2)]) (q := (46, [some (.ref 2), some (.int (nI k)), some (.int y), some (.int u), some (.int z), some (.int (nI 0)), none], [.int (nI 0)])) (by decide +kernel) rfl ?_
      dsimp only
      refine am_Rq.if1F (show decode (am_by 38) 46 = .ok (.ifCond .ne 11, 3) by decide +kernel) (by decide) (rfl) ?_
      refine am_Rq.thrN (k := 0) (ic := 36) (show decode (am_by 38) 49 = .ok (.new 34, 3) by decide +kernel) rfl (by omega) rfl (show decode (am_by 38) 52 = .ok (.dup, 1) by decide +kernel) (show decode (am_by 38) 53 = .ok (.invokespecial 36, 3) by decide +kernel) (show decode (am_by 38) 56 = .ok (.athrow, 1) by decide +kernel) ?_
      exact ⟨rfl, rfl⟩
    ·
      rw [am_b_eq, Bool.not_eq_false'] at g1
      refine am_Rq.blk (is := [(.iload 4, 2), (.iload_n 3, 1), (.bipush 60, 2)]) (q := (31, [some (.ref 2), some (.int (nI k)), some (.int y), some (.int u), some (.int z), none, none], [.int (nI 60), .int u, .int z])) (by decide +kernel) rfl ?_
      dsimp only
      refine am_Rq.callS (show decode (am_by 38) 31 = .ok (.invokestatic 30, 3) by decide +kernel) rfl [.int z, .int u, .int (nI 60)] [] rfl rfl (Nat.le_of_ble_eq_true rfl) rfl rfl (c_within (z) (u) (nI 60)) ?_
      rintro hq _ ⟨e1, rfl⟩
      rw [e1]
      clear e1 hq
      show am_Rq _ 38 34 [some (.ref 2), some (.int (nI k)), some (.int y), some (.int u), some (.int z), none, none] [.int (nI (am_b (rg_r (u) (nI 60) (z))))] _ _
      refine am_Rq.if1 (t := 41) (show decode (am_by 38) 34 = .ok (.ifCond .eq 7, 3) by decide +kernel) (by decide) (fun g2 => ?_) (fun g2 => ?_)
      ·
        refine am_Rq.blk (is := [(.iconst 0, 1), (.istore 5, 2), (.iload 5, 2)]) (q := (46, [some (.ref 2), some (.int (nI k)), some (.int y), some (.int u), some (.int z), some (.int (nI 0)), none], [.int (nI 0)])) (by decide +kernel) rfl ?_
        dsimp only
        refine am_Rq.if1F (show decode (am_by 38) 46 = .ok (.ifCond .ne 11, 3) by decide +kernel) (by decide) (rfl) ?_
        refine am_Rq.thrN (k := 0) (ic := 36) (show decode (am_by 38) 49 = .ok (.new 34, 3) by decide +kernel) rfl (by omega) rfl (show decode (am_by 38) 52 = .ok (.dup, 1) by decide +kernel) (show decode (am_by 38) 53 = .ok (.invokespecial 36, 3) by decide +kernel) (show decode (am_by 38) 56 = .ok (.athrow, 1) by decide +kernel) ?_
        exact ⟨rfl, rfl⟩
      ·
        rw [am_b_eq, Bool.not_eq_false'] at g2
        rw [g0, g1, g2] at hx
        cases hx
theorem c_exercise (hO : hp[2]? = some (0, [.ref 3, .ref 26, .ref 212])) {t : Nat → Nat} (h : Led hp 3 t) {K : Nat} (ok : c_ok K t) (hK : K ≤ 900) (h4 : 4 ≤ d) {nx ct : Nat} {ks : Nat → Nat → Nat} (hH : c_H hp 26 nx ct ks) {g n : Nat} (hg : g < t 82) (h1 : 1 ≤ n) (ho : t (83 + 7 * g + 6) + n ≤ c_vg t g) (h20 : t (8 * 0 + 7) + n ≤ 20000) : am_Rq (d + 3) 48 0 (am_en [.ref 2, .int (nI g), .int (nI n)] 6) [] hp (am_Ret fun hp1 v => v = some (.int (nI (c_vg t g - t (83 + 7 * g + 6) - n))) ∧ Led hp1 3 (va_up (va_up (va_up t (83 + 7 * g + 6) (t (83 + 7 * g + 6) + n)) (40 + 8 * 0 + t (83 + 7 * g)) ((va_up t (83 + 7 * g + 6) (t (83 + 7 * g + 6) + n)) (40 + 8 * 0 + t (83 + 7 * g)) + n)) (8 * 0 + 7) ((va_up t (83 + 7 * g + 6) (t (83 + 7 * g + 6) + n)) (8 * 0 + 7) + n)) ∧ c_H hp1 26 ((nx + 1) % 8) (min (ct + 1) 8) (va_up ks nx t) ∧ am_fr c_all hp hp1) := by
  show am_Rq _ 48 0 [some (.ref 2), some (.int (nI g)), some (.int (nI n)), none, none, none] [] _ _
  have hB := ok.b (by omega)
  have hnb : n ≤ 2000 := by
    have := g_v_le (t (83 + 7 * g + 1)) (t (83 + 7 * g + 2)) (t (83 + 7 * g + 3)) (t (83 + 7 * g + 5)) (t 81 - t (83 + 7 * g + 4))
    have h82 := ok.2.2.2.2.1
    have := (ok.2.1 g (by omega)).2.1
    unfold c_vg at ho
    omega
  have h82 := ok.2.2.2.2.1
  obtain ⟨g0, g1, g2, g3, g4, g5, g6⟩ := ok.2.1 g (by omega)
  obtain ⟨b0, b1, b2, b3, b4, b5, b6, b7, b8, b9, -⟩ := ok.1 0 (by omega)
  have hv : c_vg t g ≤ 2000 := Nat.le_trans (g_v_le _ _ _ _ _) g1
  refine am_Rq.blk (is := [(.aload_n 0, 1), (.iload_n 1, 1)]) (q := (2, [some (.ref 2), some (.int (nI g)), some (.int (nI n)), none, none, none], [.int (nI g), .ref 2])) (by decide +kernel) rfl ?_
  dsimp only
  refine am_Rq.callV (show decode (am_by 48) 2 = .ok (.invokevirtual 116, 3) by decide +kernel) rfl [.int (nI g)] [] rfl rfl (Nat.le_of_ble_eq_true rfl) rfl hO rfl (c_requireGrant hO h (rg_lt hg (hB _ (by omega))) (by omega)) ?_
  rintro hq _ ⟨e1, rfl⟩
  rw [e1]
  clear e1 hq
  show am_Rq _ 48 5 [some (.ref 2), some (.int (nI g)), some (.int (nI n)), none, none, none] [] _ _
  refine am_Rq.blk (is := [(.iload_n 2, 1), (.iconst 1, 1)]) (q := (7, [some (.ref 2), some (.int (nI g)), some (.int (nI n)), none, none, none], [.int (nI 1), .int (nI n)])) (by decide +kernel) rfl ?_
  dsimp only
  refine am_Rq.if2T (t := 18) (show decode (am_by 48) 7 = .ok (.if_icmp .ge 11, 3) by decide +kernel) (by decide) (by rw [nm_ge (by omega) (by omega)]; exact decide_eq_true h1) ?_
  refine am_Rq.blk (is := [(.aload_n 0, 1)]) (q := (19, [some (.ref 2), some (.int (nI g)), some (.int (nI n)), none, none, none], [.ref 2])) (by decide +kernel) rfl ?_
  dsimp only
  refine am_Rq.getf (v := .ref 3) (show decode (am_by 48) 19 = .ok (.getfield 12, 3) by decide +kernel) rfl hO rfl ?_
  refine am_Rq.getf (v := .ref (3 + 12)) (show decode (am_by 48) 22 = .ok (.getfield 100, 3) by decide +kernel) rfl (Led.lg h) rfl ?_
  refine am_Rq.blk (is := [(.iload_n 1, 1)]) (q := (26, [some (.ref 2), some (.int (nI g)), some (.int (nI n)), none, none, none], [.int (nI g), .ref (3 + 12)])) (by decide +kernel) rfl ?_
  dsimp only
  refine am_Rq.ral (k := g) (show decode (am_by 48) 26 = .ok (.aaload, 1) by decide +kernel) (Led.ga h) rfl (by omega) (by omega) ?_
  refine am_Rq.blk (is := [(.astore_n 3, 1), (.aload_n 0, 1)]) (q := (29, [some (.ref 2), some (.int (nI g)), some (.int (nI n)), some (.ref (3 + 13 + 1 * g)), none, none], [.ref 2])) (by decide +kernel) rfl ?_
  dsimp only
  refine am_Rq.getf (v := .ref 3) (show decode (am_by 48) 29 = .ok (.getfield 12, 3) by decide +kernel) rfl hO rfl ?_
  refine am_Rq.getf (v := .ref (3 + 1)) (show decode (am_by 48) 32 = .ok (.getfield 48, 3) by decide +kernel) rfl (Led.lg h) rfl ?_
  refine am_Rq.blk (is := [(.iconst 0, 1)]) (q := (36, [some (.ref 2), some (.int (nI g)), some (.int (nI n)), some (.ref (3 + 13 + 1 * g)), none, none], [.int (nI 0), .ref (3 + 1)])) (by decide +kernel) rfl ?_
  dsimp only
  refine am_Rq.ral (k := 0) (show decode (am_by 48) 36 = .ok (.aaload, 1) by decide +kernel) (Led.ca h) rfl (by omega) (by omega) ?_
  refine am_Rq.blk (is := [(.astore 4, 2), (.aload_n 3, 1), (.aload_n 0, 1)]) (q := (41, [some (.ref 2), some (.int (nI g)), some (.int (nI n)), some (.ref (3 + 13 + 1 * g)), some (.ref (3 + 2 + 2 * 0)), none], [.ref 2, .ref (3 + 13 + 1 * g)])) (by decide +kernel) rfl ?_
  dsimp only
  refine am_Rq.getf (v := .ref 3) (show decode (am_by 48) 41 = .ok (.getfield 12, 3) by decide +kernel) rfl hO rfl ?_
  refine am_Rq.getf (v := .int (nI (t 81))) (show decode (am_by 48) 44 = .ok (.getfield 104, 3) by decide +kernel) rfl (Led.lg h) rfl ?_
  refine am_Rq.callV (show decode (am_by 48) 47 = .ok (.invokevirtual 119, 3) by decide +kernel) rfl [.int (nI (t 81))] [] rfl rfl (Nat.le_of_ble_eq_true rfl) rfl (Led.gr h (by omega)) rfl (c_vested h (by omega) hB (hB _ (by omega)) g4 g1 g3) ?_
  rintro hq _ ⟨e1, rfl⟩
  rw [e1]
  clear e1 hq
  show am_Rq _ 48 50 [some (.ref 2), some (.int (nI g)), some (.int (nI n)), some (.ref (3 + 13 + 1 * g)), some (.ref (3 + 2 + 2 * 0)), none] [.int (nI (c_vg t g))] _ _
  refine am_Rq.blk (is := [(.aload_n 3, 1)]) (q := (51, [some (.ref 2), some (.int (nI g)), some (.int (nI n)), some (.ref (3 + 13 + 1 * g)), some (.ref (3 + 2 + 2 * 0)), none], [.ref (3 + 13 + 1 * g), .int (nI (c_vg t g))])) (by decide +kernel) rfl ?_
  dsimp only
  refine am_Rq.getf (v := .int (nI (t (83 + 7 * g + 6)))) (show decode (am_by 48) 51 = .ok (.getfield 122, 3) by decide +kernel) rfl (Led.gr h (by omega)) rfl ?_
  refine am_Rq.blk (is := [(.isub, 1)]) (q := (55, [some (.ref 2), some (.int (nI g)), some (.int (nI n)), some (.ref (3 + 13 + 1 * g)), some (.ref (3 + 2 + 2 * 0)), none], [.int ((nI (c_vg t g)) - (nI (t (83 + 7 * g + 6))))])) (by decide +kernel) rfl ?_
  dsimp only
  rw [show (nI (c_vg t g)) - (nI (t (83 + 7 * g + 6))) = nI ((c_vg t g) - (t (83 + 7 * g + 6))) from nm_isub (by omega)]
  refine am_Rq.blk (is := [(.istore 5, 2), (.iload_n 2, 1), (.iload 5, 2)]) (q := (60, [some (.ref 2), some (.int (nI g)), some (.int (nI n)), some (.ref (3 + 13 + 1 * g)), some (.ref (3 + 2 + 2 * 0)), some (.int (nI ((c_vg t g) - (t (83 + 7 * g + 6)))))], [.int (nI ((c_vg t g) - (t (83 + 7 * g + 6)))), .int (nI n)])) (by decide +kernel) rfl ?_
  dsimp only
  refine am_Rq.if2F (show decode (am_by 48) 60 = .ok (.if_icmp .gt 16, 3) by decide +kernel) (by decide) (by rw [nm_gt (by omega) (by omega)]; exact decide_eq_false (by omega)) ?_
  refine am_Rq.blk (is := [(.aload 4, 2)]) (q := (65, [some (.ref 2), some (.int (nI g)), some (.int (nI n)), some (.ref (3 + 13 + 1 * g)), some (.ref (3 + 2 + 2 * 0)), some (.int (nI ((c_vg t g) - (t (83 + 7 * g + 6)))))], [.ref (3 + 2 + 2 * 0)])) (by decide +kernel) rfl ?_
  dsimp only
  refine am_Rq.getf (v := .int (nI (t (8 * 0 + 7)))) (show decode (am_by 48) 65 = .ok (.getfield 65, 3) by decide +kernel) rfl (Led.sc h (by omega)) rfl ?_
  refine am_Rq.blk (is := [(.iload_n 2, 1), (.iadd, 1)]) (q := (70, [some (.ref 2), some (.int (nI g)), some (.int (nI n)), some (.ref (3 + 13 + 1 * g)), some (.ref (3 + 2 + 2 * 0)), some (.int (nI ((c_vg t g) - (t (83 + 7 * g + 6)))))], [.int ((nI (t (8 * 0 + 7))) + (nI n))])) (by decide +kernel) rfl ?_
  dsimp only
  rw [show (nI (t (8 * 0 + 7))) + (nI n) = nI ((t (8 * 0 + 7)) + n) from nI_add _ _]
  refine am_Rq.blk (is := [(.sipush 20000, 3)]) (q := (73, [some (.ref 2), some (.int (nI g)), some (.int (nI n)), some (.ref (3 + 13 + 1 * g)), some (.ref (3 + 2 + 2 * 0)), some (.int (nI ((c_vg t g) - (t (83 + 7 * g + 6)))))], [.int (nI 20000), .int (nI ((t (8 * 0 + 7)) + n))])) (by decide +kernel) rfl ?_
  dsimp only
  refine am_Rq.if2T (t := 84) (show decode (am_by 48) 73 = .ok (.if_icmp .le 11, 3) by decide +kernel) (by decide) (by rw [nm_le (by omega) (by omega)]; exact decide_eq_true (by omega)) ?_
  refine am_Rq.blk (is := [(.aload_n 0, 1)]) (q := (85, [some (.ref 2), some (.int (nI g)), some (.int (nI n)), some (.ref (3 + 13 + 1 * g)), some (.ref (3 + 2 + 2 * 0)), some (.int (nI ((c_vg t g) - (t (83 + 7 * g + 6)))))], [.ref 2])) (by decide +kernel) rfl ?_
  dsimp only
  refine am_Rq.getf (v := .ref 26) (show decode (am_by 48) 85 = .ok (.getfield 19, 3) by decide +kernel) rfl hO rfl ?_
  refine am_Rq.blk (is := [(.aload_n 0, 1)]) (q := (89, [some (.ref 2), some (.int (nI g)), some (.int (nI n)), some (.ref (3 + 13 + 1 * g)), some (.ref (3 + 2 + 2 * 0)), some (.int (nI ((c_vg t g) - (t (83 + 7 * g + 6)))))], [.ref 2, .ref 26])) (by decide +kernel) rfl ?_
  dsimp only
  refine am_Rq.getf (v := .ref 3) (show decode (am_by 48) 89 = .ok (.getfield 12, 3) by decide +kernel) rfl hO rfl ?_
  refine am_Rq.callV (show decode (am_by 48) 92 = .ok (.invokevirtual 44, 3) by decide +kernel) rfl [.ref 3] [] rfl rfl (Nat.le_of_ble_eq_true rfl) rfl hH.2.2.2.1 rfl (c_keep h hH (by omega) ok.e) ?_
  rintro hp1 _ ⟨rfl, hL1, hH1, hf1⟩
  have hc1_2 := (hf1.2.2 2 (fun q => by have := q.1; omega)).trans hO
  show am_Rq _ 48 95 [some (.ref 2), some (.int (nI g)), some (.int (nI n)), some (.ref (3 + 13 + 1 * g)), some (.ref (3 + 2 + 2 * 0)), some (.int (nI ((c_vg t g) - (t (83 + 7 * g + 6)))))] [] _ _
  refine am_Rq.blk (is := [(.aload_n 3, 1), (.dup, 1)]) (q := (97, [some (.ref 2), some (.int (nI g)), some (.int (nI n)), some (.ref (3 + 13 + 1 * g)), some (.ref (3 + 2 + 2 * 0)), some (.int (nI ((c_vg t g) - (t (83 + 7 * g + 6)))))], [.ref (3 + 13 + 1 * g), .ref (3 + 13 + 1 * g)])) (by decide +kernel) rfl ?_
  dsimp only
  refine am_Rq.getf (v := .int (nI (t (83 + 7 * g + 6)))) (show decode (am_by 48) 97 = .ok (.getfield 122, 3) by decide +kernel) rfl (Led.gr hL1 (by omega)) rfl ?_
  refine am_Rq.blk (is := [(.iload_n 2, 1), (.iadd, 1)]) (q := (102, [some (.ref 2), some (.int (nI g)), some (.int (nI n)), some (.ref (3 + 13 + 1 * g)), some (.ref (3 + 2 + 2 * 0)), some (.int (nI ((c_vg t g) - (t (83 + 7 * g + 6)))))], [.int ((nI (t (83 + 7 * g + 6))) + (nI n)), .ref (3 + 13 + 1 * g)])) (by decide +kernel) rfl ?_
  dsimp only
  rw [show (nI (t (83 + 7 * g + 6))) + (nI n) = nI ((t (83 + 7 * g + 6)) + n) from nI_add _ _]
  refine Led.pGr (g := g) (k := 5) (p := 6) (v := (t (83 + 7 * g + 6)) + n) hL1 (by omega) (show decode (am_by 48) 102 = .ok (.putfield 122, 3) by decide +kernel) rfl (by decide) (by first | rfl | exact rfl) rfl ?_
  intro hp2 hL2 hf2
  have hc2_2 := (hf2.2.2 (2) (fun q => by obtain ⟨_, _⟩ := q; omega)).trans hc1_2
  refine am_Rq.blk (is := [(.aload 4, 2), (.aload_n 3, 1)]) (q := (108, [some (.ref 2), some (.int (nI g)), some (.int (nI n)), some (.ref (3 + 13 + 1 * g)), some (.ref (3 + 2 + 2 * 0)), some (.int (nI ((c_vg t g) - (t (83 + 7 * g + 6)))))], [.ref (3 + 13 + 1 * g), .ref (3 + 2 + 2 * 0)])) (by decide +kernel) rfl ?_
  dsimp only
  refine am_Rq.getf (v := .int (nI ((va_up t (83 + 7 * g + 6) ((t (83 + 7 * g + 6)) + n)) (83 + 7 * g)))) (show decode (am_by 48) 108 = .ok (.getfield 125, 3) by decide +kernel) rfl (Led.gr hL2 (by omega)) rfl ?_
  refine am_Rq.blk (is := [(.iload_n 2, 1)]) (q := (112, [some (.ref 2), some (.int (nI g)), some (.int (nI n)), some (.ref (3 + 13 + 1 * g)), some (.ref (3 + 2 + 2 * 0)), some (.int (nI ((c_vg t g) - (t (83 + 7 * g + 6)))))], [.int (nI n), .int (nI ((va_up t (83 + 7 * g + 6) ((t (83 + 7 * g + 6)) + n)) (83 + 7 * g))), .ref (3 + 2 + 2 * 0)])) (by decide +kernel) rfl ?_
  dsimp only
  rw [va_up_ne _ _ (show 83 + 7 * g ≠ 83 + 7 * g + 6 by omega)]
  refine am_Rq.callV (show decode (am_by 48) 112 = .ok (.invokevirtual 72, 3) by decide +kernel) rfl [.int (nI (t (83 + 7 * g))), .int (nI n)] [] rfl rfl (Nat.le_of_ble_eq_true rfl) rfl (Led.sc hL2 (by omega)) rfl (c_give (c := 0) hL2 (by omega) (by omega)) ?_
  rintro hp3 _ ⟨rfl, hL3, hf3⟩
  have hc3_2 := (hf3.2.2 (2) (fun q => by obtain ⟨_, _⟩ := q; omega)).trans hc2_2
  show am_Rq _ 48 115 [some (.ref 2), some (.int (nI g)), some (.int (nI n)), some (.ref (3 + 13 + 1 * g)), some (.ref (3 + 2 + 2 * 0)), some (.int (nI ((c_vg t g) - (t (83 + 7 * g + 6)))))] [] _ _
  refine am_Rq.blk (is := [(.iload 5, 2), (.iload_n 2, 1), (.isub, 1)]) (q := (119, [some (.ref 2), some (.int (nI g)), some (.int (nI n)), some (.ref (3 + 13 + 1 * g)), some (.ref (3 + 2 + 2 * 0)), some (.int (nI ((c_vg t g) - (t (83 + 7 * g + 6)))))], [.int ((nI ((c_vg t g) - (t (83 + 7 * g + 6)))) - (nI n))])) (by decide +kernel) rfl ?_
  dsimp only
  rw [show (nI ((c_vg t g) - (t (83 + 7 * g + 6)))) - (nI n) = nI (((c_vg t g) - (t (83 + 7 * g + 6))) - n) from nm_isub (by omega)]
  refine am_Rq.ret (v := some (.int (nI (((c_vg t g) - (t (83 + 7 * g + 6))) - n)))) (show decode (am_by 48) 119 = .ok (.ireturn, 1) by decide +kernel) rfl rfl ?_
  exact ⟨_, rfl, rfl, hL3, c_H.kept hH1 (fun a ha => (hf2.trans hf3).2.2 a (fun q => by obtain ⟨_, _⟩ := q; obtain ⟨_, _⟩ := ha; omega)), (((hf1.mono (fun a q => by obtain ⟨_, _⟩ := q; exact ⟨by omega, by omega⟩)).trans (hf2.mono (fun a q => by obtain ⟨_, _⟩ := q; exact ⟨by omega, by omega⟩))).trans (hf3.mono (fun a q => by obtain ⟨_, _⟩ := q; exact ⟨by omega, by omega⟩)))⟩
theorem c_exercise_no4 (hO : hp[2]? = some (0, [.ref 3, .ref 26, .ref 212])) {t : Nat → Nat} (h : Led hp 3 t) {K : Nat} (ok : c_ok K t) (hK : K ≤ 900) (h4 : 4 ≤ d) {g n : Nat} (hg : g < t 82) (h1 : 1 ≤ n) (ho : t (83 + 7 * g + 6) + n ≤ c_vg t g) (h20 : 20000 < t (8 * 0 + 7) + n) : am_Rq (d + 3) 48 0 (am_en [.ref 2, .int (nI g), .int (nI n)] 6) [] hp (c_No 1 hp) := by
  show am_Rq _ 48 0 [some (.ref 2), some (.int (nI g)), some (.int (nI n)), none, none, none] [] _ _
  have hB := ok.b (by omega)
  have hnb : n ≤ 2000 := by
    have := g_v_le (t (83 + 7 * g + 1)) (t (83 + 7 * g + 2)) (t (83 + 7 * g + 3)) (t (83 + 7 * g + 5)) (t 81 - t (83 + 7 * g + 4))
    have h82 := ok.2.2.2.2.1
    have := (ok.2.1 g (by omega)).2.1
    unfold c_vg at ho
    omega
  have h82 := ok.2.2.2.2.1
  obtain ⟨g0, g1, g2, g3, g4, g5, g6⟩ := ok.2.1 g (by omega)
  obtain ⟨b0, b1, b2, b3, b4, b5, b6, b7, b8, b9, -⟩ := ok.1 0 (by omega)
  have hv : c_vg t g ≤ 2000 := Nat.le_trans (g_v_le _ _ _ _ _) g1
  refine am_Rq.blk (is := [(.aload_n 0, 1), (.iload_n 1, 1)]) (q := (2, [some (.ref 2), some (.int (nI g)), some (.int (nI n)), none, none, none], [.int (nI g), .ref 2])) (by decide +kernel) rfl ?_
  dsimp only
  refine am_Rq.callV (show decode (am_by 48) 2 = .ok (.invokevirtual 116, 3) by decide +kernel) rfl [.int (nI g)] [] rfl rfl (Nat.le_of_ble_eq_true rfl) rfl hO rfl (c_requireGrant hO h (rg_lt hg (hB _ (by omega))) (by omega)) ?_
  rintro hq _ ⟨e1, rfl⟩
  rw [e1]
  clear e1 hq
  show am_Rq _ 48 5 [some (.ref 2), some (.int (nI g)), some (.int (nI n)), none, none, none] [] _ _
  refine am_Rq.blk (is := [(.iload_n 2, 1), (.iconst 1, 1)]) (q := (7, [some (.ref 2), some (.int (nI g)), some (.int (nI n)), none, none, none], [.int (nI 1), .int (nI n)])) (by decide +kernel) rfl ?_
  dsimp only
  refine am_Rq.if2T (t := 18) (show decode (am_by 48) 7 = .ok (.if_icmp .ge 11, 3) by decide +kernel) (by decide) (by rw [nm_ge (by omega) (by omega)]; exact decide_eq_true h1) ?_
  refine am_Rq.blk (is := [(.aload_n 0, 1)]) (q := (19, [some (.ref 2), some (.int (nI g)), some (.int (nI n)), none, none, none], [.ref 2])) (by decide +kernel) rfl ?_
  dsimp only
  refine am_Rq.getf (v := .ref 3) (show decode (am_by 48) 19 = .ok (.getfield 12, 3) by decide +kernel) rfl hO rfl ?_
  refine am_Rq.getf (v := .ref (3 + 12)) (show decode (am_by 48) 22 = .ok (.getfield 100, 3) by decide +kernel) rfl (Led.lg h) rfl ?_
  refine am_Rq.blk (is := [(.iload_n 1, 1)]) (q := (26, [some (.ref 2), some (.int (nI g)), some (.int (nI n)), none, none, none], [.int (nI g), .ref (3 + 12)])) (by decide +kernel) rfl ?_
  dsimp only
  refine am_Rq.ral (k := g) (show decode (am_by 48) 26 = .ok (.aaload, 1) by decide +kernel) (Led.ga h) rfl (by omega) (by omega) ?_
  refine am_Rq.blk (is := [(.astore_n 3, 1), (.aload_n 0, 1)]) (q := (29, [some (.ref 2), some (.int (nI g)), some (.int (nI n)), some (.ref (3 + 13 + 1 * g)), none, none], [.ref 2])) (by decide +kernel) rfl ?_
  dsimp only
  refine am_Rq.getf (v := .ref 3) (show decode (am_by 48) 29 = .ok (.getfield 12, 3) by decide +kernel) rfl hO rfl ?_
  refine am_Rq.getf (v := .ref (3 + 1)) (show decode (am_by 48) 32 = .ok (.getfield 48, 3) by decide +kernel) rfl (Led.lg h) rfl ?_
  refine am_Rq.blk (is := [(.iconst 0, 1)]) (q := (36, [some (.ref 2), some (.int (nI g)), some (.int (nI n)), some (.ref (3 + 13 + 1 * g)), none, none], [.int (nI 0), .ref (3 + 1)])) (by decide +kernel) rfl ?_
  dsimp only
  refine am_Rq.ral (k := 0) (show decode (am_by 48) 36 = .ok (.aaload, 1) by decide +kernel) (Led.ca h) rfl (by omega) (by omega) ?_
  refine am_Rq.blk (is := [(.astore 4, 2), (.aload_n 3, 1), (.aload_n 0, 1)]) (q := (41, [some (.ref 2), some (.int (nI g)), some (.int (nI n)), some (.ref (3 + 13 + 1 * g)), some (.ref (3 + 2 + 2 * 0)), none], [.ref 2, .ref (3 + 13 + 1 * g)])) (by decide +kernel) rfl ?_
  dsimp only
  refine am_Rq.getf (v := .ref 3) (show decode (am_by 48) 41 = .ok (.getfield 12, 3) by decide +kernel) rfl hO rfl ?_
  refine am_Rq.getf (v := .int (nI (t 81))) (show decode (am_by 48) 44 = .ok (.getfield 104, 3) by decide +kernel) rfl (Led.lg h) rfl ?_
  refine am_Rq.callV (show decode (am_by 48) 47 = .ok (.invokevirtual 119, 3) by decide +kernel) rfl [.int (nI (t 81))] [] rfl rfl (Nat.le_of_ble_eq_true rfl) rfl (Led.gr h (by omega)) rfl (c_vested h (by omega) hB (hB _ (by omega)) g4 g1 g3) ?_
  rintro hq _ ⟨e1, rfl⟩
  rw [e1]
  clear e1 hq
  show am_Rq _ 48 50 [some (.ref 2), some (.int (nI g)), some (.int (nI n)), some (.ref (3 + 13 + 1 * g)), some (.ref (3 + 2 + 2 * 0)), none] [.int (nI (c_vg t g))] _ _
  refine am_Rq.blk (is := [(.aload_n 3, 1)]) (q := (51, [some (.ref 2), some (.int (nI g)), some (.int (nI n)), some (.ref (3 + 13 + 1 * g)), some (.ref (3 + 2 + 2 * 0)), none], [.ref (3 + 13 + 1 * g), .int (nI (c_vg t g))])) (by decide +kernel) rfl ?_
  dsimp only
  refine am_Rq.getf (v := .int (nI (t (83 + 7 * g + 6)))) (show decode (am_by 48) 51 = .ok (.getfield 122, 3) by decide +kernel) rfl (Led.gr h (by omega)) rfl ?_
  refine am_Rq.blk (is := [(.isub, 1)]) (q := (55, [some (.ref 2), some (.int (nI g)), some (.int (nI n)), some (.ref (3 + 13 + 1 * g)), some (.ref (3 + 2 + 2 * 0)), none], [.int ((nI (c_vg t g)) - (nI (t (83 + 7 * g + 6))))])) (by decide +kernel) rfl ?_
  dsimp only
  rw [show (nI (c_vg t g)) - (nI (t (83 + 7 * g + 6))) = nI ((c_vg t g) - (t (83 + 7 * g + 6))) from nm_isub (by omega)]
  refine am_Rq.blk (is := [(.istore 5, 2), (.iload_n 2, 1), (.iload 5, 2)]) (q := (60, [some (.ref 2), some (.int (nI g)), some (.int (nI n)), some (.ref (3 + 13 + 1 * g)), some (.ref (3 + 2 + 2 * 0)), some (.int (nI ((c_vg t g) - (t (83 + 7 * g + 6)))))], [.int (nI ((c_vg t g) - (t (83 + 7 * g + 6)))), .int (nI n)])) (by decide +kernel) rfl ?_
  dsimp only
  refine am_Rq.if2F (show decode (am_by 48) 60 = .ok (.if_icmp .gt 16, 3) by decide +kernel) (by decide) (by rw [nm_gt (by omega) (by omega)]; exact decide_eq_false (by omega)) ?_
  refine am_Rq.blk (is := [(.aload 4, 2)]) (q := (65, [some (.ref 2), some (.int (nI g)), some (.int (nI n)), some (.ref (3 + 13 + 1 * g)), some (.ref (3 + 2 + 2 * 0)), some (.int (nI ((c_vg t g) - (t (83 + 7 * g + 6)))))], [.ref (3 + 2 + 2 * 0)])) (by decide +kernel) rfl ?_
  dsimp only
  refine am_Rq.getf (v := .int (nI (t (8 * 0 + 7)))) (show decode (am_by 48) 65 = .ok (.getfield 65, 3) by decide +kernel) rfl (Led.sc h (by omega)) rfl ?_
  refine am_Rq.blk (is := [(.iload_n 2, 1), (.iadd, 1)]) (q := (70, [some (.ref 2), some (.int (nI g)), some (.int (nI n)), some (.ref (3 + 13 + 1 * g)), some (.ref (3 + 2 + 2 * 0)), some (.int (nI ((c_vg t g) - (t (83 + 7 * g + 6)))))], [.int ((nI (t (8 * 0 + 7))) + (nI n))])) (by decide +kernel) rfl ?_
  dsimp only
  rw [show (nI (t (8 * 0 + 7))) + (nI n) = nI ((t (8 * 0 + 7)) + n) from nI_add _ _]
  refine am_Rq.blk (is := [(.sipush 20000, 3)]) (q := (73, [some (.ref 2), some (.int (nI g)), some (.int (nI n)), some (.ref (3 + 13 + 1 * g)), some (.ref (3 + 2 + 2 * 0)), some (.int (nI ((c_vg t g) - (t (83 + 7 * g + 6)))))], [.int (nI 20000), .int (nI ((t (8 * 0 + 7)) + n))])) (by decide +kernel) rfl ?_
  dsimp only
  refine am_Rq.if2F (show decode (am_by 48) 73 = .ok (.if_icmp .le 11, 3) by decide +kernel) (by decide) (by rw [nm_le (by omega) (by omega)]; exact decide_eq_false (by omega)) ?_
  refine am_Rq.thrN (k := 1) (ic := 43) (show decode (am_by 48) 76 = .ok (.new 41, 3) by decide +kernel) rfl (by omega) rfl (show decode (am_by 48) 79 = .ok (.dup, 1) by decide +kernel) (show decode (am_by 48) 80 = .ok (.invokespecial 43, 3) by decide +kernel) (show decode (am_by 48) 83 = .ok (.athrow, 1) by decide +kernel) ?_
  exact ⟨rfl, rfl⟩
theorem c_exercise_no3 (hO : hp[2]? = some (0, [.ref 3, .ref 26, .ref 212])) {t : Nat → Nat} (h : Led hp 3 t) {K : Nat} (ok : c_ok K t) (hK : K ≤ 900) (h4 : 4 ≤ d) {g n : Nat} (hg : g < t 82) (h1 : 1 ≤ n) (hn2 : n < 2 ^ 31) (ho : c_vg t g < t (83 + 7 * g + 6) + n) : am_Rq (d + 3) 48 0 (am_en [.ref 2, .int (nI g), .int (nI n)] 6) [] hp (c_No 1 hp) := by
  show am_Rq _ 48 0 [some (.ref 2), some (.int (nI g)), some (.int (nI n)), none, none, none] [] _ _
  have hB := ok.b (by omega)
  have h82 := ok.2.2.2.2.1
  obtain ⟨g0, g1, g2, g3, g4, g5, g6⟩ := ok.2.1 g (by omega)
  obtain ⟨b0, b1, b2, b3, b4, b5, b6, b7, b8, b9, -⟩ := ok.1 0 (by omega)
  have hv : c_vg t g ≤ 2000 := Nat.le_trans (g_v_le _ _ _ _ _) g1
  refine am_Rq.blk (is := [(.aload_n 0, 1), (.iload_n 1, 1)]) (q := (2, [some (.ref 2), some (.int (nI g)), some (.int (nI n)), none, none, none], [.int (nI g), .ref 2])) (by decide +kernel) rfl ?_
  dsimp only
  refine am_Rq.callV (show decode (am_by 48) 2 = .ok (.invokevirtual 116, 3) by decide +kernel) rfl [.int (nI g)] [] rfl rfl (Nat.le_of_ble_eq_true rfl) rfl hO rfl (c_requireGrant hO h (rg_lt hg (hB _ (by omega))) (by omega)) ?_
  rintro hq _ ⟨e1, rfl⟩
  rw [e1]
  clear e1 hq
  show am_Rq _ 48 5 [some (.ref 2), some (.int (nI g)), some (.int (nI n)), none, none, none] [] _ _
  refine am_Rq.blk (is := [(.iload_n 2, 1), (.iconst 1, 1)]) (q := (7, [some (.ref 2), some (.int (nI g)), some (.int (nI n)), none, none, none], [.int (nI 1), .int (nI n)])) (by decide +kernel) rfl ?_
  dsimp only
  refine am_Rq.if2T (t := 18) (show decode (am_by 48) 7 = .ok (.if_icmp .ge 11, 3) by decide +kernel) (by decide) (by rw [nm_ge (by omega) (by omega)]; exact decide_eq_true h1) ?_
  refine am_Rq.blk (is := [(.aload_n 0, 1)]) (q := (19, [some (.ref 2), some (.int (nI g)), some (.int (nI n)), none, none, none], [.ref 2])) (by decide +kernel) rfl ?_
  dsimp only
  refine am_Rq.getf (v := .ref 3) (show decode (am_by 48) 19 = .ok (.getfield 12, 3) by decide +kernel) rfl hO rfl ?_
  refine am_Rq.getf (v := .ref (3 + 12)) (show decode (am_by 48) 22 = .ok (.getfield 100, 3) by decide +kernel) rfl (Led.lg h) rfl ?_
  refine am_Rq.blk (is := [(.iload_n 1, 1)]) (q := (26, [some (.ref 2), some (.int (nI g)), some (.int (nI n)), none, none, none], [.int (nI g), .ref (3 + 12)])) (by decide +kernel) rfl ?_
  dsimp only
  refine am_Rq.ral (k := g) (show decode (am_by 48) 26 = .ok (.aaload, 1) by decide +kernel) (Led.ga h) rfl (by omega) (by omega) ?_
  refine am_Rq.blk (is := [(.astore_n 3, 1), (.aload_n 0, 1)]) (q := (29, [some (.ref 2), some (.int (nI g)), some (.int (nI n)), some (.ref (3 + 13 + 1 * g)), none, none], [.ref 2])) (by decide +kernel) rfl ?_
  dsimp only
  refine am_Rq.getf (v := .ref 3) (show decode (am_by 48) 29 = .ok (.getfield 12, 3) by decide +kernel) rfl hO rfl ?_
  refine am_Rq.getf (v := .ref (3 + 1)) (show decode (am_by 48) 32 = .ok (.getfield 48, 3) by decide +kernel) rfl (Led.lg h) rfl ?_
  refine am_Rq.blk (is := [(.iconst 0, 1)]) (q := (36, [some (.ref 2), some (.int (nI g)), some (.int (nI n)), some (.ref (3 + 13 + 1 * g)), none, none], [.int (nI 0), .ref (3 + 1)])) (by decide +kernel) rfl ?_
  dsimp only
  refine am_Rq.ral (k := 0) (show decode (am_by 48) 36 = .ok (.aaload, 1) by decide +kernel) (Led.ca h) rfl (by omega) (by omega) ?_
  refine am_Rq.blk (is := [(.astore 4, 2), (.aload_n 3, 1), (.aload_n 0, 1)]) (q := (41, [some (.ref 2), some (.int (nI g)), some (.int (nI n)), some (.ref (3 + 13 + 1 * g)), some (.ref (3 + 2 + 2 * 0)), none], [.ref 2, .ref (3 + 13 + 1 * g)])) (by decide +kernel) rfl ?_
  dsimp only
  refine am_Rq.getf (v := .ref 3) (show decode (am_by 48) 41 = .ok (.getfield 12, 3) by decide +kernel) rfl hO rfl ?_
  refine am_Rq.getf (v := .int (nI (t 81))) (show decode (am_by 48) 44 = .ok (.getfield 104, 3) by decide +kernel) rfl (Led.lg h) rfl ?_
  refine am_Rq.callV (show decode (am_by 48) 47 = .ok (.invokevirtual 119, 3) by decide +kernel) rfl [.int (nI (t 81))] [] rfl rfl (Nat.le_of_ble_eq_true rfl) rfl (Led.gr h (by omega)) rfl (c_vested h (by omega) hB (hB _ (by omega)) g4 g1 g3) ?_
  rintro hq _ ⟨e1, rfl⟩
  rw [e1]
  clear e1 hq
  show am_Rq _ 48 50 [some (.ref 2), some (.int (nI g)), some (.int (nI n)), some (.ref (3 + 13 + 1 * g)), some (.ref (3 + 2 + 2 * 0)), none] [.int (nI (c_vg t g))] _ _
  refine am_Rq.blk (is := [(.aload_n 3, 1)]) (q := (51, [some (.ref 2), some (.int (nI g)), some (.int (nI n)), some (.ref (3 + 13 + 1 * g)), some (.ref (3 + 2 + 2 * 0)), none], [.ref (3 + 13 + 1 * g), .int (nI (c_vg t g))])) (by decide +kernel) rfl ?_
  dsimp only
  refine am_Rq.getf (v := .int (nI (t (83 + 7 * g + 6)))) (show decode (am_by 48) 51 = .ok (.getfield 122, 3) by decide +kernel) rfl (Led.gr h (by omega)) rfl ?_
  refine am_Rq.blk (is := [(.isub, 1), (.istore 5, 2), (.iload_n 2, 1), (.iload 5, 2)]) (q := (60, [some (.ref 2), some (.int (nI g)), some (.int (nI n)), some (.ref (3 + 13 + 1 * g)), some (.ref (3 + 2 + 2 * 0)), some (.int ((nI (c_vg t g)) - (nI (t (83 + 7 * g + 6)))))], [.int ((nI (c_vg t g)) - (nI (t (83 + 7 * g + 6)))), .int (nI n)])) (by decide +kernel) rfl ?_
  dsimp only
  refine am_Rq.if2T (t := 76) (show decode (am_by 48) 60 = .ok (.if_icmp .gt 16, 3) by decide +kernel) (by decide) (by exact decide_eq_true (by rw [nm_subLt (by omega) (by omega) hn2]; exact ho)) ?_
  refine am_Rq.thrN (k := 1) (ic := 43) (show decode (am_by 48) 76 = .ok (.new 41, 3) by decide +kernel) rfl (by omega) rfl (show decode (am_by 48) 79 = .ok (.dup, 1) by decide +kernel) (show decode (am_by 48) 80 = .ok (.invokespecial 43, 3) by decide +kernel) (show decode (am_by 48) 83 = .ok (.athrow, 1) by decide +kernel) ?_
  exact ⟨rfl, rfl⟩
theorem c_exercise_no1 (hO : hp[2]? = some (0, [.ref 3, .ref 26, .ref 212])) {t : Nat → Nat} (h : Led hp 3 t) {K : Nat} (ok : c_ok K t) (hK : K ≤ 900) (h4 : 4 ≤ d) {x y : Int32} (hx : rg_r (nI 0) (nI (t 82) - nI 1) x = false) : am_Rq (d + 3) 48 0 (am_en [.ref 2, .int x, .int y] 6) [] hp (c_No 2 hp) := by
  show am_Rq _ 48 0 [some (.ref 2), some (.int x), some (.int y), none, none, none] [] _ _
  have hB := ok.b (by omega)
  refine am_Rq.blk (is := [(.aload_n 0, 1), (.iload_n 1, 1)]) (q := (2, [some (.ref 2), some (.int x), some (.int y), none, none, none], [.int x, .ref 2])) (by decide +kernel) rfl ?_
  dsimp only
  exact am_Rq.callNo (show decode (am_by 48) 2 = .ok (.invokevirtual 116, 3) by decide +kernel) rfl [.int x] [] rfl rfl (Nat.le_of_ble_eq_true rfl) rfl hO rfl rfl (c_requireGrant_no hO h (hx) (by omega)) ⟨rfl, rfl⟩
theorem c_exercise_no2 (hO : hp[2]? = some (0, [.ref 3, .ref 26, .ref 212])) {t : Nat → Nat} (h : Led hp 3 t) {K : Nat} (ok : c_ok K t) (hK : K ≤ 900) (h4 : 4 ≤ d) {g : Nat} (hg : g < t 82) {u : Int32} (hu : u < nI 1) : am_Rq (d + 3) 48 0 (am_en [.ref 2, .int (nI g), .int u] 6) [] hp (c_No 0 hp) := by
  show am_Rq _ 48 0 [some (.ref 2), some (.int (nI g)), some (.int u), none, none, none] [] _ _
  have hB := ok.b (by omega)
  refine am_Rq.blk (is := [(.aload_n 0, 1), (.iload_n 1, 1)]) (q := (2, [some (.ref 2), some (.int (nI g)), some (.int u), none, none, none], [.int (nI g), .ref 2])) (by decide +kernel) rfl ?_
  dsimp only
  refine am_Rq.callV (show decode (am_by 48) 2 = .ok (.invokevirtual 116, 3) by decide +kernel) rfl [.int (nI g)] [] rfl rfl (Nat.le_of_ble_eq_true rfl) rfl hO rfl (c_requireGrant hO h (rg_lt hg (hB _ (by omega))) (by omega)) ?_
  rintro hq _ ⟨e1, rfl⟩
  rw [e1]
  clear e1 hq
  show am_Rq _ 48 5 [some (.ref 2), some (.int (nI g)), some (.int u), none, none, none] [] _ _
  refine am_Rq.blk (is := [(.iload_n 2, 1), (.iconst 1, 1)]) (q := (7, [some (.ref 2), some (.int (nI g)), some (.int u), none, none, none], [.int (nI 1), .int u])) (by decide +kernel) rfl ?_
  dsimp only
  refine am_Rq.if2F (show decode (am_by 48) 7 = .ok (.if_icmp .ge 11, 3) by decide +kernel) (by decide) (by exact decide_eq_false (by rw [Int32.not_le]; exact hu)) ?_
  refine am_Rq.thrN (k := 0) (ic := 36) (show decode (am_by 48) 10 = .ok (.new 34, 3) by decide +kernel) rfl (by omega) rfl (show decode (am_by 48) 13 = .ok (.dup, 1) by decide +kernel) (show decode (am_by 48) 14 = .ok (.invokespecial 36, 3) by decide +kernel) (show decode (am_by 48) 17 = .ok (.athrow, 1) by decide +kernel) ?_
  exact ⟨rfl, rfl⟩
end C10
