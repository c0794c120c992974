/-! The class: calls that change the ledger (rows by prog/c9.py). -/
section C9
variable {d : Nat} {hp : am_H}
theorem c_transfer (hO : hp[2]? = some (0, [.ref 3, .ref 26, .ref 212])) {t : Nat → Nat} (h : Led hp 3 t) {K : Nat} (ok : c_ok K t) (hK : K ≤ 900) (h4 : 4 ≤ d) {nx ct : Nat} {ks : Nat → Nat → Nat} (hH : c_H hp 26 nx ct ks) {a f g : Nat} (ha : a < t 153) (hf : f < 8) (hg : g < 8) {n : Nat} (hfg : f ≠ g) (h1 : 1 ≤ n) (hn : n ≤ t (40 + 8 * a + f)) : am_Rq (d + 3) 30 0 (am_en [.ref 2, .int (nI a), .int (nI f), .int (nI g), .int (nI n)] 6) [] hp (am_Ret fun hp1 v => v = some (.int (nI ((va_up (va_up (va_up (va_up t (40 + 8 * a + f) (t (40 + 8 * a + f) - n)) (8 * a + 7) (t (8 * a + 7) - n)) (40 + 8 * a + g) ((va_up (va_up t (40 + 8 * a + f) (t (40 + 8 * a + f) - n)) (8 * a + 7) (t (8 * a + 7) - n)) (40 + 8 * a + g) + n)) (8 * a + 7) ((va_up (va_up t (40 + 8 * a + f) (t (40 + 8 * a + f) - n)) (8 * a + 7) (t (8 * a + 7) - n)) (8 * a + 7) + n)) (40 + 8 * a + g)))) ∧ Led hp1 3 (va_up (va_up (va_up (va_up t (40 + 8 * a + f) (t (40 + 8 * a + f) - n)) (8 * a + 7) (t (8 * a + 7) - n)) (40 + 8 * a + g) ((va_up (va_up t (40 + 8 * a + f) (t (40 + 8 * a + f) - n)) (8 * a + 7) (t (8 * a + 7) - n)) (40 + 8 * a + g) + n)) (8 * a + 7) ((va_up (va_up t (40 + 8 * a + f) (t (40 + 8 * a + f) - n)) (8 * a + 7) (t (8 * a + 7) - n)) (8 * a + 7) + n)) ∧ c_H hp1 26 ((nx + 1) % 8) (min (ct + 1) 8) (va_up ks nx t) ∧ am_fr c_all hp hp1) := by
  show am_Rq _ 30 0 [some (.ref 2), some (.int (nI a)), some (.int (nI f)), some (.int (nI g)), some (.int (nI n)), none] [] _ _
  have hB := ok.b (by omega)
  have h153 := ok.2.2.2.2.2.2.1
  have hn2 := hB (40 + 8 * a + f) (by omega)
  have hsum : t (40 + 8 * a + f) ≤ t (8 * a + 7) := by
    rw [(ok.1 a (by omega)).2.2.2.2.2.2.2.2.2.2.2]
    exact sp_sm_ge (f := fun h => t (40 + 8 * a + h)) hf
  refine am_Rq.blk (is := [(.aload_n 0, 1), (.iload_n 1, 1)]) (q := (2, [some (.ref 2), some (.int (nI a)), some (.int (nI f)), some (.int (nI g)), some (.int (nI n)), none], [.int (nI a), .ref 2])) (by decide +kernel) rfl ?_
  dsimp only
  refine am_Rq.callV (show decode (am_by 30) 2 = .ok (.invokevirtual 58, 3) by decide +kernel) rfl [.int (nI a)] [] rfl rfl (Nat.le_of_ble_eq_true rfl) rfl hO rfl (c_requireClass hO h (rg_lt ha (hB _ (by omega))) (by omega)) ?_
  rintro hq _ ⟨e1, rfl⟩
  rw [e1]
  clear e1 hq
  show am_Rq _ 30 5 [some (.ref 2), some (.int (nI a)), some (.int (nI f)), some (.int (nI g)), some (.int (nI n)), none] [] _ _
  refine am_Rq.blk (is := [(.aload_n 0, 1), (.iload_n 2, 1)]) (q := (7, [some (.ref 2), some (.int (nI a)), some (.int (nI f)), some (.int (nI g)), some (.int (nI n)), none], [.int (nI f), .ref 2])) (by decide +kernel) rfl ?_
  dsimp only
  refine am_Rq.callV (show decode (am_by 30) 7 = .ok (.invokevirtual 62, 3) by decide +kernel) rfl [.int (nI f)] [] rfl rfl (Nat.le_of_ble_eq_true rfl) rfl hO rfl (c_requireHolder (rg_le (by omega) (show f ≤ 7 by omega) (by omega)) (by omega)) ?_
  rintro hq _ ⟨e1, rfl⟩
  rw [e1]
  clear e1 hq
  show am_Rq _ 30 10 [some (.ref 2), some (.int (nI a)), some (.int (nI f)), some (.int (nI g)), some (.int (nI n)), none] [] _ _
  refine am_Rq.blk (is := [(.aload_n 0, 1), (.iload_n 3, 1)]) (q := (12, [some (.ref 2), some (.int (nI a)), some (.int (nI f)), some (.int (nI g)), some (.int (nI n)), none], [.int (nI g), .ref 2])) (by decide +kernel) rfl ?_
  dsimp only
  refine am_Rq.callV (show decode (am_by 30) 12 = .ok (.invokevirtual 62, 3) by decide +kernel) rfl [.int (nI g)] [] rfl rfl (Nat.le_of_ble_eq_true rfl) rfl hO rfl (c_requireHolder (rg_le (by omega) (show g ≤ 7 by omega) (by omega)) (by omega)) ?_
  rintro hq _ ⟨e1, rfl⟩
  rw [e1]
  clear e1 hq
  show am_Rq _ 30 15 [some (.ref 2), some (.int (nI a)), some (.int (nI f)), some (.int (nI g)), some (.int (nI n)), none] [] _ _
  refine am_Rq.blk (is := [(.iload_n 2, 1), (.iload_n 3, 1)]) (q := (17, [some (.ref 2), some (.int (nI a)), some (.int (nI f)), some (.int (nI g)), some (.int (nI n)), none], [.int (nI g), .int (nI f)])) (by decide +kernel) rfl ?_
  dsimp only
  refine am_Rq.if2F (show decode (am_by 30) 17 = .ok (.if_icmp .eq 9, 3) by decide +kernel) (by decide) (by rw [nm_eq (by omega) (by omega)]; exact decide_eq_false hfg) ?_
  refine am_Rq.blk (is := [(.iload 4, 2), (.iconst 1, 1)]) (q := (23, [some (.ref 2), some (.int (nI a)), some (.int (nI f)), some (.int (nI g)), some (.int (nI n)), none], [.int (nI 1), .int (nI n)])) (by decide +kernel) rfl ?_
  dsimp only
  refine am_Rq.if2T (t := 34) (show decode (am_by 30) 23 = .ok (.if_icmp .ge 11, 3) by decide +kernel) (by decide) (by rw [nm_ge (by omega) (by omega)]; exact decide_eq_true h1) ?_
  refine am_Rq.blk (is := [(.aload_n 0, 1)]) (q := (35, [some (.ref 2), some (.int (nI a)), some (.int (nI f)), some (.int (nI g)), some (.int (nI n)), none], [.ref 2])) (by decide +kernel) rfl ?_
  dsimp only
  refine am_Rq.getf (v := .ref 3) (show decode (am_by 30) 35 = .ok (.getfield 12, 3) by decide +kernel) rfl hO rfl ?_
  refine am_Rq.getf (v := .ref (3 + 1)) (show decode (am_by 30) 38 = .ok (.getfield 48, 3) by decide +kernel) rfl (Led.lg h) rfl ?_
  refine am_Rq.blk (is := [(.iload_n 1, 1)]) (q := (42, [some (.ref 2), some (.int (nI a)), some (.int (nI f)), some (.int (nI g)), some (.int (nI n)), none], [.int (nI a), .ref (3 + 1)])) (by decide +kernel) rfl ?_
  dsimp only
  refine am_Rq.ral (k := a) (show decode (am_by 30) 42 = .ok (.aaload, 1) by decide +kernel) (Led.ca h) rfl (by omega) (by omega) ?_
  refine am_Rq.blk (is := [(.astore 5, 2), (.aload 5, 2)]) (q := (47, [some (.ref 2), some (.int (nI a)), some (.int (nI f)), some (.int (nI g)), some (.int (nI n)), some (.ref (3 + 2 + 2 * a))], [.ref (3 + 2 + 2 * a)])) (by decide +kernel) rfl ?_
  dsimp only
  refine am_Rq.getf (v := .ref (3 + 3 + 2 * a)) (show decode (am_by 30) 47 = .ok (.getfield 76, 3) by decide +kernel) rfl (Led.sc h (by omega)) rfl ?_
  refine am_Rq.blk (is := [(.iload_n 2, 1)]) (q := (51, [some (.ref 2), some (.int (nI a)), some (.int (nI f)), some (.int (nI g)), some (.int (nI n)), some (.ref (3 + 2 + 2 * a))], [.int (nI f), .ref (3 + 3 + 2 * a)])) (by decide +kernel) rfl ?_
  dsimp only
  refine Led.gHd (c := a) (k := f) h (by omega) (by omega) (show decode (am_by 30) 51 = .ok (.iaload, 1) by decide +kernel) ?_
  refine am_Rq.blk (is := [(.iload 4, 2)]) (q := (54, [some (.ref 2), some (.int (nI a)), some (.int (nI f)), some (.int (nI g)), some (.int (nI n)), some (.ref (3 + 2 + 2 * a))], [.int (nI n), .int (nI (t (40 + 8 * a + f)))])) (by decide +kernel) rfl ?_
  dsimp only
  refine am_Rq.if2T (t := 65) (show decode (am_by 30) 54 = .ok (.if_icmp .ge 11, 3) by decide +kernel) (by decide) (by rw [nm_ge hn2 (by omega)]; exact decide_eq_true hn) ?_
  refine am_Rq.blk (is := [(.aload_n 0, 1)]) (q := (66, [some (.ref 2), some (.int (nI a)), some (.int (nI f)), some (.int (nI g)), some (.int (nI n)), some (.ref (3 + 2 + 2 * a))], [.ref 2])) (by decide +kernel) rfl ?_
  dsimp only
  refine am_Rq.getf (v := .ref 26) (show decode (am_by 30) 66 = .ok (.getfield 19, 3) by decide +kernel) rfl hO rfl ?_
  refine am_Rq.blk (is := [(.aload_n 0, 1)]) (q := (70, [some (.ref 2), some (.int (nI a)), some (.int (nI f)), some (.int (nI g)), some (.int (nI n)), some (.ref (3 + 2 + 2 * a))], [.ref 2, .ref 26])) (by decide +kernel) rfl ?_
  dsimp only
  refine am_Rq.getf (v := .ref 3) (show decode (am_by 30) 70 = .ok (.getfield 12, 3) by decide +kernel) rfl hO rfl ?_
  refine am_Rq.callV (show decode (am_by 30) 73 = .ok (.invokevirtual 44, 3) by decide +kernel) rfl [.ref 3] [] rfl rfl (Nat.le_of_ble_eq_true rfl) rfl hH.2.2.2.1 rfl (c_keep h hH (by omega) ok.e) ?_
  rintro hp1 _ ⟨rfl, hL1, hH1, hf1⟩
  have hc1_2 := (hf1.2.2 2 (fun q => by have := q.1; omega)).trans hO
  show am_Rq _ 30 76 [some (.ref 2), some (.int (nI a)), some (.int (nI f)), some (.int (nI g)), some (.int (nI n)), some (.ref (3 + 2 + 2 * a))] [] _ _
  refine am_Rq.blk (is := [(.aload 5, 2), (.iload_n 2, 1), (.iload 4, 2)]) (q := (81, [some (.ref 2), some (.int (nI a)), some (.int (nI f)), some (.int (nI g)), some (.int (nI n)), some (.ref (3 + 2 + 2 * a))], [.int (nI n), .int (nI f), .ref (3 + 2 + 2 * a)])) (by decide +kernel) rfl ?_
  dsimp only
  refine am_Rq.callV (show decode (am_by 30) 81 = .ok (.invokevirtual 80, 3) by decide +kernel) rfl [.int (nI f), .int (nI n)] [] rfl rfl (Nat.le_of_ble_eq_true rfl) rfl (Led.sc hL1 (by omega)) rfl (c_take hL1 (by omega) hf hn (by omega)) ?_
  rintro hp2 _ ⟨rfl, hL2, hf2⟩
  have hc2_2 := (hf2.2.2 (2) (fun q => by obtain ⟨_, _⟩ := q; omega)).trans hc1_2
  show am_Rq _ 30 84 [some (.ref 2), some (.int (nI a)), some (.int (nI f)), some (.int (nI g)), some (.int (nI n)), some (.ref (3 + 2 + 2 * a))] [] _ _
  refine am_Rq.blk (is := [(.aload 5, 2), (.iload_n 3, 1), (.iload 4, 2)]) (q := (89, [some (.ref 2), some (.int (nI a)), some (.int (nI f)), some (.int (nI g)), some (.int (nI n)), some (.ref (3 + 2 + 2 * a))], [.int (nI n), .int (nI g), .ref (3 + 2 + 2 * a)])) (by decide +kernel) rfl ?_
  dsimp only
  refine am_Rq.callV (show decode (am_by 30) 89 = .ok (.invokevirtual 72, 3) by decide +kernel) rfl [.int (nI g), .int (nI n)] [] rfl rfl (Nat.le_of_ble_eq_true rfl) rfl (Led.sc hL2 (by omega)) rfl (c_give hL2 (by omega) hg) ?_
  rintro hp3 _ ⟨rfl, hL3, hf3⟩
  have hc3_2 := (hf3.2.2 (2) (fun q => by obtain ⟨_, _⟩ := q; omega)).trans hc2_2
  show am_Rq _ 30 92 [some (.ref 2), some (.int (nI a)), some (.int (nI f)), some (.int (nI g)), some (.int (nI n)), some (.ref (3 + 2 + 2 * a))] [] _ _
  refine am_Rq.blk (is := [(.aload 5, 2)]) (q := (94, [some (.ref 2), some (.int (nI a)), some (.int (nI f)), some (.int (nI g)), some (.int (nI n)), some (.ref (3 + 2 + 2 * a))], [.ref (3 + 2 + 2 * a)])) (by decide +kernel) rfl ?_
  dsimp only
  refine am_Rq.getf (v := .ref (3 + 3 + 2 * a)) (show decode (am_by 30) 94 = .ok (.getfield 76, 3) by decide +kernel) rfl (Led.sc hL3 (by omega)) rfl ?_
  refine am_Rq.blk (is := [(.iload_n 3, 1)]) (q := (98, [some (.ref 2), some (.int (nI a)), some (.int (nI f)), some (.int (nI g)), some (.int (nI n)), some (.ref (3 + 2 + 2 * a))], [.int (nI g), .ref (3 + 3 + 2 * a)])) (by decide +kernel) rfl ?_
  dsimp only
  refine Led.gHd (c := a) (k := g) hL3 (by omega) (by omega) (show decode (am_by 30) 98 = .ok (.iaload, 1) by decide +kernel) ?_
  refine am_Rq.ret (v := some (.int (nI ((va_up (va_up (va_up (va_up t (40 + 8 * a + f) (t (40 + 8 * a + f) - n)) (8 * a + 7) (t (8 * a + 7) - n)) (40 + 8 * a + g) ((va_up (va_up t (40 + 8 * a + f) (t (40 + 8 * a + f) - n)) (8 * a + 7) (t (8 * a + 7) - n)) (40 + 8 * a + g) + n)) (8 * a + 7) ((va_up (va_up t (40 + 8 * a + f) (t (40 + 8 * a + f) - n)) (8 * a + 7) (t (8 * a + 7) - n)) (8 * a + 7) + n)) (40 + 8 * a + g))))) (show decode (am_by 30) 99 = .ok (.ireturn, 1) by decide +kernel) rfl rfl ?_
  exact ⟨_, rfl, rfl, hL3, c_H.kept hH1 (fun a ha => (hf2.trans hf3).2.2 a (fun q => by obtain ⟨_, _⟩ := q; obtain ⟨_, _⟩ := ha; omega)), (((hf1.mono (fun a q => by obtain ⟨_, _⟩ := q; exact ⟨by omega, by omega⟩)).trans (hf2.mono (fun a q => by obtain ⟨_, _⟩ := q; exact ⟨by omega, by omega⟩))).trans (hf3.mono (fun a q => by obtain ⟨_, _⟩ := q; exact ⟨by omega, by omega⟩)))⟩
theorem c_transfer_no1 (hO : hp[2]? = some (0, [.ref 3, .ref 26, .ref 212])) {t : Nat → Nat} (h : Led hp 3 t) {K : Nat} (ok : c_ok K t) (hK : K ≤ 900) (h4 : 4 ≤ d) {x y z u : Int32} (hx : rg_r (nI 0) (nI (t 153) - nI 1) x = false) : am_Rq (d + 3) 30 0 (am_en [.ref 2, .int x, .int y, .int z, .int u] 6) [] hp (c_No 2 hp) := by
  show am_Rq _ 30 0 [some (.ref 2), some (.int x), some (.int y), some (.int z), some (.int u), none] [] _ _
  have hB := ok.b (by omega)
  refine am_Rq.blk (is := [(.aload_n 0, 1), (.iload_n 1, 1)]) (q := (2, [some (.ref 2), some (.int x), some (.int y), some (.int z), some (.int u), none], [.int x, .ref 2])) (by decide +kernel) rfl ?_
  dsimp only
  exact am_Rq.callNo (show decode (am_by 30) 2 = .ok (.invokevirtual 58, 3) by decide +kernel) rfl [.int x] [] rfl rfl (Nat.le_of_ble_eq_true rfl) rfl hO rfl rfl (c_requireClass_no hO h (hx) (by omega)) ⟨rfl, rfl⟩
theorem c_transfer_no2 (hO : hp[2]? = some (0, [.ref 3, .ref 26, .ref 212])) {t : Nat → Nat} (h : Led hp 3 t) {K : Nat} (ok : c_ok K t) (hK : K ≤ 900) (h4 : 4 ≤ d) {a : Nat} (ha : a < t 153) {y z u : Int32} (hy : rg_r (nI 0) (nI 7) y = false) : am_Rq (d + 3) 30 0 (am_en [.ref 2, .int (nI a), .int y, .int z, .int u] 6) [] hp (c_No 2 hp) := by
  show am_Rq _ 30 0 [some (.ref 2), some (.int (nI a)), some (.int y), some (.int z), some (.int u), none] [] _ _
  have hB := ok.b (by omega)
  refine am_Rq.blk (is := [(.aload_n 0, 1), (.iload_n 1, 1)]) (q := (2, [some (.ref 2), some (.int (nI a)), some (.int y), some (.int z), some (.int u), none], [.int (nI a), .ref 2])) (by decide +kernel) rfl ?_
  dsimp only
  refine am_Rq.callV (show decode (am_by 30) 2 = .ok (.invokevirtual 58, 3) by decide +kernel) rfl [.int (nI a)] [] rfl rfl (Nat.le_of_ble_eq_true rfl) rfl hO rfl (c_requireClass hO h (rg_lt ha (hB _ (by omega))) (by omega)) ?_
  rintro hq _ ⟨e1, rfl⟩
  rw [e1]
  clear e1 hq
  show am_Rq _ 30 5 [some (.ref 2), some (.int (nI a)), some (.int y), some (.int z), some (.int u), none] [] _ _
  refine am_Rq.blk (is := [(.aload_n 0, 1), (.iload_n 2, 1)]) (q := (7, [some (.ref 2), some (.int (nI a)), some (.int y), some (.int z), some (.int u), none], [.int y, .ref 2])) (by decide +kernel) rfl ?_
  dsimp only
  exact am_Rq.callNo (show decode (am_by 30) 7 = .ok (.invokevirtual 62, 3) by decide +kernel) rfl [.int y] [] rfl rfl (Nat.le_of_ble_eq_true rfl) rfl hO rfl rfl (c_requireHolder_no (hy) (by omega)) ⟨rfl, rfl⟩
theorem c_transfer_no3 (hO : hp[2]? = some (0, [.ref 3, .ref 26, .ref 212])) {t : Nat → Nat} (h : Led hp 3 t) {K : Nat} (ok : c_ok K t) (hK : K ≤ 900) (h4 : 4 ≤ d) {a f : Nat} (ha : a < t 153) (hf : f < 8) {z u : Int32} (hz : rg_r (nI 0) (nI 7) z = false) : am_Rq (d + 3) 30 0 (am_en [.ref 2, .int (nI a), .int (nI f), .int z, .int u] 6) [] hp (c_No 2 hp) := by
  show am_Rq _ 30 0 [some (.ref 2), some (.int (nI a)), some (.int (nI f)), some (.int z), some (.int u), none] [] _ _
  have hB := ok.b (by omega)
  refine am_Rq.blk (is := [(.aload_n 0, 1), (.iload_n 1, 1)]) (q := (2, [some (.ref 2), some (.int (nI a)), some (.int (nI f)), some (.int z), some (.int u), none], [.int (nI a), .ref 2])) (by decide +kernel) rfl ?_
  dsimp only
  refine am_Rq.callV (show decode (am_by 30) 2 = .ok (.invokevirtual 58, 3) by decide +kernel) rfl [.int (nI a)] [] rfl rfl (Nat.le_of_ble_eq_true rfl) rfl hO rfl (c_requireClass hO h (rg_lt ha (hB _ (by omega))) (by omega)) ?_
  rintro hq _ ⟨e1, rfl⟩
  rw [e1]
  clear e1 hq
  show am_Rq _ 30 5 [some (.ref 2), some (.int (nI a)), some (.int (nI f)), some (.int z), some (.int u), none] [] _ _
  refine am_Rq.blk (is := [(.aload_n 0, 1), (.iload_n 2, 1)]) (q := (7, [some (.ref 2), some (.int (nI a)), some (.int (nI f)), some (.int z), some (.int u), none], [.int (nI f), .ref 2])) (by decide +kernel) rfl ?_
  dsimp only
  refine am_Rq.callV (show decode (am_by 30) 7 = .ok (.invokevirtual 62, 3) by decide +kernel) rfl [.int (nI f)] [] rfl rfl (Nat.le_of_ble_eq_true rfl) rfl hO rfl (c_requireHolder (rg_le (by omega) (show f ≤ 7 by omega) (by omega)) (by omega)) ?_
  rintro hq _ ⟨e1, rfl⟩
  rw [e1]
  clear e1 hq
  show am_Rq _ 30 10 [some (.ref 2), some (.int (nI a)), some (.int (nI f)), some (.int z), some (.int u), none] [] _ _
  refine am_Rq.blk (is := [(.aload_n 0, 1), (.iload_n 3, 1)]) (q := (12, [some (.ref 2), some (.int (nI a)), some (.int (nI f)), some (.int z), some (.int u), none], [.int z, .ref 2])) (by decide +kernel) rfl ?_
  dsimp only
  exact am_Rq.callNo (show decode (am_by 30) 12 = .ok (.invokevirtual 62, 3) by decide +kernel) rfl [.int z] [] rfl rfl (Nat.le_of_ble_eq_true rfl) rfl hO rfl rfl (c_requireHolder_no (hz) (by omega)) ⟨rfl, rfl⟩
theorem c_transfer_no4 (hO : hp[2]? = some (0, [.ref 3, .ref 26, .ref 212])) {t : Nat → Nat} (h : Led hp 3 t) {K : Nat} (ok : c_ok K t) (hK : K ≤ 900) (h4 : 4 ≤ d) {a f g : Nat} (ha : a < t 153) (hf : f < 8) (hg : g < 8) {u : Int32} (hu : f = g ∨ u < nI 1) : am_Rq (d + 3) 30 0 (am_en [.ref 2, .int (nI a), .int (nI f), .int (nI g), .int u] 6) [] hp (c_No 0 hp) := by
  show am_Rq _ 30 0 [some (.ref 2), some (.int (nI a)), some (.int (nI f)), some (.int (nI g)), some (.int u), none] [] _ _
  have hB := ok.b (by omega)
  refine am_Rq.blk (is := [(.aload_n 0, 1), (.iload_n 1, 1)]) (q := (2, [some (.ref 2), some (.int (nI a)), some (.int (nI f)), some (.int (nI g)), some (.int u), none], [.int (nI a), .ref 2])) (by decide +kernel) rfl ?_
  dsimp only
  refine am_Rq.callV (show decode (am_by 30) 2 = .ok (.invokevirtual 58, 3) by decide +kernel) rfl [.int (nI a)] [] rfl rfl (Nat.le_of_ble_eq_true rfl) rfl hO rfl (c_requireClass hO h (rg_lt ha (hB _ (by omega))) (by omega)) ?_
  rintro hq _ ⟨e1, rfl⟩
  rw [e1]
  clear e1 hq
  show am_Rq _ 30 5 [some (.ref 2), some (.int (nI a)), some (.int (nI f)), some (.int (nI g)), some (.int u), none] [] _ _
  refine am_Rq.blk (is := [(.aload_n 0, 1), (.iload_n 2, 1)]) (q := (7, [some (.ref 2), some (.int (nI a)), some (.int (nI f)), some (.int (nI g)), some (.int u), none], [.int (nI f), .ref 2])) (by decide +kernel) rfl ?_
  dsimp only
  refine am_Rq.callV (show decode (am_by 30) 7 = .ok (.invokevirtual 62, 3) by decide +kernel) rfl [.int (nI f)] [] rfl rfl (Nat.le_of_ble_eq_true rfl) rfl hO rfl (c_requireHolder (rg_le (by omega) (show f ≤ 7 by omega) (by omega)) (by omega)) ?_
  rintro hq _ ⟨e1, rfl⟩
  rw [e1]
  clear e1 hq
  show am_Rq _ 30 10 [some (.ref 2), some (.int (nI a)), some (.int (nI f)), some (.int (nI g)), some (.int u), none] [] _ _
  refine am_Rq.blk (is := [(.aload_n 0, 1), (.iload_n 3, 1)]) (q := (12, [some (.ref 2), some (.int (nI a)), some (.int (nI f)), some (.int (nI g)), some (.int u), none], [.int (nI g), .ref 2])) (by decide +kernel) rfl ?_
  dsimp only
  refine am_Rq.callV (show decode (am_by 30) 12 = .ok (.invokevirtual 62, 3) by decide +kernel) rfl [.int (nI g)] [] rfl rfl (Nat.le_of_ble_eq_true rfl) rfl hO rfl (c_requireHolder (rg_le (by omega) (show g ≤ 7 by omega) (by omega)) (by omega)) ?_
  rintro hq _ ⟨e1, rfl⟩
  rw [e1]
  clear e1 hq
  show am_Rq _ 30 15 [some (.ref 2), some (.int (nI a)), some (.int (nI f)), some (.int (nI g)), some (.int u), none] [] _ _
  refine am_Rq.blk (is := [(.iload_n 2, 1), (.iload_n 3, 1)]) (q := (17, [some (.ref 2), some (.int (nI a)), some (.int (nI f)), some (.int (nI g)), some (.int u), none], [.int (nI g), .int (nI f)])) (by decide +kernel) rfl ?_
  dsimp only
  refine am_Rq.if2 (t := 26) (show decode (am_by 30) 17 = .ok (.if_icmp .eq 9, 3) by decide +kernel) (by decide) (fun he => ?_) (fun he => ?_)
  ·
    rw [nm_eq (by omega) (by omega)] at he
    have he := of_decide_eq_true he
    refine am_Rq.thrN (k := 0) (ic := 36) (show decode (am_by 30) 26 = .ok (.new 34, 3) by decide +kernel) rfl (by omega) rfl (show decode (am_by 30) 29 = .ok (.dup, 1) by decide +kernel) (show decode (am_by 30) 30 = .ok (.invokespecial 36, 3) by decide +kernel) (show decode (am_by 30) 33 = .ok (.athrow, 1) by decide +kernel) ?_
    exact ⟨rfl, rfl⟩
  ·
    rw [nm_eq (by omega) (by omega)] at he
    have he := of_decide_eq_false he
    refine am_Rq.blk (is := [(.iload 4, 2), (.iconst 1, 1)]) (q := (23, [some (.ref 2), some (.int (nI a)), some (.int (nI f)), some (.int (nI g)), some (.int u), none], [.int (nI 1), .int u])) (by decide +kernel) rfl ?_
    dsimp only
    refine am_Rq.if2F (show decode (am_by 30) 23 = .ok (.if_icmp .ge 11, 3) by decide +kernel) (by decide) (by have z : u < nI 1 := hu.resolve_left he; exact decide_eq_false (by rw [Int32.not_le]; exact z)) ?_
    refine am_Rq.thrN (k := 0) (ic := 36) (show decode (am_by 30) 26 = .ok (.new 34, 3) by decide +kernel) rfl (by omega) rfl (show decode (am_by 30) 29 = .ok (.dup, 1) by decide +kernel) (show decode (am_by 30) 30 = .ok (.invokespecial 36, 3) by decide +kernel) (show decode (am_by 30) 33 = .ok (.athrow, 1) by decide +kernel) ?_
    exact ⟨rfl, rfl⟩
theorem c_transfer_no5 (hO : hp[2]? = some (0, [.ref 3, .ref 26, .ref 212])) {t : Nat → Nat} (h : Led hp 3 t) {K : Nat} (ok : c_ok K t) (hK : K ≤ 900) (h4 : 4 ≤ d) {a f g : Nat} (ha : a < t 153) (hf : f < 8) (hg : g < 8) {n : Nat} (hfg : f ≠ g) (h1 : 1 ≤ n) (hn2 : n < 2 ^ 31) (hn : t (40 + 8 * a + f) < n) : am_Rq (d + 3) 30 0 (am_en [.ref 2, .int (nI a), .int (nI f), .int (nI g), .int (nI n)] 6) [] hp (c_No 1 hp) := by
  show am_Rq _ 30 0 [some (.ref 2), some (.int (nI a)), some (.int (nI f)), some (.int (nI g)), some (.int (nI n)), none] [] _ _
  have hB := ok.b (by omega)
  have h153 := ok.2.2.2.2.2.2.1
  refine am_Rq.blk (is := [(.aload_n 0, 1), (.iload_n 1, 1)]) (q := (2, [some (.ref 2), some (.int (nI a)), some (.int (nI f)), some (.int (nI g)), some (.int (nI n)), none], [.int (nI a), .ref 2])) (by decide +kernel) rfl ?_
  dsimp only
  refine am_Rq.callV (show decode (am_by 30) 2 = .ok (.invokevirtual 58, 3) by decide +kernel) rfl [.int (nI a)] [] rfl rfl (Nat.le_of_ble_eq_true rfl) rfl hO rfl (c_requireClass hO h (rg_lt ha (hB _ (by omega))) (by omega)) ?_
  rintro hq _ ⟨e1, rfl⟩
  rw [e1]
  clear e1 hq
  show am_Rq _ 30 5 [some (.ref 2), some (.int (nI a)), some (.int (nI f)), some (.int (nI g)), some (.int (nI n)), none] [] _ _
  refine am_Rq.blk (is := [(.aload_n 0, 1), (.iload_n 2, 1)]) (q := (7, [some (.ref 2), some (.int (nI a)), some (.int (nI f)), some (.int (nI g)), some (.int (nI n)), none], [.int (nI f), .ref 2])) (by decide +kernel) rfl ?_
  dsimp only
  refine am_Rq.callV (show decode (am_by 30) 7 = .ok (.invokevirtual 62, 3) by decide +kernel) rfl [.int (nI f)] [] rfl rfl (Nat.le_of_ble_eq_true rfl) rfl hO rfl (c_requireHolder (rg_le (by omega) (show f ≤ 7 by omega) (by omega)) (by omega)) ?_
  rintro hq _ ⟨e1, rfl⟩
  rw [e1]
  clear e1 hq
  show am_Rq _ 30 10 [some (.ref 2), some (.int (nI a)), some (.int (nI f)), some (.int (nI g)), some (.int (nI n)), none] [] _ _
  refine am_Rq.blk (is := [(.aload_n 0, 1), (.iload_n 3, 1)]) (q := (12, [some (.ref 2), some (.int (nI a)), some (.int (nI f)), some (.int (nI g)), some (.int (nI n)), none], [.int (nI g), .ref 2])) (by decide +kernel) rfl ?_
  dsimp only
  refine am_Rq.callV (show decode (am_by 30) 12 = .ok (.invokevirtual 62, 3) by decide +kernel) rfl [.int (nI g)] [] rfl rfl (Nat.le_of_ble_eq_true rfl) rfl hO rfl (c_requireHolder (rg_le (by omega) (show g ≤ 7 by omega) (by omega)) (by omega)) ?_
  rintro hq _ ⟨e1, rfl⟩
  rw [e1]
  clear e1 hq
  show am_Rq _ 30 15 [some (.ref 2), some (.int (nI a)), some (.int (nI f)), some (.int (nI g)), some (.int (nI n)), none] [] _ _
  refine am_Rq.blk (is := [(.iload_n 2, 1), (.iload_n 3, 1)]) (q := (17, [some (.ref 2), some (.int (nI a)), some (.int (nI f)), some (.int (nI g)), some (.int (nI n)), none], [.int (nI g), .int (nI f)])) (by decide +kernel) rfl ?_
  dsimp only
  refine am_Rq.if2F (show decode (am_by 30) 17 = .ok (.if_icmp .eq 9, 3) by decide +kernel) (by decide) (by rw [nm_eq (by omega) (by omega)]; exact decide_eq_false hfg) ?_
  refine am_Rq.blk (is := [(.iload 4, 2), (.iconst 1, 1)]) (q := (23, [some (.ref 2), some (.int (nI a)), some (.int (nI f)), some (.int (nI g)), some (.int (nI n)), none], [.int (nI 1), .int (nI n)])) (by decide +kernel) rfl ?_
  dsimp only
  refine am_Rq.if2T (t := 34) (show decode (am_by 30) 23 = .ok (.if_icmp .ge 11, 3) by decide +kernel) (by decide) (by rw [nm_ge (by omega) (by omega)]; exact decide_eq_true h1) ?_
  refine am_Rq.blk (is := [(.aload_n 0, 1)]) (q := (35, [some (.ref 2), some (.int (nI a)), some (.int (nI f)), some (.int (nI g)), some (.int (nI n)), none], [.ref 2])) (by decide +kernel) rfl ?_
  dsimp only
  refine am_Rq.getf (v := .ref 3) (show decode (am_by 30) 35 = .ok (.getfield 12, 3) by decide +kernel) rfl hO rfl ?_
  refine am_Rq.getf (v := .ref (3 + 1)) (show decode (am_by 30) 38 = .ok (.getfield 48, 3) by decide +kernel) rfl (Led.lg h) rfl ?_
  refine am_Rq.blk (is := [(.iload_n 1, 1)]) (q := (42, [some (.ref 2), some (.int (nI a)), some (.int (nI f)), some (.int (nI g)), some (.int (nI n)), none], [.int (nI a), .ref (3 + 1)])) (by decide +kernel) rfl ?_
  dsimp only
  refine am_Rq.ral (k := a) (show decode (am_by 30) 42 = .ok (.aaload, 1) by decide +kernel) (Led.ca h) rfl (by omega) (by omega) ?_
  refine am_Rq.blk (is := [(.astore 5, 2), (.aload 5, 2)]) (q := (47, [some (.ref 2), some (.int (nI a)), some (.int (nI f)), some (.int (nI g)), some (.int (nI n)), some (.ref (3 + 2 + 2 * a))], [.ref (3 + 2 + 2 * a)])) (by decide +kernel) rfl ?_
  dsimp only
  refine am_Rq.getf (v := .ref (3 + 3 + 2 * a)) (show decode (am_by 30) 47 = .ok (.getfield 76, 3) by decide +kernel) rfl (Led.sc h (by omega)) rfl ?_
  refine am_Rq.blk (is := [(.iload_n 2, 1)]) (q := (51, [some (.ref 2), some (.int (nI a)), some (.int (nI f)), some (.int (nI g)), some (.int (nI n)), some (.ref (3 + 2 + 2 * a))], [.int (nI f), .ref (3 + 3 + 2 * a)])) (by decide +kernel) rfl ?_
  dsimp only
  refine Led.gHd (c := a) (k := f) h (by omega) (by omega) (show decode (am_by 30) 51 = .ok (.iaload, 1) by decide +kernel) ?_
  refine am_Rq.blk (is := [(.iload 4, 2)]) (q := (54, [some (.ref 2), some (.int (nI a)), some (.int (nI f)), some (.int (nI g)), some (.int (nI n)), some (.ref (3 + 2 + 2 * a))], [.int (nI n), .int (nI (t (40 + 8 * a + f)))])) (by decide +kernel) rfl ?_
  dsimp only
  refine am_Rq.if2F (show decode (am_by 30) 54 = .ok (.if_icmp .ge 11, 3) by decide +kernel) (by decide) (by rw [nm_ge (hB _ (by omega)) (by omega)]; exact decide_eq_false (by omega)) ?_
  refine am_Rq.thrN (k := 1) (ic := 43) (show decode (am_by 30) 57 = .ok (.new 41, 3) by decide +kernel) rfl (by omega) rfl (show decode (am_by 30) 60 = .ok (.dup, 1) by decide +kernel) (show decode (am_by 30) 61 = .ok (.invokespecial 43, 3) by decide +kernel) (show decode (am_by 30) 64 = .ok (.athrow, 1) by decide +kernel) ?_
  exact ⟨rfl, rfl⟩
theorem c_convert (hO : hp[2]? = some (0, [.ref 3, .ref 26, .ref 212])) {t : Nat → Nat} (h : Led hp 3 t) {K : Nat} (ok : c_ok K t) (hK : K ≤ 900) (h4 : 4 ≤ d) {nx ct : Nat} {ks : Nat → Nat → Nat} (hH : c_H hp 26 nx ct ks) {a k : Nat} (h0 : 1 ≤ a) (ha : a < t 153) (hk : k < 8) {n : Nat} (h1 : 1 ≤ n) (hn : n ≤ t (40 + 8 * a + k)) (h20 : t (8 * 0 + 7) + n * 1000 * t (8 * a) / t (8 * a + 6) ≤ 20000) : am_Rq (d + 3) 33 0 (am_en [.ref 2, .int (nI a), .int (nI k), .int (nI n)] 7) [] hp (am_Ret fun hp1 v => v = some (.int (nI (n * 1000 * t (8 * a) / t (8 * a + 6)))) ∧ Led hp1 3 (va_up (va_up (va_up (va_up t (40 + 8 * a + k) (t (40 + 8 * a + k) - n)) (8 * a + 7) (t (8 * a + 7) - n)) (40 + 8 * 0 + k) ((va_up (va_up t (40 + 8 * a + k) (t (40 + 8 * a + k) - n)) (8 * a + 7) (t (8 * a + 7) - n)) (40 + 8 * 0 + k) + n * 1000 * t (8 * a) / t (8 * a + 6))) (8 * 0 + 7) ((va_up (va_up t (40 + 8 * a + k) (t (40 + 8 * a + k) - n)) (8 * a + 7) (t (8 * a + 7) - n)) (8 * 0 + 7) + n * 1000 * t (8 * a) / t (8 * a + 6))) ∧ c_H hp1 26 ((nx + 1) % 8) (min (ct + 1) 8) (va_up ks nx t) ∧ am_fr c_all hp hp1) := by
  show am_Rq _ 33 0 [some (.ref 2), some (.int (nI a)), some (.int (nI k)), some (.int (nI n)), none, none, none] [] _ _
  have hB := ok.b (by omega)
  have h153 := ok.2.2.2.2.2.2.1
  obtain ⟨a0, a1, a2, a3, a4, a5, a6, a7, a8, a9, a10, a11⟩ := ok.1 a (by omega)
  obtain ⟨b0, b1, b2, b3, b4, b5, b6, b7, b8, b9, -⟩ := ok.1 0 (by omega)
  have hsum : t (40 + 8 * a + k) ≤ t (8 * a + 7) := by
    rw [a11]
    exact sp_sm_ge (f := fun h => t (40 + 8 * a + h)) hk
  have hpr := ok.pr (c := a) (n := n) (by omega) (by omega)
  have hcc : n * 1000 * t (8 * a) / t (8 * a + 6) ≤ 20000000 := Nat.le_trans (Nat.div_le_div_left a7 (by decide)) (by omega)
  refine am_Rq.blk (is := [(.aload_n 0, 1), (.iload_n 1, 1)]) (q := (2, [some (.ref 2), some (.int (nI a)), some (.int (nI k)), some (.int (nI n)), none, none, none], [.int (nI a), .ref 2])) (by decide +kernel) rfl ?_
  dsimp only
  refine am_Rq.callV (show decode (am_by 33) 2 = .ok (.invokevirtual 83, 3) by decide +kernel) rfl [.int (nI a)] [] rfl rfl (Nat.le_of_ble_eq_true rfl) rfl hO rfl (c_requirePreferred hO h (rg_lt1 h0 ha (hB _ (by omega))) (by omega)) ?_
  rintro hq _ ⟨e1, rfl⟩
  rw [e1]
  clear e1 hq
  show am_Rq _ 33 5 [some (.ref 2), some (.int (nI a)), some (.int (nI k)), some (.int (nI n)), none, none, none] [] _ _
  refine am_Rq.blk (is := [(.aload_n 0, 1), (.iload_n 2, 1)]) (q := (7, [some (.ref 2), some (.int (nI a)), some (.int (nI k)), some (.int (nI n)), none, none, none], [.int (nI k), .ref 2])) (by decide +kernel) rfl ?_
  dsimp only
  refine am_Rq.callV (show decode (am_by 33) 7 = .ok (.invokevirtual 62, 3) by decide +kernel) rfl [.int (nI k)] [] rfl rfl (Nat.le_of_ble_eq_true rfl) rfl hO rfl (c_requireHolder (rg_le (by omega) (show k ≤ 7 by omega) (by omega)) (by omega)) ?_
  rintro hq _ ⟨e1, rfl⟩
  rw [e1]
  clear e1 hq
  show am_Rq _ 33 10 [some (.ref 2), some (.int (nI a)), some (.int (nI k)), some (.int (nI n)), none, none, none] [] _ _
  refine am_Rq.blk (is := [(.iload_n 3, 1), (.iconst 1, 1)]) (q := (12, [some (.ref 2), some (.int (nI a)), some (.int (nI k)), some (.int (nI n)), none, none, none], [.int (nI 1), .int (nI n)])) (by decide +kernel) rfl ?_
  dsimp only
  refine am_Rq.if2T (t := 23) (show decode (am_by 33) 12 = .ok (.if_icmp .ge 11, 3) by decide +kernel) (by decide) (by rw [nm_ge (by omega) (by omega)]; exact decide_eq_true h1) ?_
  refine am_Rq.blk (is := [(.aload_n 0, 1)]) (q := (24, [some (.ref 2), some (.int (nI a)), some (.int (nI k)), some (.int (nI n)), none, none, none], [.ref 2])) (by decide +kernel) rfl ?_
  dsimp only
  refine am_Rq.getf (v := .ref 3) (show decode (am_by 33) 24 = .ok (.getfield 12, 3) by decide +kernel) rfl hO rfl ?_
  refine am_Rq.getf (v := .ref (3 + 1)) (show decode (am_by 33) 27 = .ok (.getfield 48, 3) by decide +kernel) rfl (Led.lg h) rfl ?_
  refine am_Rq.blk (is := [(.iload_n 1, 1)]) (q := (31, [some (.ref 2), some (.int (nI a)), some (.int (nI k)), some (.int (nI n)), none, none, none], [.int (nI a), .ref (3 + 1)])) (by decide +kernel) rfl ?_
  dsimp only
  refine am_Rq.ral (k := a) (show decode (am_by 33) 31 = .ok (.aaload, 1) by decide +kernel) (Led.ca h) rfl (by omega) (by omega) ?_
  refine am_Rq.blk (is := [(.astore 4, 2), (.aload_n 0, 1)]) (q := (35, [some (.ref 2), some (.int (nI a)), some (.int (nI k)), some (.int (nI n)), some (.ref (3 + 2 + 2 * a)), none, none], [.ref 2])) (by decide +kernel) rfl ?_
  dsimp only
  refine am_Rq.getf (v := .ref 3) (show decode (am_by 33) 35 = .ok (.getfield 12, 3) by decide +kernel) rfl hO rfl ?_
  refine am_Rq.getf (v := .ref (3 + 1)) (show decode (am_by 33) 38 = .ok (.getfield 48, 3) by decide +kernel) rfl (Led.lg h) rfl ?_
  refine am_Rq.blk (is := [(.iconst 0, 1)]) (q := (42, [some (.ref 2), some (.int (nI a)), some (.int (nI k)), some (.int (nI n)), some (.ref (3 + 2 + 2 * a)), none, none], [.int (nI 0), .ref (3 + 1)])) (by decide +kernel) rfl ?_
  dsimp only
  refine am_Rq.ral (k := 0) (show decode (am_by 33) 42 = .ok (.aaload, 1) by decide +kernel) (Led.ca h) rfl (by omega) (by omega) ?_
  refine am_Rq.blk (is := [(.astore 5, 2), (.aload 4, 2)]) (q := (47, [some (.ref 2), some (.int (nI a)), some (.int (nI k)), some (.int (nI n)), some (.ref (3 + 2 + 2 * a)), some (.ref (3 + 2 + 2 * 0)), none], [.ref (3 + 2 + 2 * a)])) (by decide +kernel) rfl ?_
  dsimp only
  refine am_Rq.getf (v := .ref (3 + 3 + 2 * a)) (show decode (am_by 33) 47 = .ok (.getfield 76, 3) by decide +kernel) rfl (Led.sc h (by omega)) rfl ?_
  refine am_Rq.blk (is := [(.iload_n 2, 1)]) (q := (51, [some (.ref 2), some (.int (nI a)), some (.int (nI k)), some (.int (nI n)), some (.ref (3 + 2 + 2 * a)), some (.ref (3 + 2 + 2 * 0)), none], [.int (nI k), .ref (3 + 3 + 2 * a)])) (by decide +kernel) rfl ?_
  dsimp only
  refine Led.gHd (c := a) (k := k) h (by omega) (by omega) (show decode (am_by 33) 51 = .ok (.iaload, 1) by decide +kernel) ?_
  refine am_Rq.blk (is := [(.iload_n 3, 1)]) (q := (53, [some (.ref 2), some (.int (nI a)), some (.int (nI k)), some (.int (nI n)), some (.ref (3 + 2 + 2 * a)), some (.ref (3 + 2 + 2 * 0)), none], [.int (nI n), .int (nI (t (40 + 8 * a + k)))])) (by decide +kernel) rfl ?_
  dsimp only
  refine am_Rq.if2T (t := 64) (show decode (am_by 33) 53 = .ok (.if_icmp .ge 11, 3) by decide +kernel) (by decide) (by rw [nm_ge (by omega) (by omega)]; exact decide_eq_true hn) ?_
  refine am_Rq.blk (is := [(.aload 4, 2), (.iload_n 3, 1)]) (q := (67, [some (.ref 2), some (.int (nI a)), some (.int (nI k)), some (.int (nI n)), some (.ref (3 + 2 + 2 * a)), some (.ref (3 + 2 + 2 * 0)), none], [.int (nI n), .ref (3 + 2 + 2 * a)])) (by decide +kernel) rfl ?_
  dsimp only
  refine am_Rq.callV (show decode (am_by 33) 67 = .ok (.invokevirtual 86, 3) by decide +kernel) rfl [.int (nI n)] [] rfl rfl (Nat.le_of_ble_eq_true rfl) rfl (Led.sc h (by omega)) rfl (c_inCommon h (by omega) (by omega) (by omega) (by omega) (by omega) (by omega)) ?_
  rintro hq _ ⟨e1, rfl⟩
  rw [e1]
  clear e1 hq
  show am_Rq _ 33 70 [some (.ref 2), some (.int (nI a)), some (.int (nI k)), some (.int (nI n)), some (.ref (3 + 2 + 2 * a)), some (.ref (3 + 2 + 2 * 0)), none] [.int (nI (n * 1000 * t (8 * a) / t (8 * a + 6)))] _ _
  refine am_Rq.blk (is := [(.istore 6, 2), (.aload 5, 2)]) (q := (74, [some (.ref 2), some (.int (nI a)), some (.int (nI k)), some (.int (nI n)), some (.ref (3 + 2 + 2 * a)), some (.ref (3 + 2 + 2 * 0)), some (.int (nI (n * 1000 * t (8 * a) / t (8 * a + 6))))], [.ref (3 + 2 + 2 * 0)])) (by decide +kernel) rfl ?_
  dsimp only
  refine am_Rq.getf (v := .int (nI (t (8 * 0 + 7)))) (show decode (am_by 33) 74 = .ok (.getfield 65, 3) by decide +kernel) rfl (Led.sc h (by omega)) rfl ?_
  refine am_Rq.blk (is := [(.iload 6, 2), (.iadd, 1)]) (q := (80, [some (.ref 2), some (.int (nI a)), some (.int (nI k)), some (.int (nI n)), some (.ref (3 + 2 + 2 * a)), some (.ref (3 + 2 + 2 * 0)), some (.int (nI (n * 1000 * t (8 * a) / t (8 * a + 6))))], [.int ((nI (t (8 * 0 + 7))) + (nI (n * 1000 * t (8 * a) / t (8 * a + 6))))])) (by decide +kernel) rfl ?_
  dsimp only
  rw [show (nI (t (8 * 0 + 7))) + (nI (n * 1000 * t (8 * a) / t (8 * a + 6))) = nI ((t (8 * 0 + 7)) + (n * 1000 * t (8 * a) / t (8 * a + 6))) from nI_add _ _]
  refine am_Rq.blk (is := [(.sipush 20000, 3)]) (q := (83, [some (.ref 2), some (.int (nI a)), some (.int (nI k)), some (.int (nI n)), some (.ref (3 + 2 + 2 * a)), some (.ref (3 + 2 + 2 * 0)), some (.int (nI (n * 1000 * t (8 * a) / t (8 * a + 6))))], [.int (nI 20000), .int (nI ((t (8 * 0 + 7)) + (n * 1000 * t (8 * a) / t (8 * a + 6))))])) (by decide +kernel) rfl ?_
  dsimp only
  refine am_Rq.if2T (t := 94) (show decode (am_by 33) 83 = .ok (.if_icmp .le 11, 3) by decide +kernel) (by decide) (by rw [nm_le (by omega) (by omega)]; exact decide_eq_true (by omega)) ?_
  refine am_Rq.blk (is := [(.aload_n 0, 1)]) (q := (95, [some (.ref 2), some (.int (nI a)), some (.int (nI k)), some (.int (nI n)), some (.ref (3 + 2 + 2 * a)), some (.ref (3 + 2 + 2 * 0)), some (.int (nI (n * 1000 * t (8 * a) / t (8 * a + 6))))], [.ref 2])) (by decide +kernel) rfl ?_
  dsimp only
  refine am_Rq.getf (v := .ref 26) (show decode (am_by 33) 95 = .ok (.getfield 19, 3) by decide +kernel) rfl hO rfl ?_
  refine am_Rq.blk (is := [(.aload_n 0, 1)]) (q := (99, [some (.ref 2), some (.int (nI a)), some (.int (nI k)), some (.int (nI n)), some (.ref (3 + 2 + 2 * a)), some (.ref (3 + 2 + 2 * 0)), some (.int (nI (n * 1000 * t (8 * a) / t (8 * a + 6))))], [.ref 2, .ref 26])) (by decide +kernel) rfl ?_
  dsimp only
  refine am_Rq.getf (v := .ref 3) (show decode (am_by 33) 99 = .ok (.getfield 12, 3) by decide +kernel) rfl hO rfl ?_
  refine am_Rq.callV (show decode (am_by 33) 102 = .ok (.invokevirtual 44, 3) by decide +kernel) rfl [.ref 3] [] rfl rfl (Nat.le_of_ble_eq_true rfl) rfl hH.2.2.2.1 rfl (c_keep h hH (by omega) ok.e) ?_
  rintro hp1 _ ⟨rfl, hL1, hH1, hf1⟩
  have hc1_2 := (hf1.2.2 2 (fun q => by have := q.1; omega)).trans hO
  show am_Rq _ 33 105 [some (.ref 2), some (.int (nI a)), some (.int (nI k)), some (.int (nI n)), some (.ref (3 + 2 + 2 * a)), some (.ref (3 + 2 + 2 * 0)), some (.int (nI (n * 1000 * t (8 * a) / t (8 * a + 6))))] [] _ _
  refine am_Rq.blk (is := [(.aload 4, 2), (.iload_n 2, 1), (.iload_n 3, 1)]) (q := (109, [some (.ref 2), some (.int (nI a)), some (.int (nI k)), some (.int (nI n)), some (.ref (3 + 2 + 2 * a)), some (.ref (3 + 2 + 2 * 0)), some (.int (nI (n * 1000 * t (8 * a) / t (8 * a + 6))))], [.int (nI n), .int (nI k), .ref (3 + 2 + 2 * a)])) (by decide +kernel) rfl ?_
  dsimp only
  refine am_Rq.callV (show decode (am_by 33) 109 = .ok (.invokevirtual 80, 3) by decide +kernel) rfl [.int (nI k), .int (nI n)] [] rfl rfl (Nat.le_of_ble_eq_true rfl) rfl (Led.sc hL1 (by omega)) rfl (c_take hL1 (by omega) hk hn (by omega)) ?_
  rintro hp2 _ ⟨rfl, hL2, hf2⟩
  have hc2_2 := (hf2.2.2 (2) (fun q => by obtain ⟨_, _⟩ := q; omega)).trans hc1_2
  show am_Rq _ 33 112 [some (.ref 2), some (.int (nI a)), some (.int (nI k)), some (.int (nI n)), some (.ref (3 + 2 + 2 * a)), some (.ref (3 + 2 + 2 * 0)), some (.int (nI (n * 1000 * t (8 * a) / t (8 * a + 6))))] [] _ _
  refine am_Rq.blk (is := [(.aload 5, 2), (.iload_n 2, 1), (.iload 6, 2)]) (q := (117, [some (.ref 2), some (.int (nI a)), some (.int (nI k)), some (.int (nI n)), some (.ref (3 + 2 + 2 * a)), some (.ref (3 + 2 + 2 * 0)), some (.int (nI (n * 1000 * t (8 * a) / t (8 * a + 6))))], [.int (nI (n * 1000 * t (8 * a) / t (8 * a + 6))), .int (nI k), .ref (3 + 2 + 2 * 0)])) (by decide +kernel) rfl ?_
  dsimp only
  refine am_Rq.callV (show decode (am_by 33) 117 = .ok (.invokevirtual 72, 3) by decide +kernel) rfl [.int (nI k), .int (nI (n * 1000 * t (8 * a) / t (8 * a + 6)))] [] rfl rfl (Nat.le_of_ble_eq_true rfl) rfl (Led.sc hL2 (by omega)) rfl (c_give (c := 0) hL2 (by omega) hk) ?_
  rintro hp3 _ ⟨rfl, hL3, hf3⟩
  have hc3_2 := (hf3.2.2 (2) (fun q => by obtain ⟨_, _⟩ := q; omega)).trans hc2_2
  show am_Rq _ 33 120 [some (.ref 2), some (.int (nI a)), some (.int (nI k)), some (.int (nI n)), some (.ref (3 + 2 + 2 * a)), some (.ref (3 + 2 + 2 * 0)), some (.int (nI (n * 1000 * t (8 * a) / t (8 * a + 6))))] [] _ _
  refine am_Rq.blk (is := [(.iload 6, 2)]) (q := (122, [some (.ref 2), some (.int (nI a)), some (.int (nI k)), some (.int (nI n)), some (.ref (3 + 2 + 2 * a)), some (.ref (3 + 2 + 2 * 0)), some (.int (nI (n * 1000 * t (8 * a) / t (8 * a + 6))))], [.int (nI (n * 1000 * t (8 * a) / t (8 * a + 6)))])) (by decide +kernel) rfl ?_
  dsimp only
  refine am_Rq.ret (v := some (.int (nI (n * 1000 * t (8 * a) / t (8 * a + 6))))) (show decode (am_by 33) 122 = .ok (.ireturn, 1) by decide +kernel) rfl rfl ?_
  exact ⟨_, rfl, rfl, hL3, c_H.kept hH1 (fun a ha => (hf2.trans hf3).2.2 a (fun q => by obtain ⟨_, _⟩ := q; obtain ⟨_, _⟩ := ha; omega)), (((hf1.mono (fun a q => by obtain ⟨_, _⟩ := q; exact ⟨by omega, by omega⟩)).trans (hf2.mono (fun a q => by obtain ⟨_, _⟩ := q; exact ⟨by omega, by omega⟩))).trans (hf3.mono (fun a q => by obtain ⟨_, _⟩ := q; exact ⟨by omega, by omega⟩)))⟩
theorem c_convert_no5 (hO : hp[2]? = some (0, [.ref 3, .ref 26, .ref 212])) {t : Nat → Nat} (h : Led hp 3 t) {K : Nat} (ok : c_ok K t) (hK : K ≤ 900) (h4 : 4 ≤ d) {a k : Nat} (h0 : 1 ≤ a) (ha : a < t 153) (hk : k < 8) {n : Nat} (h1 : 1 ≤ n) (hn : n ≤ t (40 + 8 * a + k)) (h20 : 20000 < t (8 * 0 + 7) + n * 1000 * t (8 * a) / t (8 * a + 6)) : am_Rq (d + 3) 33 0 (am_en [.ref 2, .int (nI a), .int (nI k), .int (nI n)] 7) [] hp (c_No 1 hp) := by
  show am_Rq _ 33 0 [some (.ref 2), some (.int (nI a)), some (.int (nI k)), some (.int (nI n)), none, none, none] [] _ _
  have hB := ok.b (by omega)
  have h153 := ok.2.2.2.2.2.2.1
  obtain ⟨a0, a1, a2, a3, a4, a5, a6, a7, a8, a9, a10, a11⟩ := ok.1 a (by omega)
  obtain ⟨b0, b1, b2, b3, b4, b5, b6, b7, b8, b9, -⟩ := ok.1 0 (by omega)
  have hsum : t (40 + 8 * a + k) ≤ t (8 * a + 7) := by
    rw [a11]
    exact sp_sm_ge (f := fun h => t (40 + 8 * a + h)) hk
  have hpr := ok.pr (c := a) (n := n) (by omega) (by omega)
  have hcc : n * 1000 * t (8 * a) / t (8 * a + 6) ≤ 20000000 := Nat.le_trans (Nat.div_le_div_left a7 (by decide)) (by omega)
  refine am_Rq.blk (is := [(.aload_n 0, 1), (.iload_n 1, 1)]) (q := (2, [some (.ref 2), some (.int (nI a)), some (.int (nI k)), some (.int (nI n)), none, none, none], [.int (nI a), .ref 2])) (by decide +kernel) rfl ?_
  dsimp only
  refine am_Rq.callV (show decode (am_by 33) 2 = .ok (.invokevirtual 83, 3) by decide +kernel) rfl [.int (nI a)] [] rfl rfl (Nat.le_of_ble_eq_true rfl) rfl hO rfl (c_requirePreferred hO h (rg_lt1 h0 ha (hB _ (by omega))) (by omega)) ?_
  rintro hq _ ⟨e1, rfl⟩
  rw [e1]
  clear e1 hq
  show am_Rq _ 33 5 [some (.ref 2), some (.int (nI a)), some (.int (nI k)), some (.int (nI n)), none, none, none] [] _ _
  refine am_Rq.blk (is := [(.aload_n 0, 1), (.iload_n 2, 1)]) (q := (7, [some (.ref 2), some (.int (nI a)), some (.int (nI k)), some (.int (nI n)), none, none, none], [.int (nI k), .ref 2])) (by decide +kernel) rfl ?_
  dsimp only
  refine am_Rq.callV (show decode (am_by 33) 7 = .ok (.invokevirtual 62, 3) by decide +kernel) rfl [.int (nI k)] [] rfl rfl (Nat.le_of_ble_eq_true rfl) rfl hO rfl (c_requireHolder (rg_le (by omega) (show k ≤ 7 by omega) (by omega)) (by omega)) ?_
  rintro hq _ ⟨e1, rfl⟩
  rw [e1]
  clear e1 hq
  show am_Rq _ 33 10 [some (.ref 2), some (.int (nI a)), some (.int (nI k)), some (.int (nI n)), none, none, none] [] _ _
  refine am_Rq.blk (is := [(.iload_n 3, 1), (.iconst 1, 1)]) (q := (12, [some (.ref 2), some (.int (nI a)), some (.int (nI k)), some (.int (nI n)), none, none, none], [.int (nI 1), .int (nI n)])) (by decide +kernel) rfl ?_
  dsimp only
  refine am_Rq.if2T (t := 23) (show decode (am_by 33) 12 = .ok (.if_icmp .ge 11, 3) by decide +kernel) (by decide) (by rw [nm_ge (by omega) (by omega)]; exact decide_eq_true h1) ?_
  refine am_Rq.blk (is := [(.aload_n 0, 1)]) (q := (24, [some (.ref 2), some (.int (nI a)), some (.int (nI k)), some (.int (nI n)), none, none, none], [.ref 2])) (by decide +kernel) rfl ?_
  dsimp only
  refine am_Rq.getf (v := .ref 3) (show decode (am_by 33) 24 = .ok (.getfield 12, 3) by decide +kernel) rfl hO rfl ?_
  refine am_Rq.getf (v := .ref (3 + 1)) (show decode (am_by 33) 27 = .ok (.getfield 48, 3) by decide +kernel) rfl (Led.lg h) rfl ?_
  refine am_Rq.blk (is := [(.iload_n 1, 1)]) (q := (31, [some (.ref 2), some (.int (nI a)), some (.int (nI k)), some (.int (nI n)), none, none, none], [.int (nI a), .ref (3 + 1)])) (by decide +kernel) rfl ?_
  dsimp only
  refine am_Rq.ral (k := a) (show decode (am_by 33) 31 = .ok (.aaload, 1) by decide +kernel) (Led.ca h) rfl (by omega) (by omega) ?_
  refine am_Rq.blk (is := [(.astore 4, 2), (.aload_n 0, 1)]) (q := (35, [some (.ref 2), some (.int (nI a)), some (.int (nI k)), some (.int (nI n)), some (.ref (3 + 2 + 2 * a)), none, none], [.ref 2])) (by decide +kernel) rfl ?_
  dsimp only
  refine am_Rq.getf (v := .ref 3) (show decode (am_by 33) 35 = .ok (.getfield 12, 3) by decide +kernel) rfl hO rfl ?_
  refine am_Rq.getf (v := .ref (3 + 1)) (show decode (am_by 33) 38 = .ok (.getfield 48, 3) by decide +kernel) rfl (Led.lg h) rfl ?_
  refine am_Rq.blk (is := [(.iconst 0, 1)]) (q := (42, [some (.ref 2), some (.int (nI a)), some (.int (nI k)), some (.int (nI n)), some (.ref (3 + 2 + 2 * a)), none, none], [.int (nI 0), .ref (3 + 1)])) (by decide +kernel) rfl ?_
  dsimp only
  refine am_Rq.ral (k := 0) (show decode (am_by 33) 42 = .ok (.aaload, 1) by decide +kernel) (Led.ca h) rfl (by omega) (by omega) ?_
  refine am_Rq.blk (is := [(.astore 5, 2), (.aload 4, 2)]) (q := (47, [some (.ref 2), some (.int (nI a)), some (.int (nI k)), some (.int (nI n)), some (.ref (3 + 2 + 2 * a)), some (.ref (3 + 2 + 2 * 0)), none], [.ref (3 + 2 + 2 * a)])) (by decide +kernel) rfl ?_
  dsimp only
  refine am_Rq.getf (v := .ref (3 + 3 + 2 * a)) (show decode (am_by 33) 47 = .ok (.getfield 76, 3) by decide +kernel) rfl (Led.sc h (by omega)) rfl ?_
  refine am_Rq.blk (is := [(.iload_n 2, 1)]) (q := (51, [some (.ref 2), some (.int (nI a)), some (.int (nI k)), some (.int (nI n)), some (.ref (3 + 2 + 2 * a)), some (.ref (3 + 2 + 2 * 0)), none], [.int (nI k), .ref (3 + 3 + 2 * a)])) (by decide +kernel) rfl ?_
  dsimp only
  refine Led.gHd (c := a) (k := k) h (by omega) (by omega) (show decode (am_by 33) 51 = .ok (.iaload, 1) by decide +kernel) ?_
  refine am_Rq.blk (is := [(.iload_n 3, 1)]) (q := (53, [some (.ref 2), some (.int (nI a)), some (.int (nI k)), some (.int (nI n)), some (.ref (3 + 2 + 2 * a)), some (.ref (3 + 2 + 2 * 0)), none], [.int (nI n), .int (nI (t (40 + 8 * a + k)))])) (by decide +kernel) rfl ?_
  dsimp only
  refine am_Rq.if2T (t := 64) (show decode (am_by 33) 53 = .ok (.if_icmp .ge 11, 3) by decide +kernel) (by decide) (by rw [nm_ge (by omega) (by omega)]; exact decide_eq_true hn) ?_
  refine am_Rq.blk (is := [(.aload 4, 2), (.iload_n 3, 1)]) (q := (67, [some (.ref 2), some (.int (nI a)), some (.int (nI k)), some (.int (nI n)), some (.ref (3 + 2 + 2 * a)), some (.ref (3 + 2 + 2 * 0)), none], [.int (nI n), .ref (3 + 2 + 2 * a)])) (by decide +kernel) rfl ?_
  dsimp only
  refine am_Rq.callV (show decode (am_by 33) 67 = .ok (.invokevirtual 86, 3) by decide +kernel) rfl [.int (nI n)] [] rfl rfl (Nat.le_of_ble_eq_true rfl) rfl (Led.sc h (by omega)) rfl (c_inCommon h (by omega) (by omega) (by omega) (by omega) (by omega) (by omega)) ?_
  rintro hq _ ⟨e1, rfl⟩
  rw [e1]
  clear e1 hq
  show am_Rq _ 33 70 [some (.ref 2), some (.int (nI a)), some (.int (nI k)), some (.int (nI n)), some (.ref (3 + 2 + 2 * a)), some (.ref (3 + 2 + 2 * 0)), none] [.int (nI (n * 1000 * t (8 * a) / t (8 * a + 6)))] _ _
  refine am_Rq.blk (is := [(.istore 6, 2), (.aload 5, 2)]) (q := (74, [some (.ref 2), some (.int (nI a)), some (.int (nI k)), some (.int (nI n)), some (.ref (3 + 2 + 2 * a)), some (.ref (3 + 2 + 2 * 0)), some (.int (nI (n * 1000 * t (8 * a) / t (8 * a + 6))))], [.ref (3 + 2 + 2 * 0)])) (by decide +kernel) rfl ?_
  dsimp only
  refine am_Rq.getf (v := .int (nI (t (8 * 0 + 7)))) (show decode (am_by 33) 74 = .ok (.getfield 65, 3) by decide +kernel) rfl (Led.sc h (by omega)) rfl ?_
  refine am_Rq.blk (is := [(.iload 6, 2), (.iadd, 1)]) (q := (80, [some (.ref 2), some (.int (nI a)), some (.int (nI k)), some (.int (nI n)), some (.ref (3 + 2 + 2 * a)), some (.ref (3 + 2 + 2 * 0)), some (.int (nI (n * 1000 * t (8 * a) / t (8 * a + 6))))], [.int ((nI (t (8 * 0 + 7))) + (nI (n * 1000 * t (8 * a) / t (8 * a + 6))))])) (by decide +kernel) rfl ?_
  dsimp only
  rw [show (nI (t (8 * 0 + 7))) + (nI (n * 1000 * t (8 * a) / t (8 * a + 6))) = nI ((t (8 * 0 + 7)) + (n * 1000 * t (8 * a) / t (8 * a + 6))) from nI_add _ _]
  refine am_Rq.blk (is := [(.sipush 20000, 3)]) (q := (83, [some (.ref 2), some (.int (nI a)), some (.int (nI k)), some (.int (nI n)), some (.ref (3 + 2 + 2 * a)), some (.ref (3 + 2 + 2 * 0)), some (.int (nI (n * 1000 * t (8 * a) / t (8 * a + 6))))], [.int (nI 20000), .int (nI ((t (8 * 0 + 7)) + (n * 1000 * t (8 * a) / t (8 * a + 6))))])) (by decide +kernel) rfl ?_
  dsimp only
  refine am_Rq.if2F (show decode (am_by 33) 83 = .ok (.if_icmp .le 11, 3) by decide +kernel) (by decide) (by rw [nm_le (by omega) (by omega)]; exact decide_eq_false (by omega)) ?_
  refine am_Rq.thrN (k := 1) (ic := 43) (show decode (am_by 33) 86 = .ok (.new 41, 3) by decide +kernel) rfl (by omega) rfl (show decode (am_by 33) 89 = .ok (.dup, 1) by decide +kernel) (show decode (am_by 33) 90 = .ok (.invokespecial 43, 3) by decide +kernel) (show decode (am_by 33) 93 = .ok (.athrow, 1) by decide +kernel) ?_
  exact ⟨rfl, rfl⟩
theorem c_convert_no1 (hO : hp[2]? = some (0, [.ref 3, .ref 26, .ref 212])) {t : Nat → Nat} (h : Led hp 3 t) {K : Nat} (ok : c_ok K t) (hK : K ≤ 900) (h4 : 4 ≤ d) {x y u : Int32} (hx : rg_r (nI 1) (nI (t 153) - nI 1) x = false) : am_Rq (d + 3) 33 0 (am_en [.ref 2, .int x, .int y, .int u] 7) [] hp (c_No 2 hp) := by
  show am_Rq _ 33 0 [some (.ref 2), some (.int x), some (.int y), some (.int u), none, none, none] [] _ _
  have hB := ok.b (by omega)
  refine am_Rq.blk (is := [(.aload_n 0, 1), (.iload_n 1, 1)]) (q := (2, [some (.ref 2), some (.int x), some (.int y), some (.int u), none, none, none], [.int x, .ref 2])) (by decide +kernel) rfl ?_
  dsimp only
  exact am_Rq.callNo (show decode (am_by 33) 2 = .ok (.invokevirtual 83, 3) by decide +kernel) rfl [.int x] [] rfl rfl (Nat.le_of_ble_eq_true rfl) rfl hO rfl rfl (c_requirePreferred_no hO h (hx) (by omega)) ⟨rfl, rfl⟩
theorem c_convert_no2 (hO : hp[2]? = some (0, [.ref 3, .ref 26, .ref 212])) {t : Nat → Nat} (h : Led hp 3 t) {K : Nat} (ok : c_ok K t) (hK : K ≤ 900) (h4 : 4 ≤ d) {a : Nat} (h0 : 1 ≤ a) (ha : a < t 153) {y u : Int32} (hy : rg_r (nI 0) (nI 7) y = false) : am_Rq (d + 3) 33 0 (am_en [.ref 2, .int (nI a), .int y, .int u] 7) [] hp (c_No 2 hp) := by
  show am_Rq _ 33 0 [some (.ref 2), some (.int (nI a)), some (.int y), some (.int u), none, none, none] [] _ _
  have hB := ok.b (by omega)
  refine am_Rq.blk (is := [(.aload_n 0, 1), (.iload_n 1, 1)]) (q := (2, [some (.ref 2), some (.int (nI a)), some (.int y), some (.int u), none, none, none], [.int (nI a), .ref 2])) (by decide +kernel) rfl ?_
  dsimp only
  refine am_Rq.callV (show decode (am_by 33) 2 = .ok (.invokevirtual 83, 3) by decide +kernel) rfl [.int (nI a)] [] rfl rfl (Nat.le_of_ble_eq_true rfl) rfl hO rfl (c_requirePreferred hO h (rg_lt1 h0 ha (hB _ (by omega))) (by omega)) ?_
  rintro hq _ ⟨e1, rfl⟩
  rw [e1]
  clear e1 hq
  show am_Rq _ 33 5 [some (.ref 2), some (.int (nI a)), some (.int y), some (.int u), none, none, none] [] _ _
  refine am_Rq.blk (is := [(.aload_n 0, 1), (.iload_n 2, 1)]) (q := (7, [some (.ref 2), some (.int (nI a)), some (.int y), some (.int u), none, none, none], [.int y, .ref 2])) (by decide +kernel) rfl ?_
  dsimp only
  exact am_Rq.callNo (show decode (am_by 33) 7 = .ok (.invokevirtual 62, 3) by decide +kernel) rfl [.int y] [] rfl rfl (Nat.le_of_ble_eq_true rfl) rfl hO rfl rfl (c_requireHolder_no (hy) (by omega)) ⟨rfl, rfl⟩
theorem c_convert_no3 (hO : hp[2]? = some (0, [.ref 3, .ref 26, .ref 212])) {t : Nat → Nat} (h : Led hp 3 t) {K : Nat} (ok : c_ok K t) (hK : K ≤ 900) (h4 : 4 ≤ d) {a k : Nat} (h0 : 1 ≤ a) (ha : a < t 153) (hk : k < 8) {u : Int32} (hu : u < nI 1) : am_Rq (d + 3) 33 0 (am_en [.ref 2, .int (nI a), .int (nI k), .int u] 7) [] hp (c_No 0 hp) := by
  show am_Rq _ 33 0 [some (.ref 2), some (.int (nI a)), some (.int (nI k)), some (.int u), none, none, none] [] _ _
  have hB := ok.b (by omega)
  refine am_Rq.blk (is := [(.aload_n 0, 1), (.iload_n 1, 1)]) (q := (2, [some (.ref 2), some (.int (nI a)), some (.int (nI k)), some (.int u), none, none, none], [.int (nI a), .ref 2])) (by decide +kernel) rfl ?_
  dsimp only
  refine am_Rq.callV (show decode (am_by 33) 2 = .ok (.invokevirtual 83, 3) by decide +kernel) rfl [.int (nI a)] [] rfl rfl (Nat.le_of_ble_eq_true rfl) rfl hO rfl (c_requirePreferred hO h (rg_lt1 h0 ha (hB _ (by omega))) (by omega)) ?_
  rintro hq _ ⟨e1, rfl⟩
  rw [e1]
  clear e1 hq
  show am_Rq _ 33 5 [some (.ref 2), some (.int (nI a)), some (.int (nI k)), some (.int u), none, none, none] [] _ _
  refine am_Rq.blk (is := [(.aload_n 0, 1), (.iload_n 2, 1)]) (q := (7, [some (.ref 2), some (.int (nI a)), some (.int (nI k)), some (.int u), none, none, none], [.int (nI k), .ref 2])) (by decide +kernel) rfl ?_
  dsimp only
  refine am_Rq.callV (show decode (am_by 33) 7 = .ok (.invokevirtual 62, 3) by decide +kernel) rfl [.int (nI k)] [] rfl rfl (Nat.le_of_ble_eq_true rfl) rfl hO rfl (c_requireHolder (rg_le (by omega) (show k ≤ 7 by omega) (by omega)) (by omega)) ?_
  rintro hq _ ⟨e1, rfl⟩
  rw [e1]
  clear e1 hq
  show am_Rq _ 33 10 [some (.ref 2), some (.int (nI a)), some (.int (nI k)), some (.int u), none, none, none] [] _ _
  refine am_Rq.blk (is := [(.iload_n 3, 1), (.iconst 1, 1)]) (q := (12, [some (.ref 2), some (.int (nI a)), some (.int (nI k)), some (.int u), none, none, none], [.int (nI 1), .int u])) (by decide +kernel) rfl ?_
  dsimp only
  refine am_Rq.if2F (show decode (am_by 33) 12 = .ok (.if_icmp .ge 11, 3) by decide +kernel) (by decide) (by exact decide_eq_false (by rw [Int32.not_le]; exact hu)) ?_
  refine am_Rq.thrN (k := 0) (ic := 36) (show decode (am_by 33) 15 = .ok (.new 34, 3) by decide +kernel) rfl (by omega) rfl (show decode (am_by 33) 18 = .ok (.dup, 1) by decide +kernel) (show decode (am_by 33) 19 = .ok (.invokespecial 36, 3) by decide +kernel) (show decode (am_by 33) 22 = .ok (.athrow, 1) by decide +kernel) ?_
  exact ⟨rfl, rfl⟩
theorem c_convert_no4 (hO : hp[2]? = some (0, [.ref 3, .ref 26, .ref 212])) {t : Nat → Nat} (h : Led hp 3 t) {K : Nat} (ok : c_ok K t) (hK : K ≤ 900) (h4 : 4 ≤ d) {a k : Nat} (h0 : 1 ≤ a) (ha : a < t 153) (hk : k < 8) {n : Nat} (h1 : 1 ≤ n) (hn2 : n < 2 ^ 31) (hn : t (40 + 8 * a + k) < n) : am_Rq (d + 3) 33 0 (am_en [.ref 2, .int (nI a), .int (nI k), .int (nI n)] 7) [] hp (c_No 1 hp) := by
  show am_Rq _ 33 0 [some (.ref 2), some (.int (nI a)), some (.int (nI k)), some (.int (nI n)), none, none, none] [] _ _
  have hB := ok.b (by omega)
  have h153 := ok.2.2.2.2.2.2.1
  obtain ⟨a0, a1, a2, a3, a4, a5, a6, a7, a8, a9, a10, a11⟩ := ok.1 a (by omega)
  obtain ⟨b0, b1, b2, b3, b4, b5, b6, b7, b8, b9, -⟩ := ok.1 0 (by omega)
  have hsum : t (40 + 8 * a + k) ≤ t (8 * a + 7) := by
    rw [a11]
    exact sp_sm_ge (f := fun h => t (40 + 8 * a + h)) hk
  refine am_Rq.blk (is := [(.aload_n 0, 1), (.iload_n 1, 1)]) (q := (2, [some (.ref 2), some (.int (nI a)), some (.int (nI k)), some (.int (nI n)), none, none, none], [.int (nI a), .ref 2])) (by decide +kernel) rfl ?_
  dsimp only
  refine am_Rq.callV (show decode (am_by 33) 2 = .ok (.invokevirtual 83, 3) by decide +kernel) rfl [.int (nI a)] [] rfl rfl (Nat.le_of_ble_eq_true rfl) rfl hO rfl (c_requirePreferred hO h (rg_lt1 h0 ha (hB _ (by omega))) (by omega)) ?_
  rintro hq _ ⟨e1, rfl⟩
  rw [e1]
  clear e1 hq
  show am_Rq _ 33 5 [some (.ref 2), some (.int (nI a)), some (.int (nI k)), some (.int (nI n)), none, none, none] [] _ _
  refine am_Rq.blk (is := [(.aload_n 0, 1), (.iload_n 2, 1)]) (q := (7, [some (.ref 2), some (.int (nI a)), some (.int (nI k)), some (.int (nI n)), none, none, none], [.int (nI k), .ref 2])) (by decide +kernel) rfl ?_
  dsimp only
  refine am_Rq.callV (show decode (am_by 33) 7 = .ok (.invokevirtual 62, 3) by decide +kernel) rfl [.int (nI k)] [] rfl rfl (Nat.le_of_ble_eq_true rfl) rfl hO rfl (c_requireHolder (rg_le (by omega) (show k ≤ 7 by omega) (by omega)) (by omega)) ?_
  rintro hq _ ⟨e1, rfl⟩
  rw [e1]
  clear e1 hq
  show am_Rq _ 33 10 [some (.ref 2), some (.int (nI a)), some (.int (nI k)), some (.int (nI n)), none, none, none] [] _ _
  refine am_Rq.blk (is := [(.iload_n 3, 1), (.iconst 1, 1)]) (q := (12, [some (.ref 2), some (.int (nI a)), some (.int (nI k)), some (.int (nI n)), none, none, none], [.int (nI 1), .int (nI n)])) (by decide +kernel) rfl ?_
  dsimp only
  refine am_Rq.if2T (t := 23) (show decode (am_by 33) 12 = .ok (.if_icmp .ge 11, 3) by decide +kernel) (by decide) (by rw [nm_ge (by omega) (by omega)]; exact decide_eq_true h1) ?_
  refine am_Rq.blk (is := [(.aload_n 0, 1)]) (q := (24, [some (.ref 2), some (.int (nI a)), some (.int (nI k)), some (.int (nI n)), none, none, none], [.ref 2])) (by decide +kernel) rfl ?_
  dsimp only
  refine am_Rq.getf (v := .ref 3) (show decode (am_by 33) 24 = .ok (.getfield 12, 3) by decide +kernel) rfl hO rfl ?_
  refine am_Rq.getf (v := .ref (3 + 1)) (show decode (am_by 33) 27 = .ok (.getfield 48, 3) by decide +kernel) rfl (Led.lg h) rfl ?_
  refine am_Rq.blk (is := [(.iload_n 1, 1)]) (q := (31, [some (.ref 2), some (.int (nI a)), some (.int (nI k)), some (.int (nI n)), none, none, none], [.int (nI a), .ref (3 + 1)])) (by decide +kernel) rfl ?_
  dsimp only
  refine am_Rq.ral (k := a) (show decode (am_by 33) 31 = .ok (.aaload, 1) by decide +kernel) (Led.ca h) rfl (by omega) (by omega) ?_
  refine am_Rq.blk (is := [(.astore 4, 2), (.aload_n 0, 1)]) (q := (35, [some (.ref 2), some (.int (nI a)), some (.int (nI k)), some (.int (nI n)), some (.ref (3 + 2 + 2 * a)), none, none], [.ref 2])) (by decide +kernel) rfl ?_
  dsimp only
  refine am_Rq.getf (v := .ref 3) (show decode (am_by 33) 35 = .ok (.getfield 12, 3) by decide +kernel) rfl hO rfl ?_
  refine am_Rq.getf (v := .ref (3 + 1)) (show decode (am_by 33) 38 = .ok (.getfield 48, 3) by decide +kernel) rfl (Led.lg h) rfl ?_
  refine am_Rq.blk (is := [(.iconst 0, 1)]) (q := (42, [some (.ref 2), some (.int (nI a)), some (.int (nI k)), some (.int (nI n)), some (.ref (3 + 2 + 2 * a)), none, none], [.int (nI 0), .ref (3 + 1)])) (by decide +kernel) rfl ?_
  dsimp only
  refine am_Rq.ral (k := 0) (show decode (am_by 33) 42 = .ok (.aaload, 1) by decide +kernel) (Led.ca h) rfl (by omega) (by omega) ?_
  refine am_Rq.blk (is := [(.astore 5, 2), (.aload 4, 2)]) (q := (47, [some (.ref 2), some (.int (nI a)), some (.int (nI k)), some (.int (nI n)), some (.ref (3 + 2 + 2 * a)), some (.ref (3 + 2 + 2 * 0)), none], [.ref (3 + 2 + 2 * a)])) (by decide +kernel) rfl ?_
  dsimp only
  refine am_Rq.getf (v := .ref (3 + 3 + 2 * a)) (show decode (am_by 33) 47 = .ok (.getfield 76, 3) by decide +kernel) rfl (Led.sc h (by omega)) rfl ?_
  refine am_Rq.blk (is := [(.iload_n 2, 1)]) (q := (51, [some (.ref 2), some (.int (nI a)), some (.int (nI k)), some (.int (nI n)), some (.ref (3 + 2 + 2 * a)), some (.ref (3 + 2 + 2 * 0)), none], [.int (nI k), .ref (3 + 3 + 2 * a)])) (by decide +kernel) rfl ?_
  dsimp only
  refine Led.gHd (c := a) (k := k) h (by omega) (by omega) (show decode (am_by 33) 51 = .ok (.iaload, 1) by decide +kernel) ?_
  refine am_Rq.blk (is := [(.iload_n 3, 1)]) (q := (53, [some (.ref 2), some (.int (nI a)), some (.int (nI k)), some (.int (nI n)), some (.ref (3 + 2 + 2 * a)), some (.ref (3 + 2 + 2 * 0)), none], [.int (nI n), .int (nI (t (40 + 8 * a + k)))])) (by decide +kernel) rfl ?_
  dsimp only
  refine am_Rq.if2F (show decode (am_by 33) 53 = .ok (.if_icmp .ge 11, 3) by decide +kernel) (by decide) (by rw [nm_ge (by omega) (by omega)]; exact decide_eq_false (by omega)) ?_
  refine am_Rq.thrN (k := 1) (ic := 43) (show decode (am_by 33) 56 = .ok (.new 41, 3) by decide +kernel) rfl (by omega) rfl (show decode (am_by 33) 59 = .ok (.dup, 1) by decide +kernel) (show decode (am_by 33) 60 = .ok (.invokespecial 43, 3) by decide +kernel) (show decode (am_by 33) 63 = .ok (.athrow, 1) by decide +kernel) ?_
  exact ⟨rfl, rfl⟩
theorem c_issue (hO : hp[2]? = some (0, [.ref 3, .ref 26, .ref 212])) {t : Nat → Nat} (h : Led hp 3 t) {K : Nat} (ok : c_ok K t) (hK : K ≤ 900) (h4 : 4 ≤ d) {nx ct : Nat} {ks : Nat → Nat → Nat} (hH : c_H hp 26 nx ct ks) {a k : Nat} (ha : a < t 153) (hk : k < 8) {n p : Nat} (h1 : 1 ≤ n) (hn : n ≤ 1000) (hp1 : 1 ≤ p) (hp2 : p ≤ 1000) (h5 : t (8 * a + 7) + n ≤ 5000) : am_Rq (d + 3) 23 0 (am_en [.ref 2, .int (nI a), .int (nI k), .int (nI n), .int (nI p)] 6) [] hp (am_Ret fun hp1 v => v = some (.int (nI ((va_up (va_up (c_ag t a n p 5) (40 + 8 * a + k) (c_ag t a n p 5 (40 + 8 * a + k) + n)) (8 * a + 7) (c_ag t a n p 5 (8 * a + 7) + n)) (8 * a + 7)))) ∧ Led hp1 3 (va_up (va_up (c_ag t a n p 5) (40 + 8 * a + k) (c_ag t a n p 5 (40 + 8 * a + k) + n)) (8 * a + 7) (c_ag t a n p 5 (8 * a + 7) + n)) ∧ c_H hp1 26 ((nx + 1) % 8) (min (ct + 1) 8) (va_up ks nx t) ∧ am_fr c_all hp hp1) := by
  show am_Rq _ 23 0 [some (.ref 2), some (.int (nI a)), some (.int (nI k)), some (.int (nI n)), some (.int (nI p)), none] [] _ _
  have hB := ok.b (by omega)
  have h153 := ok.2.2.2.2.2.2.1
  have a9 := (ok.1 a (by omega)).2.2.2.2.2.2.2.2.2.1
  refine am_Rq.blk (is := [(.aload_n 0, 1), (.iload_n 1, 1)]) (q := (2, [some (.ref 2), some (.int (nI a)), some (.int (nI k)), some (.int (nI n)), some (.int (nI p)), none], [.int (nI a), .ref 2])) (by decide +kernel) rfl ?_
  dsimp only
  refine am_Rq.callV (show decode (am_by 23) 2 = .ok (.invokevirtual 58, 3) by decide +kernel) rfl [.int (nI a)] [] rfl rfl (Nat.le_of_ble_eq_true rfl) rfl hO rfl (c_requireClass hO h (rg_lt ha (hB _ (by omega))) (by omega)) ?_
  rintro hq _ ⟨e1, rfl⟩
  rw [e1]
  clear e1 hq
  show am_Rq _ 23 5 [some (.ref 2), some (.int (nI a)), some (.int (nI k)), some (.int (nI n)), some (.int (nI p)), none] [] _ _
  refine am_Rq.blk (is := [(.aload_n 0, 1), (.iload_n 2, 1)]) (q := (7, [some (.ref 2), some (.int (nI a)), some (.int (nI k)), some (.int (nI n)), some (.int (nI p)), none], [.int (nI k), .ref 2])) (by decide +kernel) rfl ?_
  dsimp only
  refine am_Rq.callV (show decode (am_by 23) 7 = .ok (.invokevirtual 62, 3) by decide +kernel) rfl [.int (nI k)] [] rfl rfl (Nat.le_of_ble_eq_true rfl) rfl hO rfl (c_requireHolder (rg_le (by omega) (show k ≤ 7 by omega) (by omega)) (by omega)) ?_
  rintro hq _ ⟨e1, rfl⟩
  rw [e1]
  clear e1 hq
  show am_Rq _ 23 10 [some (.ref 2), some (.int (nI a)), some (.int (nI k)), some (.int (nI n)), some (.int (nI p)), none] [] _ _
  refine am_Rq.blk (is := [(.iload_n 3, 1), (.iconst 1, 1), (.sipush 1000, 3)]) (q := (15, [some (.ref 2), some (.int (nI a)), some (.int (nI k)), some (.int (nI n)), some (.int (nI p)), none], [.int (nI 1000), .int (nI 1), .int (nI n)])) (by decide +kernel) rfl ?_
  dsimp only
  refine am_Rq.callS (show decode (am_by 23) 15 = .ok (.invokestatic 30, 3) by decide +kernel) rfl [.int (nI n), .int (nI 1), .int (nI 1000)] [] rfl rfl (Nat.le_of_ble_eq_true rfl) rfl rfl (c_within (nI n) (nI 1) (nI 1000)) ?_
  rintro hq _ ⟨e1, rfl⟩
  rw [e1]
  clear e1 hq
  show am_Rq _ 23 18 [some (.ref 2), some (.int (nI a)), some (.int (nI k)), some (.int (nI n)), some (.int (nI p)), none] [.int (nI (am_b (rg_r (nI 1) (nI 1000) (nI n))))] _ _
  refine am_Rq.if1F (show decode (am_by 23) 18 = .ok (.ifCond .eq 15, 3) by decide +kernel) (by decide) (by rw [am_b_eq, rg_le h1 hn (by omega)]; rfl) ?_
  refine am_Rq.blk (is := [(.iload 4, 2), (.iconst 1, 1), (.sipush 1000, 3)]) (q := (27, [some (.ref 2), some (.int (nI a)), some (.int (nI k)), some (.int (nI n)), some (.int (nI p)), none], [.int (nI 1000), .int (nI 1), .int (nI p)])) (by decide +kernel) rfl ?_
  dsimp only
  refine am_Rq.callS (show decode (am_by 23) 27 = .ok (.invokestatic 30, 3) by decide +kernel) rfl [.int (nI p), .int (nI 1), .int (nI 1000)] [] rfl rfl (Nat.le_of_ble_eq_true rfl) rfl rfl (c_within (nI p) (nI 1) (nI 1000)) ?_
  rintro hq _ ⟨e1, rfl⟩
  rw [e1]
  clear e1 hq
  show am_Rq _ 23 30 [some (.ref 2), some (.int (nI a)), some (.int (nI k)), some (.int (nI n)), some (.int (nI p)), none] [.int (nI (am_b (rg_r (nI 1) (nI 1000) (nI p))))] _ _
  refine am_Rq.if1T (t := 41) (show decode (am_by 23) 30 = .ok (.ifCond .ne 11, 3) by decide +kernel) (by decide) (by rw [am_b_ne, rg_le hp1 hp2 (by omega)]) ?_
  refine am_Rq.blk (is := [(.aload_n 0, 1)]) (q := (42, [some (.ref 2), some (.int (nI a)), some (.int (nI k)), some (.int (nI n)), some (.int (nI p)), none], [.ref 2])) (by decide +kernel) rfl ?_
  dsimp only
  refine am_Rq.getf (v := .ref 3) (show decode (am_by 23) 42 = .ok (.getfield 12, 3) by decide +kernel) rfl hO rfl ?_
  refine am_Rq.getf (v := .ref (3 + 1)) (show decode (am_by 23) 45 = .ok (.getfield 48, 3) by decide +kernel) rfl (Led.lg h) rfl ?_
  refine am_Rq.blk (is := [(.iload_n 1, 1)]) (q := (49, [some (.ref 2), some (.int (nI a)), some (.int (nI k)), some (.int (nI n)), some (.int (nI p)), none], [.int (nI a), .ref (3 + 1)])) (by decide +kernel) rfl ?_
  dsimp only
  refine am_Rq.ral (k := a) (show decode (am_by 23) 49 = .ok (.aaload, 1) by decide +kernel) (Led.ca h) rfl (by omega) (by omega) ?_
  refine am_Rq.blk (is := [(.astore 5, 2), (.aload 5, 2)]) (q := (54, [some (.ref 2), some (.int (nI a)), some (.int (nI k)), some (.int (nI n)), some (.int (nI p)), some (.ref (3 + 2 + 2 * a))], [.ref (3 + 2 + 2 * a)])) (by decide +kernel) rfl ?_
  dsimp only
  refine am_Rq.getf (v := .int (nI (t (8 * a + 7)))) (show decode (am_by 23) 54 = .ok (.getfield 65, 3) by decide +kernel) rfl (Led.sc h (by omega)) rfl ?_
  refine am_Rq.blk (is := [(.iload_n 3, 1), (.iadd, 1)]) (q := (59, [some (.ref 2), some (.int (nI a)), some (.int (nI k)), some (.int (nI n)), some (.int (nI p)), some (.ref (3 + 2 + 2 * a))], [.int ((nI (t (8 * a + 7))) + (nI n))])) (by decide +kernel) rfl ?_
  dsimp only
  rw [show (nI (t (8 * a + 7))) + (nI n) = nI ((t (8 * a + 7)) + n) from nI_add _ _]
  refine am_Rq.blk (is := [(.sipush 5000, 3)]) (q := (62, [some (.ref 2), some (.int (nI a)), some (.int (nI k)), some (.int (nI n)), some (.int (nI p)), some (.ref (3 + 2 + 2 * a))], [.int (nI 5000), .int (nI ((t (8 * a + 7)) + n))])) (by decide +kernel) rfl ?_
  dsimp only
  refine am_Rq.if2T (t := 73) (show decode (am_by 23) 62 = .ok (.if_icmp .le 11, 3) by decide +kernel) (by decide) (by rw [nm_le (by omega) (by omega)]; exact decide_eq_true (by omega)) ?_
  refine am_Rq.blk (is := [(.aload_n 0, 1)]) (q := (74, [some (.ref 2), some (.int (nI a)), some (.int (nI k)), some (.int (nI n)), some (.int (nI p)), some (.ref (3 + 2 + 2 * a))], [.ref 2])) (by decide +kernel) rfl ?_
  dsimp only
  refine am_Rq.getf (v := .ref 26) (show decode (am_by 23) 74 = .ok (.getfield 19, 3) by decide +kernel) rfl hO rfl ?_
  refine am_Rq.blk (is := [(.aload_n 0, 1)]) (q := (78, [some (.ref 2), some (.int (nI a)), some (.int (nI k)), some (.int (nI n)), some (.int (nI p)), some (.ref (3 + 2 + 2 * a))], [.ref 2, .ref 26])) (by decide +kernel) rfl ?_
  dsimp only
  refine am_Rq.getf (v := .ref 3) (show decode (am_by 23) 78 = .ok (.getfield 12, 3) by decide +kernel) rfl hO rfl ?_
  refine am_Rq.callV (show decode (am_by 23) 81 = .ok (.invokevirtual 44, 3) by decide +kernel) rfl [.ref 3] [] rfl rfl (Nat.le_of_ble_eq_true rfl) rfl hH.2.2.2.1 rfl (c_keep h hH (by omega) ok.e) ?_
  rintro hp1 _ ⟨rfl, hL1, hH1, hf1⟩
  have hc1_2 := (hf1.2.2 2 (fun q => by have := q.1; omega)).trans hO
  show am_Rq _ 23 84 [some (.ref 2), some (.int (nI a)), some (.int (nI k)), some (.int (nI n)), some (.int (nI p)), some (.ref (3 + 2 + 2 * a))] [] _ _
  refine am_Rq.blk (is := [(.aload_n 0, 1)]) (q := (85, [some (.ref 2), some (.int (nI a)), some (.int (nI k)), some (.int (nI n)), some (.int (nI p)), some (.ref (3 + 2 + 2 * a))], [.ref 2])) (by decide +kernel) rfl ?_
  dsimp only
  refine am_Rq.getf (v := .ref 3) (show decode (am_by 23) 85 = .ok (.getfield 12, 3) by decide +kernel) rfl hc1_2 rfl ?_
  refine am_Rq.blk (is := [(.iload_n 1, 1), (.iload_n 3, 1), (.iload 4, 2)]) (q := (92, [some (.ref 2), some (.int (nI a)), some (.int (nI k)), some (.int (nI n)), some (.int (nI p)), some (.ref (3 + 2 + 2 * a))], [.int (nI p), .int (nI n), .int (nI a), .ref 3])) (by decide +kernel) rfl ?_
  dsimp only
  refine am_Rq.callV (show decode (am_by 23) 92 = .ok (.invokevirtual 68, 3) by decide +kernel) rfl [.int (nI a), .int (nI n), .int (nI p)] [] rfl rfl (Nat.le_of_ble_eq_true rfl) rfl (Led.lg hL1) rfl (c_guards hL1 ok (by omega) (by omega) (by omega) hn hp2) ?_
  rintro hp2 _ ⟨rfl, hL2, hf2⟩
  have hc2_2 := (hf2.2.2 (2) (fun q => by obtain ⟨_, _⟩ := q; omega)).trans hc1_2
  show am_Rq _ 23 95 [some (.ref 2), some (.int (nI a)), some (.int (nI k)), some (.int (nI n)), some (.int (nI p)), some (.ref (3 + 2 + 2 * a))] [] _ _
  refine am_Rq.blk (is := [(.aload 5, 2), (.iload_n 2, 1), (.iload_n 3, 1)]) (q := (99, [some (.ref 2), some (.int (nI a)), some (.int (nI k)), some (.int (nI n)), some (.int (nI p)), some (.ref (3 + 2 + 2 * a))], [.int (nI n), .int (nI k), .ref (3 + 2 + 2 * a)])) (by decide +kernel) rfl ?_
  dsimp only
  refine am_Rq.callV (show decode (am_by 23) 99 = .ok (.invokevirtual 72, 3) by decide +kernel) rfl [.int (nI k), .int (nI n)] [] rfl rfl (Nat.le_of_ble_eq_true rfl) rfl (Led.sc hL2 (by omega)) rfl (c_give hL2 (by omega) hk) ?_
  rintro hp3 _ ⟨rfl, hL3, hf3⟩
  have hc3_2 := (hf3.2.2 (2) (fun q => by obtain ⟨_, _⟩ := q; omega)).trans hc2_2
  show am_Rq _ 23 102 [some (.ref 2), some (.int (nI a)), some (.int (nI k)), some (.int (nI n)), some (.int (nI p)), some (.ref (3 + 2 + 2 * a))] [] _ _
  refine am_Rq.blk (is := [(.aload 5, 2)]) (q := (104, [some (.ref 2), some (.int (nI a)), some (.int (nI k)), some (.int (nI n)), some (.int (nI p)), some (.ref (3 + 2 + 2 * a))], [.ref (3 + 2 + 2 * a)])) (by decide +kernel) rfl ?_
  dsimp only
  refine am_Rq.getf (v := .int (nI ((va_up (va_up (c_ag t a n p 5) (40 + 8 * a + k) (c_ag t a n p 5 (40 + 8 * a + k) + n)) (8 * a + 7) (c_ag t a n p 5 (8 * a + 7) + n)) (8 * a + 7)))) (show decode (am_by 23) 104 = .ok (.getfield 65, 3) by decide +kernel) rfl (Led.sc hL3 (by omega)) rfl ?_
  refine am_Rq.ret (v := some (.int (nI ((va_up (va_up (c_ag t a n p 5) (40 + 8 * a + k) (c_ag t a n p 5 (40 + 8 * a + k) + n)) (8 * a + 7) (c_ag t a n p 5 (8 * a + 7) + n)) (8 * a + 7))))) (show decode (am_by 23) 107 = .ok (.ireturn, 1) by decide +kernel) rfl rfl ?_
  exact ⟨_, rfl, rfl, hL3, c_H.kept hH1 (fun a ha => (hf2.trans hf3).2.2 a (fun q => by obtain ⟨_, _⟩ := q; obtain ⟨_, _⟩ := ha; omega)), (((hf1.mono (fun a q => by obtain ⟨_, _⟩ := q; exact ⟨by omega, by omega⟩)).trans (hf2.mono (fun a q => by obtain ⟨_, _⟩ := q; exact ⟨by omega, by omega⟩))).trans (hf3.mono (fun a q => by obtain ⟨_, _⟩ := q; exact ⟨by omega, by omega⟩)))⟩
theorem c_issue_no4 (hO : hp[2]? = some (0, [.ref 3, .ref 26, .ref 212])) {t : Nat → Nat} (h : Led hp 3 t) {K : Nat} (ok : c_ok K t) (hK : K ≤ 900) (h4 : 4 ≤ d) {a k : Nat} (ha : a < t 153) (hk : k < 8) {n p : Nat} (h1 : 1 ≤ n) (hn : n ≤ 1000) (hp1 : 1 ≤ p) (hp2 : p ≤ 1000) (h5 : 5000 < t (8 * a + 7) + n) : am_Rq (d + 3) 23 0 (am_en [.ref 2, .int (nI a), .int (nI k), .int (nI n), .int (nI p)] 6) [] hp (c_No 1 hp) := by
  show am_Rq _ 23 0 [some (.ref 2), some (.int (nI a)), some (.int (nI k)), some (.int (nI n)), some (.int (nI p)), none] [] _ _
  have hB := ok.b (by omega)
  have h153 := ok.2.2.2.2.2.2.1
  have a9 := (ok.1 a (by omega)).2.2.2.2.2.2.2.2.2.1
  refine am_Rq.blk (is := [(.aload_n 0, 1), (.iload_n 1, 1)]) (q := (2, [some (.ref 2), some (.int (nI a)), some (.int (nI k)), some (.int (nI n)), some (.int (nI p)), none], [.int (nI a), .ref 2])) (by decide +kernel) rfl ?_
  dsimp only
  refine am_Rq.callV (show decode (am_by 23) 2 = .ok (.invokevirtual 58, 3) by decide +kernel) rfl [.int (nI a)] [] rfl rfl (Nat.le_of_ble_eq_true rfl) rfl hO rfl (c_requireClass hO h (rg_lt ha (hB _ (by omega))) (by omega)) ?_
  rintro hq _ ⟨e1, rfl⟩
  rw [e1]
  clear e1 hq
  show am_Rq _ 23 5 [some (.ref 2), some (.int (nI a)), some (.int (nI k)), some (.int (nI n)), some (.int (nI p)), none] [] _ _
  refine am_Rq.blk (is := [(.aload_n 0, 1), (.iload_n 2, 1)]) (q := (7, [some (.ref 2), some (.int (nI a)), some (.int (nI k)), some (.int (nI n)), some (.int (nI p)), none], [.int (nI k), .ref 2])) (by decide +kernel) rfl ?_
  dsimp only
  refine am_Rq.callV (show decode (am_by 23) 7 = .ok (.invokevirtual 62, 3) by decide +kernel) rfl [.int (nI k)] [] rfl rfl (Nat.le_of_ble_eq_true rfl) rfl hO rfl (c_requireHolder (rg_le (by omega) (show k ≤ 7 by omega) (by omega)) (by omega)) ?_
  rintro hq _ ⟨e1, rfl⟩
  rw [e1]
  clear e1 hq
  show am_Rq _ 23 10 [some (.ref 2), some (.int (nI a)), some (.int (nI k)), some (.int (nI n)), some (.int (nI p)), none] [] _ _
  refine am_Rq.blk (is := [(.iload_n 3, 1), (.iconst 1, 1), (.sipush 1000, 3)]) (q := (15, [some (.ref 2), some (.int (nI a)), some (.int (nI k)), some (.int (nI n)), some (.int (nI p)), none], [.int (nI 1000), .int (nI 1), .int (nI n)])) (by decide +kernel) rfl ?_
  dsimp only
  refine am_Rq.callS (show decode (am_by 23) 15 = .ok (.invokestatic 30, 3) by decide +kernel) rfl [.int (nI n), .int (nI 1), .int (nI 1000)] [] rfl rfl (Nat.le_of_ble_eq_true rfl) rfl rfl (c_within (nI n) (nI 1) (nI 1000)) ?_
  rintro hq _ ⟨e1, rfl⟩
  rw [e1]
  clear e1 hq
  show am_Rq _ 23 18 [some (.ref 2), some (.int (nI a)), some (.int (nI k)), some (.int (nI n)), some (.int (nI p)), none] [.int (nI (am_b (rg_r (nI 1) (nI 1000) (nI n))))] _ _
  refine am_Rq.if1F (show decode (am_by 23) 18 = .ok (.ifCond .eq 15, 3) by decide +kernel) (by decide) (by rw [am_b_eq, rg_le h1 hn (by omega)]; rfl) ?_
  refine am_Rq.blk (is := [(.iload 4, 2), (.iconst 1, 1), (.sipush 1000, 3)]) (q := (27, [some (.ref 2), some (.int (nI a)), some (.int (nI k)), some (.int (nI n)), some (.int (nI p)), none], [.int (nI 1000), .int (nI 1), .int (nI p)])) (by decide +kernel) rfl ?_
  dsimp only
  refine am_Rq.callS (show decode (am_by 23) 27 = .ok (.invokestatic 30, 3) by decide +kernel) rfl [.int (nI p), .int (nI 1), .int (nI 1000)] [] rfl rfl (Nat.le_of_ble_eq_true rfl) rfl rfl (c_within (nI p) (nI 1) (nI 1000)) ?_
  rintro hq _ ⟨e1, rfl⟩
  rw [e1]
  clear e1 hq
  show am_Rq _ 23 30 [some (.ref 2), some (.int (nI a)), some (.int (nI k)), some (.int (nI n)), some (.int (nI p)), none] [.int (nI (am_b (rg_r (nI 1) (nI 1000) (nI p))))] _ _
  refine am_Rq.if1T (t := 41) (show decode (am_by 23) 30 = .ok (.ifCond .ne 11, 3) by decide +kernel) (by decide) (by rw [am_b_ne, rg_le hp1 hp2 (by omega)]) ?_
  refine am_Rq.blk (is := [(.aload_n 0, 1)]) (q := (42, [some (.ref 2), some (.int (nI a)), some (.int (nI k)), some (.int (nI n)), some (.int (nI p)), none], [.ref 2])) (by decide +kernel) rfl ?_
  dsimp only
  refine am_Rq.getf (v := .ref 3) (show decode (am_by 23) 42 = .ok (.getfield 12, 3) by decide +kernel) rfl hO rfl ?_
  refine am_Rq.getf (v := .ref (3 + 1)) (show decode (am_by 23) 45 = .ok (.getfield 48, 3) by decide +kernel) rfl (Led.lg h) rfl ?_
  refine am_Rq.blk (is := [(.iload_n 1, 1)]) (q := (49, [some (.ref 2), some (.int (nI a)), some (.int (nI k)), some (.int (nI n)), some (.int (nI p)), none], [.int (nI a), .ref (3 + 1)])) (by decide +kernel) rfl ?_
  dsimp only
  refine am_Rq.ral (k := a) (show decode (am_by 23) 49 = .ok (.aaload, 1) by decide +kernel) (Led.ca h) rfl (by omega) (by omega) ?_
  refine am_Rq.blk (is := [(.astore 5, 2), (.aload 5, 2)]) (q := (54, [some (.ref 2), some (.int (nI a)), some (.int (nI k)), some (.int (nI n)), some (.int (nI p)), some (.ref (3 + 2 + 2 * a))], [.ref (3 + 2 + 2 * a)])) (by decide +kernel) rfl ?_
  dsimp only
  refine am_Rq.getf (v := .int (nI (t (8 * a + 7)))) (show decode (am_by 23) 54 = .ok (.getfield 65, 3) by decide +kernel) rfl (Led.sc h (by omega)) rfl ?_
  refine am_Rq.blk (is := [(.iload_n 3, 1), (.iadd, 1)]) (q := (59, [some (.ref 2), some (.int (nI a)), some (.int (nI k)), some (.int (nI n)), some (.int (nI p)), some (.ref (3 + 2 + 2 * a))], [.int ((nI (t (8 * a + 7))) + (nI n))])) (by decide +kernel) rfl ?_
  dsimp only
  rw [show (nI (t (8 * a + 7))) + (nI n) = nI ((t (8 * a + 7)) + n) from nI_add _ _]
  refine am_Rq.blk (is := [(.sipush 5000, 3)]) (q := (62, [some (.ref 2), some (.int (nI a)), some (.int (nI k)), some (.int (nI n)), some (.int (nI p)), some (.ref (3 + 2 + 2 * a))], [.int (nI 5000), .int (nI ((t (8 * a + 7)) + n))])) (by decide +kernel) rfl ?_
  dsimp only
  refine am_Rq.if2F (show decode (am_by 23) 62 = .ok (.if_icmp .le 11, 3) by decide +kernel) (by decide) (by rw [nm_le (by omega) (by omega)]; exact decide_eq_false (by omega)) ?_
  refine am_Rq.thrN (k := 1) (ic := 43) (show decode (am_by 23) 65 = .ok (.new 41, 3) by decide +kernel) rfl (by omega) rfl (show decode (am_by 23) 68 = .ok (.dup, 1) by decide +kernel) (show decode (am_by 23) 69 = .ok (.invokespecial 43, 3) by decide +kernel) (show decode (am_by 23) 72 = .ok (.athrow, 1) by decide +kernel) ?_
  exact ⟨rfl, rfl⟩
theorem c_issue_no1 (hO : hp[2]? = some (0, [.ref 3, .ref 26, .ref 212])) {t : Nat → Nat} (h : Led hp 3 t) {K : Nat} (ok : c_ok K t) (hK : K ≤ 900) (h4 : 4 ≤ d) {x y u z : Int32} (hx : rg_r (nI 0) (nI (t 153) - nI 1) x = false) : am_Rq (d + 3) 23 0 (am_en [.ref 2, .int x, .int y, .int u, .int z] 6) [] hp (c_No 2 hp) := by
  show am_Rq _ 23 0 [some (.ref 2), some (.int x), some (.int y), some (.int u), some (.int z), none] [] _ _
  have hB := ok.b (by omega)
  refine am_Rq.blk (is := [(.aload_n 0, 1), (.iload_n 1, 1)]) (q := (2, [some (.ref 2), some (.int x), some (.int y), some (.int u), some (.int z), none], [.int x, .ref 2])) (by decide +kernel) rfl ?_
  dsimp only
  exact am_Rq.callNo (show decode (am_by 23) 2 = .ok (.invokevirtual 58, 3) by decide +kernel) rfl [.int x] [] rfl rfl (Nat.le_of_ble_eq_true rfl) rfl hO rfl rfl (c_requireClass_no hO h (hx) (by omega)) ⟨rfl, rfl⟩
theorem c_issue_no2 (hO : hp[2]? = some (0, [.ref 3, .ref 26, .ref 212])) {t : Nat → Nat} (h : Led hp 3 t) {K : Nat} (ok : c_ok K t) (hK : K ≤ 900) (h4 : 4 ≤ d) {a : Nat} (ha : a < t 153) {y u z : Int32} (hy : rg_r (nI 0) (nI 7) y = false) : am_Rq (d + 3) 23 0 (am_en [.ref 2, .int (nI a), .int y, .int u, .int z] 6) [] hp (c_No 2 hp) := by
  show am_Rq _ 23 0 [some (.ref 2), some (.int (nI a)), some (.int y), some (.int u), some (.int z), none] [] _ _
  have hB := ok.b (by omega)
  refine am_Rq.blk (is := [(.aload_n 0, 1), (.iload_n 1, 1)]) (q := (2, [some (.ref 2), some (.int (nI a)), some (.int y), some (.int u), some (.int z), none], [.int (nI a), .ref 2])) (by decide +kernel) rfl ?_
  dsimp only
  refine am_Rq.callV (show decode (am_by 23) 2 = .ok (.invokevirtual 58, 3) by decide +kernel) rfl [.int (nI a)] [] rfl rfl (Nat.le_of_ble_eq_true rfl) rfl hO rfl (c_requireClass hO h (rg_lt ha (hB _ (by omega))) (by omega)) ?_
  rintro hq _ ⟨e1, rfl⟩
  rw [e1]
  clear e1 hq
  show am_Rq _ 23 5 [some (.ref 2), some (.int (nI a)), some (.int y), some (.int u), some (.int z), none] [] _ _
  refine am_Rq.blk (is := [(.aload_n 0, 1), (.iload_n 2, 1)]) (q := (7, [some (.ref 2), some (.int (nI a)), some (.int y), some (.int u), some (.int z), none], [.int y, .ref 2])) (by decide +kernel) rfl ?_
  dsimp only
  exact am_Rq.callNo (show decode (am_by 23) 7 = .ok (.invokevirtual 62, 3) by decide +kernel) rfl [.int y] [] rfl rfl (Nat.le_of_ble_eq_true rfl) rfl hO rfl rfl (c_requireHolder_no (hy) (by omega)) ⟨rfl, rfl⟩
theorem c_issue_no3 (hO : hp[2]? = some (0, [.ref 3, .ref 26, .ref 212])) {t : Nat → Nat} (h : Led hp 3 t) {K : Nat} (ok : c_ok K t) (hK : K ≤ 900) (h4 : 4 ≤ d) {a k : Nat} (ha : a < t 153) (hk : k < 8) {u z : Int32} (hu : rg_r (nI 1) (nI 1000) u = false ∨ rg_r (nI 1) (nI 1000) z = false) : am_Rq (d + 3) 23 0 (am_en [.ref 2, .int (nI a), .int (nI k), .int u, .int z] 6) [] hp (c_No 0 hp) := by
  show am_Rq _ 23 0 [some (.ref 2), some (.int (nI a)), some (.int (nI k)), some (.int u), some (.int z), none] [] _ _
  have hB := ok.b (by omega)
  refine am_Rq.blk (is := [(.aload_n 0, 1), (.iload_n 1, 1)]) (q := (2, [some (.ref 2), some (.int (nI a)), some (.int (nI k)), some (.int u), some (.int z), none], [.int (nI a), .ref 2])) (by decide +kernel) rfl ?_
  dsimp only
  refine am_Rq.callV (show decode (am_by 23) 2 = .ok (.invokevirtual 58, 3) by decide +kernel) rfl [.int (nI a)] [] rfl rfl (Nat.le_of_ble_eq_true rfl) rfl hO rfl (c_requireClass hO h (rg_lt ha (hB _ (by omega))) (by omega)) ?_
  rintro hq _ ⟨e1, rfl⟩
  rw [e1]
  clear e1 hq
  show am_Rq _ 23 5 [some (.ref 2), some (.int (nI a)), some (.int (nI k)), some (.int u), some (.int z), none] [] _ _
  refine am_Rq.blk (is := [(.aload_n 0, 1), (.iload_n 2, 1)]) (q := (7, [some (.ref 2), some (.int (nI a)), some (.int (nI k)), some (.int u), some (.int z), none], [.int (nI k), .ref 2])) (by decide +kernel) rfl ?_
  dsimp only
  refine am_Rq.callV (show decode (am_by 23) 7 = .ok (.invokevirtual 62, 3) by decide +kernel) rfl [.int (nI k)] [] rfl rfl (Nat.le_of_ble_eq_true rfl) rfl hO rfl (c_requireHolder (rg_le (by omega) (show k ≤ 7 by omega) (by omega)) (by omega)) ?_
  rintro hq _ ⟨e1, rfl⟩
  rw [e1]
  clear e1 hq
  show am_Rq _ 23 10 [some (.ref 2), some (.int (nI a)), some (.int (nI k)), some (.int u), some (.int z), none] [] _ _
  refine am_Rq.blk (is := [(.iload_n 3, 1), (.iconst 1, 1), (.sipush 1000, 3)]) (q := (15, [some (.ref 2), some (.int (nI a)), some (.int (nI k)), some (.int u), some (.int z), none], [.int (nI 1000), .int (nI 1), .int u])) (by decide +kernel) rfl ?_
  dsimp only
  refine am_Rq.callS (show decode (am_by 23) 15 = .ok (.invokestatic 30, 3) by decide +kernel) rfl [.int u, .int (nI 1), .int (nI 1000)] [] rfl rfl (Nat.le_of_ble_eq_true rfl) rfl rfl (c_within (u) (nI 1) (nI 1000)) ?_
  rintro hq _ ⟨e1, rfl⟩
  rw [e1]
  clear e1 hq
  show am_Rq _ 23 18 [some (.ref 2), some (.int (nI a)), some (.int (nI k)), some (.int u), some (.int z), none] [.int (nI (am_b (rg_r (nI 1) (nI 1000) (u))))] _ _
  refine am_Rq.if1 (t := 33) (show decode (am_by 23) 18 = .ok (.ifCond .eq 15, 3) by decide +kernel) (by decide) (fun he => ?_) (fun he => ?_)
  ·
    refine am_Rq.thrN (k := 0) (ic := 36) (show decode (am_by 23) 33 = .ok (.new 34, 3) by decide +kernel) rfl (by omega) rfl (show decode (am_by 23) 36 = .ok (.dup, 1) by decide +kernel) (show decode (am_by 23) 37 = .ok (.invokespecial 36, 3) by decide +kernel) (show decode (am_by 23) 40 = .ok (.athrow, 1) by decide +kernel) ?_
    exact ⟨rfl, rfl⟩
  ·
    rw [am_b_eq] at he
    refine am_Rq.blk (is := [(.iload 4, 2), (.iconst 1, 1), (.sipush 1000, 3)]) (q := (27, [some (.ref 2), some (.int (nI a)), some (.int (nI k)), some (.int u), some (.int z), none], [.int (nI 1000), .int (nI 1), .int z])) (by decide +kernel) rfl ?_
    dsimp only
    refine am_Rq.callS (show decode (am_by 23) 27 = .ok (.invokestatic 30, 3) by decide +kernel) rfl [.int z, .int (nI 1), .int (nI 1000)] [] rfl rfl (Nat.le_of_ble_eq_true rfl) rfl rfl (c_within (z) (nI 1) (nI 1000)) ?_
    rintro hq _ ⟨e1, rfl⟩
    rw [e1]
    clear e1 hq
    show am_Rq _ 23 30 [some (.ref 2), some (.int (nI a)), some (.int (nI k)), some (.int u), some (.int z), none] [.int (nI (am_b (rg_r (nI 1) (nI 1000) (z))))] _ _
    refine am_Rq.if1F (show decode (am_by 23) 30 = .ok (.ifCond .ne 11, 3) by decide +kernel) (by decide) (by rw [am_b_ne]; exact hu.resolve_left (fun q => by rw [q] at he; cases he)) ?_
    refine am_Rq.thrN (k := 0) (ic := 36) (show decode (am_by 23) 33 = .ok (.new 34, 3) by decide +kernel) rfl (by omega) rfl (show decode (am_by 23) 36 = .ok (.dup, 1) by decide +kernel) (show decode (am_by 23) 37 = .ok (.invokespecial 36, 3) by decide +kernel) (show decode (am_by 23) 40 = .ok (.athrow, 1) by decide +kernel) ?_
    exact ⟨rfl, rfl⟩
end C9
