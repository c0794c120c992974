/-! The class: calls (rows by prog/c8.py). -/
section C8
variable {d : Nat} {hp : am_H}
theorem c_granted (hO : hp[2]? = some (0, [.ref 3, .ref 26, .ref 212])) {t : Nat → Nat} (h : Led hp 3 t) {K : Nat} (ok : c_ok K t) (hK : K ≤ 900) (h4 : 4 ≤ d)  : am_Rq (d + 3) 8 0 (am_en [.ref 2] 1) [] hp (am_Ret fun hp1 v => hp1 = hp ∧ v = some (.int (nI (sp_sm (fun g => t (83 + 7 * g + 1)) (t 82))))) := by
  show am_Rq _ 8 0 [some (.ref 2)] [] _ _
  have hB := ok.b (by omega)
  refine am_Rq.blk (is := [(.aload_n 0, 1)]) (q := (1, [some (.ref 2)], [.ref 2])) (by decide +kernel) rfl ?_
  dsimp only
  refine am_Rq.getf (v := .ref 3) (show decode (am_by 8) 1 = .ok (.getfield 12, 3) by decide +kernel) rfl hO rfl ?_
  refine am_Rq.callV (show decode (am_by 8) 4 = .ok (.invokevirtual 90, 3) by decide +kernel) rfl [] [] rfl rfl (Nat.le_of_ble_eq_true rfl) rfl (Led.lg h) rfl (c_allGr h ok (by omega)) ?_
  rintro hq _ ⟨e1, rfl⟩
  rw [e1]
  clear e1 hq
  show am_Rq _ 8 7 [some (.ref 2)] [.int (nI (sp_sm (fun g => t (83 + 7 * g + 1)) (t 82)))] _ _
  refine am_Rq.ret (v := some (.int (nI (sp_sm (fun g => t (83 + 7 * g + 1)) (t 82))))) (show decode (am_by 8) 7 = .ok (.ireturn, 1) by decide +kernel) rfl rfl ?_
  exact ⟨_, rfl, rfl, rfl⟩
theorem c_asConverted (hO : hp[2]? = some (0, [.ref 3, .ref 26, .ref 212])) {t : Nat → Nat} (h : Led hp 3 t) {K : Nat} (ok : c_ok K t) (hK : K ≤ 900) (h4 : 4 ≤ d)  : am_Rq (d + 3) 10 0 (am_en [.ref 2] 1) [] hp (am_Ret fun hp1 v => hp1 = hp ∧ v = some (.int (nI (sp_sm (c_ic t) 5)))) := by
  show am_Rq _ 10 0 [some (.ref 2)] [] _ _
  have hB := ok.b (by omega)
  refine am_Rq.blk (is := [(.aload_n 0, 1)]) (q := (1, [some (.ref 2)], [.ref 2])) (by decide +kernel) rfl ?_
  dsimp only
  refine am_Rq.getf (v := .ref 3) (show decode (am_by 10) 1 = .ok (.getfield 12, 3) by decide +kernel) rfl hO rfl ?_
  refine am_Rq.callV (show decode (am_by 10) 4 = .ok (.invokevirtual 128, 3) by decide +kernel) rfl [] [] rfl rfl (Nat.le_of_ble_eq_true rfl) rfl (Led.lg h) rfl (c_allIc h ok (by omega)) ?_
  rintro hq _ ⟨e1, rfl⟩
  rw [e1]
  clear e1 hq
  show am_Rq _ 10 7 [some (.ref 2)] [.int (nI (sp_sm (c_ic t) 5))] _ _
  refine am_Rq.ret (v := some (.int (nI (sp_sm (c_ic t) 5)))) (show decode (am_by 10) 7 = .ok (.ireturn, 1) by decide +kernel) rfl rfl ?_
  exact ⟨_, rfl, rfl, rfl⟩
theorem c_held (hO : hp[2]? = some (0, [.ref 3, .ref 26, .ref 212])) {t : Nat → Nat} (h : Led hp 3 t) {K : Nat} (ok : c_ok K t) (hK : K ≤ 900) (h4 : 4 ≤ d) {a k : Nat} (ha : a < t 153) (hk : k < 8) : am_Rq (d + 3) 53 0 (am_en [.ref 2, .int (nI a), .int (nI k)] 3) [] hp (am_Ret fun hp1 v => hp1 = hp ∧ v = some (.int (nI (t (40 + 8 * a + k))))) := by
  show am_Rq _ 53 0 [some (.ref 2), some (.int (nI a)), some (.int (nI k))] [] _ _
  have hB := ok.b (by omega)
  have h153 := ok.2.2.2.2.2.2.1
  refine am_Rq.blk (is := [(.aload_n 0, 1), (.iload_n 1, 1)]) (q := (2, [some (.ref 2), some (.int (nI a)), some (.int (nI k))], [.int (nI a), .ref 2])) (by decide +kernel) rfl ?_
  dsimp only
  refine am_Rq.callV (show decode (am_by 53) 2 = .ok (.invokevirtual 58, 3) by decide +kernel) rfl [.int (nI a)] [] rfl rfl (Nat.le_of_ble_eq_true rfl) rfl hO rfl (c_requireClass hO h (rg_lt ha (hB _ (by omega))) (by omega)) ?_
  rintro hq _ ⟨e1, rfl⟩
  rw [e1]
  clear e1 hq
  show am_Rq _ 53 5 [some (.ref 2), some (.int (nI a)), some (.int (nI k))] [] _ _
  refine am_Rq.blk (is := [(.aload_n 0, 1), (.iload_n 2, 1)]) (q := (7, [some (.ref 2), some (.int (nI a)), some (.int (nI k))], [.int (nI k), .ref 2])) (by decide +kernel) rfl ?_
  dsimp only
  refine am_Rq.callV (show decode (am_by 53) 7 = .ok (.invokevirtual 62, 3) by decide +kernel) rfl [.int (nI k)] [] rfl rfl (Nat.le_of_ble_eq_true rfl) rfl hO rfl (c_requireHolder (rg_le (by omega) (show k ≤ 7 by omega) (by omega)) (by omega)) ?_
  rintro hq _ ⟨e1, rfl⟩
  rw [e1]
  clear e1 hq
  show am_Rq _ 53 10 [some (.ref 2), some (.int (nI a)), some (.int (nI k))] [] _ _
  refine am_Rq.blk (is := [(.aload_n 0, 1)]) (q := (11, [some (.ref 2), some (.int (nI a)), some (.int (nI k))], [.ref 2])) (by decide +kernel) rfl ?_
  dsimp only
  refine am_Rq.getf (v := .ref 3) (show decode (am_by 53) 11 = .ok (.getfield 12, 3) by decide +kernel) rfl hO rfl ?_
  refine am_Rq.getf (v := .ref (3 + 1)) (show decode (am_by 53) 14 = .ok (.getfield 48, 3) by decide +kernel) rfl (Led.lg h) rfl ?_
  refine am_Rq.blk (is := [(.iload_n 1, 1)]) (q := (18, [some (.ref 2), some (.int (nI a)), some (.int (nI k))], [.int (nI a), .ref (3 + 1)])) (by decide +kernel) rfl ?_
  dsimp only
  refine am_Rq.ral (k := a) (show decode (am_by 53) 18 = .ok (.aaload, 1) by decide +kernel) (Led.ca h) rfl (by omega) (by omega) ?_
  refine am_Rq.getf (v := .ref (3 + 3 + 2 * a)) (show decode (am_by 53) 19 = .ok (.getfield 76, 3) by decide +kernel) rfl (Led.sc h (by omega)) rfl ?_
  refine am_Rq.blk (is := [(.iload_n 2, 1)]) (q := (23, [some (.ref 2), some (.int (nI a)), some (.int (nI k))], [.int (nI k), .ref (3 + 3 + 2 * a)])) (by decide +kernel) rfl ?_
  dsimp only
  refine Led.gHd (c := a) (k := k) h (by omega) (by omega) (show decode (am_by 53) 23 = .ok (.iaload, 1) by decide +kernel) ?_
  refine am_Rq.ret (v := some (.int (nI (t (40 + 8 * a + k))))) (show decode (am_by 53) 24 = .ok (.ireturn, 1) by decide +kernel) rfl rfl ?_
  exact ⟨_, rfl, rfl, rfl⟩
theorem c_held_no1 (hO : hp[2]? = some (0, [.ref 3, .ref 26, .ref 212])) {t : Nat → Nat} (h : Led hp 3 t) {K : Nat} (ok : c_ok K t) (hK : K ≤ 900) (h4 : 4 ≤ d) {x y : Int32} (hx : rg_r (nI 0) (nI (t 153) - nI 1) x = false) : am_Rq (d + 3) 53 0 (am_en [.ref 2, .int x, .int y] 3) [] hp (c_No 2 hp) := by
  show am_Rq _ 53 0 [some (.ref 2), some (.int x), some (.int y)] [] _ _
  have hB := ok.b (by omega)
  refine am_Rq.blk (is := [(.aload_n 0, 1), (.iload_n 1, 1)]) (q := (2, [some (.ref 2), some (.int x), some (.int y)], [.int x, .ref 2])) (by decide +kernel) rfl ?_
  dsimp only
  exact am_Rq.callNo (show decode (am_by 53) 2 = .ok (.invokevirtual 58, 3) by decide +kernel) rfl [.int x] [] rfl rfl (Nat.le_of_ble_eq_true rfl) rfl hO rfl rfl (c_requireClass_no hO h (hx) (by omega)) ⟨rfl, rfl⟩
theorem c_held_no2 (hO : hp[2]? = some (0, [.ref 3, .ref 26, .ref 212])) {t : Nat → Nat} (h : Led hp 3 t) {K : Nat} (ok : c_ok K t) (hK : K ≤ 900) (h4 : 4 ≤ d) {y : Int32} {a : Nat} (ha : a < t 153) (hy : rg_r (nI 0) (nI 7) y = false) : am_Rq (d + 3) 53 0 (am_en [.ref 2, .int (nI a), .int y] 3) [] hp (c_No 2 hp) := by
  show am_Rq _ 53 0 [some (.ref 2), some (.int (nI a)), some (.int y)] [] _ _
  have hB := ok.b (by omega)
  refine am_Rq.blk (is := [(.aload_n 0, 1), (.iload_n 1, 1)]) (q := (2, [some (.ref 2), some (.int (nI a)), some (.int y)], [.int (nI a), .ref 2])) (by decide +kernel) rfl ?_
  dsimp only
  refine am_Rq.callV (show decode (am_by 53) 2 = .ok (.invokevirtual 58, 3) by decide +kernel) rfl [.int (nI a)] [] rfl rfl (Nat.le_of_ble_eq_true rfl) rfl hO rfl (c_requireClass hO h (rg_lt ha (hB _ (by omega))) (by omega)) ?_
  rintro hq _ ⟨e1, rfl⟩
  rw [e1]
  clear e1 hq
  show am_Rq _ 53 5 [some (.ref 2), some (.int (nI a)), some (.int y)] [] _ _
  refine am_Rq.blk (is := [(.aload_n 0, 1), (.iload_n 2, 1)]) (q := (7, [some (.ref 2), some (.int (nI a)), some (.int y)], [.int y, .ref 2])) (by decide +kernel) rfl ?_
  dsimp only
  exact am_Rq.callNo (show decode (am_by 53) 7 = .ok (.invokevirtual 62, 3) by decide +kernel) rfl [.int y] [] rfl rfl (Nat.le_of_ble_eq_true rfl) rfl hO rfl rfl (c_requireHolder_no (hy) (by omega)) ⟨rfl, rfl⟩
theorem c_inIssue (hO : hp[2]? = some (0, [.ref 3, .ref 26, .ref 212])) {t : Nat → Nat} (h : Led hp 3 t) {K : Nat} (ok : c_ok K t) (hK : K ≤ 900) (h4 : 4 ≤ d) {a : Nat} (ha : a < t 153) : am_Rq (d + 3) 55 0 (am_en [.ref 2, .int (nI a)] 2) [] hp (am_Ret fun hp1 v => hp1 = hp ∧ v = some (.int (nI (t (8 * a + 7))))) := by
  show am_Rq _ 55 0 [some (.ref 2), some (.int (nI a))] [] _ _
  have hB := ok.b (by omega)
  have h153 := ok.2.2.2.2.2.2.1
  refine am_Rq.blk (is := [(.aload_n 0, 1), (.iload_n 1, 1)]) (q := (2, [some (.ref 2), some (.int (nI a))], [.int (nI a), .ref 2])) (by decide +kernel) rfl ?_
  dsimp only
  refine am_Rq.callV (show decode (am_by 55) 2 = .ok (.invokevirtual 58, 3) by decide +kernel) rfl [.int (nI a)] [] rfl rfl (Nat.le_of_ble_eq_true rfl) rfl hO rfl (c_requireClass hO h (rg_lt ha (hB _ (by omega))) (by omega)) ?_
  rintro hq _ ⟨e1, rfl⟩
  rw [e1]
  clear e1 hq
  show am_Rq _ 55 5 [some (.ref 2), some (.int (nI a))] [] _ _
  refine am_Rq.blk (is := [(.aload_n 0, 1)]) (q := (6, [some (.ref 2), some (.int (nI a))], [.ref 2])) (by decide +kernel) rfl ?_
  dsimp only
  refine am_Rq.getf (v := .ref 3) (show decode (am_by 55) 6 = .ok (.getfield 12, 3) by decide +kernel) rfl hO rfl ?_
  refine am_Rq.getf (v := .ref (3 + 1)) (show decode (am_by 55) 9 = .ok (.getfield 48, 3) by decide +kernel) rfl (Led.lg h) rfl ?_
  refine am_Rq.blk (is := [(.iload_n 1, 1)]) (q := (13, [some (.ref 2), some (.int (nI a))], [.int (nI a), .ref (3 + 1)])) (by decide +kernel) rfl ?_
  dsimp only
  refine am_Rq.ral (k := a) (show decode (am_by 55) 13 = .ok (.aaload, 1) by decide +kernel) (Led.ca h) rfl (by omega) (by omega) ?_
  refine am_Rq.getf (v := .int (nI (t (8 * a + 7)))) (show decode (am_by 55) 14 = .ok (.getfield 65, 3) by decide +kernel) rfl (Led.sc h (by omega)) rfl ?_
  refine am_Rq.ret (v := some (.int (nI (t (8 * a + 7))))) (show decode (am_by 55) 17 = .ok (.ireturn, 1) by decide +kernel) rfl rfl ?_
  exact ⟨_, rfl, rfl, rfl⟩
theorem c_inIssue_no (hO : hp[2]? = some (0, [.ref 3, .ref 26, .ref 212])) {t : Nat → Nat} (h : Led hp 3 t) {K : Nat} (ok : c_ok K t) (hK : K ≤ 900) (h4 : 4 ≤ d) {x : Int32} (hx : rg_r (nI 0) (nI (t 153) - nI 1) x = false) : am_Rq (d + 3) 55 0 (am_en [.ref 2, .int x] 2) [] hp (c_No 2 hp) := by
  show am_Rq _ 55 0 [some (.ref 2), some (.int x)] [] _ _
  have hB := ok.b (by omega)
  refine am_Rq.blk (is := [(.aload_n 0, 1), (.iload_n 1, 1)]) (q := (2, [some (.ref 2), some (.int x)], [.int x, .ref 2])) (by decide +kernel) rfl ?_
  dsimp only
  exact am_Rq.callNo (show decode (am_by 55) 2 = .ok (.invokevirtual 58, 3) by decide +kernel) rfl [.int x] [] rfl rfl (Nat.le_of_ble_eq_true rfl) rfl hO rfl rfl (c_requireClass_no hO h (hx) (by omega)) ⟨rfl, rfl⟩
theorem c_conversion (hO : hp[2]? = some (0, [.ref 3, .ref 26, .ref 212])) {t : Nat → Nat} (h : Led hp 3 t) {K : Nat} (ok : c_ok K t) (hK : K ≤ 900) (h4 : 4 ≤ d) {a : Nat} (h1 : 1 ≤ a) (ha : a < t 153) : am_Rq (d + 3) 57 0 (am_en [.ref 2, .int (nI a)] 2) [] hp (am_Ret fun hp1 v => hp1 = hp ∧ v = some (.int (nI (t (8 * a + 6))))) := by
  show am_Rq _ 57 0 [some (.ref 2), some (.int (nI a))] [] _ _
  have hB := ok.b (by omega)
  have h153 := ok.2.2.2.2.2.2.1
  refine am_Rq.blk (is := [(.aload_n 0, 1), (.iload_n 1, 1)]) (q := (2, [some (.ref 2), some (.int (nI a))], [.int (nI a), .ref 2])) (by decide +kernel) rfl ?_
  dsimp only
  refine am_Rq.callV (show decode (am_by 57) 2 = .ok (.invokevirtual 83, 3) by decide +kernel) rfl [.int (nI a)] [] rfl rfl (Nat.le_of_ble_eq_true rfl) rfl hO rfl (c_requirePreferred hO h (rg_lt1 h1 ha (hB _ (by omega))) (by omega)) ?_
  rintro hq _ ⟨e1, rfl⟩
  rw [e1]
  clear e1 hq
  show am_Rq _ 57 5 [some (.ref 2), some (.int (nI a))] [] _ _
  refine am_Rq.blk (is := [(.aload_n 0, 1)]) (q := (6, [some (.ref 2), some (.int (nI a))], [.ref 2])) (by decide +kernel) rfl ?_
  dsimp only
  refine am_Rq.getf (v := .ref 3) (show decode (am_by 57) 6 = .ok (.getfield 12, 3) by decide +kernel) rfl hO rfl ?_
  refine am_Rq.getf (v := .ref (3 + 1)) (show decode (am_by 57) 9 = .ok (.getfield 48, 3) by decide +kernel) rfl (Led.lg h) rfl ?_
  refine am_Rq.blk (is := [(.iload_n 1, 1)]) (q := (13, [some (.ref 2), some (.int (nI a))], [.int (nI a), .ref (3 + 1)])) (by decide +kernel) rfl ?_
  dsimp only
  refine am_Rq.ral (k := a) (show decode (am_by 57) 13 = .ok (.aaload, 1) by decide +kernel) (Led.ca h) rfl (by omega) (by omega) ?_
  refine am_Rq.getf (v := .int (nI (t (8 * a + 6)))) (show decode (am_by 57) 14 = .ok (.getfield 131, 3) by decide +kernel) rfl (Led.sc h (by omega)) rfl ?_
  refine am_Rq.ret (v := some (.int (nI (t (8 * a + 6))))) (show decode (am_by 57) 17 = .ok (.ireturn, 1) by decide +kernel) rfl rfl ?_
  exact ⟨_, rfl, rfl, rfl⟩
theorem c_conversion_no (hO : hp[2]? = some (0, [.ref 3, .ref 26, .ref 212])) {t : Nat → Nat} (h : Led hp 3 t) {K : Nat} (ok : c_ok K t) (hK : K ≤ 900) (h4 : 4 ≤ d) {x : Int32} (hx : rg_r (nI 1) (nI (t 153) - nI 1) x = false) : am_Rq (d + 3) 57 0 (am_en [.ref 2, .int x] 2) [] hp (c_No 2 hp) := by
  show am_Rq _ 57 0 [some (.ref 2), some (.int x)] [] _ _
  have hB := ok.b (by omega)
  refine am_Rq.blk (is := [(.aload_n 0, 1), (.iload_n 1, 1)]) (q := (2, [some (.ref 2), some (.int x)], [.int x, .ref 2])) (by decide +kernel) rfl ?_
  dsimp only
  exact am_Rq.callNo (show decode (am_by 57) 2 = .ok (.invokevirtual 83, 3) by decide +kernel) rfl [.int x] [] rfl rfl (Nat.le_of_ble_eq_true rfl) rfl hO rfl rfl (c_requirePreferred_no hO h (hx) (by omega)) ⟨rfl, rfl⟩
theorem c_vestedOf (hO : hp[2]? = some (0, [.ref 3, .ref 26, .ref 212])) {t : Nat → Nat} (h : Led hp 3 t) {K : Nat} (ok : c_ok K t) (hK : K ≤ 900) (h4 : 4 ≤ d) {g : Nat} (hg : g < t 82) : am_Rq (d + 3) 51 0 (am_en [.ref 2, .int (nI g)] 2) [] hp (am_Ret fun hp1 v => hp1 = hp ∧ v = some (.int (nI (c_vg t g)))) := by
  show am_Rq _ 51 0 [some (.ref 2), some (.int (nI g))] [] _ _
  have hB := ok.b (by omega)
  have h82 := ok.2.2.2.2.1
  obtain ⟨g0, g1, g2, g3, g4, g5, g6⟩ := ok.2.1 g (by omega)
  refine am_Rq.blk (is := [(.aload_n 0, 1), (.iload_n 1, 1)]) (q := (2, [some (.ref 2), some (.int (nI g))], [.int (nI g), .ref 2])) (by decide +kernel) rfl ?_
  dsimp only
  refine am_Rq.callV (show decode (am_by 51) 2 = .ok (.invokevirtual 116, 3) by decide +kernel) rfl [.int (nI g)] [] rfl rfl (Nat.le_of_ble_eq_true rfl) rfl hO rfl (c_requireGrant hO h (rg_lt hg (hB _ (by omega))) (by omega)) ?_
  rintro hq _ ⟨e1, rfl⟩
  rw [e1]
  clear e1 hq
  show am_Rq _ 51 5 [some (.ref 2), some (.int (nI g))] [] _ _
  refine am_Rq.blk (is := [(.aload_n 0, 1)]) (q := (6, [some (.ref 2), some (.int (nI g))], [.ref 2])) (by decide +kernel) rfl ?_
  dsimp only
  refine am_Rq.getf (v := .ref 3) (show decode (am_by 51) 6 = .ok (.getfield 12, 3) by decide +kernel) rfl hO rfl ?_
  refine am_Rq.getf (v := .ref (3 + 12)) (show decode (am_by 51) 9 = .ok (.getfield 100, 3) by decide +kernel) rfl (Led.lg h) rfl ?_
  refine am_Rq.blk (is := [(.iload_n 1, 1)]) (q := (13, [some (.ref 2), some (.int (nI g))], [.int (nI g), .ref (3 + 12)])) (by decide +kernel) rfl ?_
  dsimp only
  refine am_Rq.ral (k := g) (show decode (am_by 51) 13 = .ok (.aaload, 1) by decide +kernel) (Led.ga h) rfl (by omega) (by omega) ?_
  refine am_Rq.blk (is := [(.aload_n 0, 1)]) (q := (15, [some (.ref 2), some (.int (nI g))], [.ref 2, .ref (3 + 13 + 1 * g)])) (by decide +kernel) rfl ?_
  dsimp only
  refine am_Rq.getf (v := .ref 3) (show decode (am_by 51) 15 = .ok (.getfield 12, 3) by decide +kernel) rfl hO rfl ?_
  refine am_Rq.getf (v := .int (nI (t 81))) (show decode (am_by 51) 18 = .ok (.getfield 104, 3) by decide +kernel) rfl (Led.lg h) rfl ?_
  refine am_Rq.callV (show decode (am_by 51) 21 = .ok (.invokevirtual 119, 3) by decide +kernel) rfl [.int (nI (t 81))] [] rfl rfl (Nat.le_of_ble_eq_true rfl) rfl (Led.gr h (by omega)) rfl (c_vested h (by omega) hB (hB _ (by omega)) g4 g1 g3) ?_
  rintro hq _ ⟨e1, rfl⟩
  rw [e1]
  clear e1 hq
  show am_Rq _ 51 24 [some (.ref 2), some (.int (nI g))] [.int (nI (c_vg t g))] _ _
  refine am_Rq.ret (v := some (.int (nI (c_vg t g)))) (show decode (am_by 51) 24 = .ok (.ireturn, 1) by decide +kernel) rfl rfl ?_
  exact ⟨_, rfl, rfl, rfl⟩
theorem c_vestedOf_no (hO : hp[2]? = some (0, [.ref 3, .ref 26, .ref 212])) {t : Nat → Nat} (h : Led hp 3 t) {K : Nat} (ok : c_ok K t) (hK : K ≤ 900) (h4 : 4 ≤ d) {x : Int32} (hx : rg_r (nI 0) (nI (t 82) - nI 1) x = false) : am_Rq (d + 3) 51 0 (am_en [.ref 2, .int x] 2) [] hp (c_No 2 hp) := by
  show am_Rq _ 51 0 [some (.ref 2), some (.int x)] [] _ _
  have hB := ok.b (by omega)
  refine am_Rq.blk (is := [(.aload_n 0, 1), (.iload_n 1, 1)]) (q := (2, [some (.ref 2), some (.int x)], [.int x, .ref 2])) (by decide +kernel) rfl ?_
  dsimp only
  exact am_Rq.callNo (show decode (am_by 51) 2 = .ok (.invokevirtual 116, 3) by decide +kernel) rfl [.int x] [] rfl rfl (Nat.le_of_ble_eq_true rfl) rfl hO rfl rfl (c_requireGrant_no hO h (hx) (by omega)) ⟨rfl, rfl⟩
theorem c_pool (hO : hp[2]? = some (0, [.ref 3, .ref 26, .ref 212])) {t : Nat → Nat} (h : Led hp 3 t) {K : Nat} (ok : c_ok K t) (hK : K ≤ 900) (h4 : 4 ≤ d) {nx ct : Nat} {ks : Nat → Nat → Nat} (hH : c_H hp 26 nx ct ks) {n : Nat} (hn : n ≤ 5000) (hg : sp_sm (fun g => t (83 + 7 * g + 1)) (t 82) ≤ n) : am_Rq (d + 3) 36 0 (am_en [.ref 2, .int (nI n)] 3) [] hp (am_Ret fun hp1 v => v = some (.int (nI (t 80))) ∧ Led hp1 3 (va_up t 80 n) ∧ c_H hp1 26 ((nx + 1) % 8) (min (ct + 1) 8) (va_up ks nx t) ∧ am_fr c_all hp hp1) := by
  show am_Rq _ 36 0 [some (.ref 2), some (.int (nI n)), none] [] _ _
  have hB := ok.b (by omega)
  refine am_Rq.blk (is := [(.iload_n 1, 1), (.iconst 0, 1), (.sipush 5000, 3)]) (q := (5, [some (.ref 2), some (.int (nI n)), none], [.int (nI 5000), .int (nI 0), .int (nI n)])) (by decide +kernel) rfl ?_
  dsimp only
  refine am_Rq.callS (show decode (am_by 36) 5 = .ok (.invokestatic 30, 3) by decide +kernel) rfl [.int (nI n), .int (nI 0), .int (nI 5000)] [] rfl rfl (Nat.le_of_ble_eq_true rfl) rfl rfl (c_within (nI n) (nI 0) (nI 5000)) ?_
  rintro hq _ ⟨e1, rfl⟩
  rw [e1]
  clear e1 hq
  show am_Rq _ 36 8 [some (.ref 2), some (.int (nI n)), none] [.int (nI (am_b (rg_r (nI 0) (nI 5000) (nI n))))] _ _
  refine am_Rq.if1F (show decode (am_by 36) 8 = .ok (.ifCond .eq 14, 3) by decide +kernel) (by decide) (by rw [am_b_eq, rg_le (by omega) hn (by omega)]; rfl) ?_
  refine am_Rq.blk (is := [(.iload_n 1, 1), (.aload_n 0, 1)]) (q := (13, [some (.ref 2), some (.int (nI n)), none], [.ref 2, .int (nI n)])) (by decide +kernel) rfl ?_
  dsimp only
  refine am_Rq.getf (v := .ref 3) (show decode (am_by 36) 13 = .ok (.getfield 12, 3) by decide +kernel) rfl hO rfl ?_
  refine am_Rq.callV (show decode (am_by 36) 16 = .ok (.invokevirtual 90, 3) by decide +kernel) rfl [] [.int (nI n)] rfl rfl (Nat.le_of_ble_eq_true rfl) rfl (Led.lg h) rfl (c_allGr h ok (by omega)) ?_
  rintro hq _ ⟨e1, rfl⟩
  rw [e1]
  clear e1 hq
  show am_Rq _ 36 19 [some (.ref 2), some (.int (nI n)), none] [.int (nI (sp_sm (fun g => t (83 + 7 * g + 1)) (t 82))), .int (nI n)] _ _
  refine am_Rq.if2T (t := 30) (show decode (am_by 36) 19 = .ok (.if_icmp .ge 11, 3) by decide +kernel) (by decide) (by rw [nm_ge (by omega) (by omega)]; exact decide_eq_true hg) ?_
  refine am_Rq.blk (is := [(.aload_n 0, 1)]) (q := (31, [some (.ref 2), some (.int (nI n)), none], [.ref 2])) (by decide +kernel) rfl ?_
  dsimp only
  refine am_Rq.getf (v := .ref 26) (show decode (am_by 36) 31 = .ok (.getfield 19, 3) by decide +kernel) rfl hO rfl ?_
  refine am_Rq.blk (is := [(.aload_n 0, 1)]) (q := (35, [some (.ref 2), some (.int (nI n)), none], [.ref 2, .ref 26])) (by decide +kernel) rfl ?_
  dsimp only
  refine am_Rq.getf (v := .ref 3) (show decode (am_by 36) 35 = .ok (.getfield 12, 3) by decide +kernel) rfl hO rfl ?_
  refine am_Rq.callV (show decode (am_by 36) 38 = .ok (.invokevirtual 44, 3) by decide +kernel) rfl [.ref 3] [] rfl rfl (Nat.le_of_ble_eq_true rfl) rfl hH.2.2.2.1 rfl (c_keep h hH (by omega) ok.e) ?_
  rintro hp1 _ ⟨rfl, hL1, hH1, hf1⟩
  have hc1_2 := (hf1.2.2 2 (fun q => by have := q.1; omega)).trans hO
  show am_Rq _ 36 41 [some (.ref 2), some (.int (nI n)), none] [] _ _
  refine am_Rq.blk (is := [(.aload_n 0, 1)]) (q := (42, [some (.ref 2), some (.int (nI n)), none], [.ref 2])) (by decide +kernel) rfl ?_
  dsimp only
  refine am_Rq.getf (v := .ref 3) (show decode (am_by 36) 42 = .ok (.getfield 12, 3) by decide +kernel) rfl hc1_2 rfl ?_
  refine am_Rq.getf (v := .int (nI (t 80))) (show decode (am_by 36) 45 = .ok (.getfield 94, 3) by decide +kernel) rfl (Led.lg hL1) rfl ?_
  refine am_Rq.blk (is := [(.istore_n 2, 1), (.aload_n 0, 1)]) (q := (50, [some (.ref 2), some (.int (nI n)), some (.int (nI (t 80)))], [.ref 2])) (by decide +kernel) rfl ?_
  dsimp only
  refine am_Rq.getf (v := .ref 3) (show decode (am_by 36) 50 = .ok (.getfield 12, 3) by decide +kernel) rfl hc1_2 rfl ?_
  refine am_Rq.blk (is := [(.iload_n 1, 1)]) (q := (54, [some (.ref 2), some (.int (nI n)), some (.int (nI (t 80)))], [.int (nI n), .ref 3])) (by decide +kernel) rfl ?_
  dsimp only
  refine Led.pLg (k := 4) (p := 80) (v := n) hL1 (show decode (am_by 36) 54 = .ok (.putfield 94, 3) by decide +kernel) rfl (by decide) (by first | rfl | exact rfl) rfl ?_
  intro hp2 hL2 hf2
  have hc2_2 := (hf2.2.2 (2) (fun q => by obtain ⟨_, _⟩ := q; omega)).trans hc1_2
  refine am_Rq.blk (is := [(.iload_n 2, 1)]) (q := (58, [some (.ref 2), some (.int (nI n)), some (.int (nI (t 80)))], [.int (nI (t 80))])) (by decide +kernel) rfl ?_
  dsimp only
  refine am_Rq.ret (v := some (.int (nI (t 80)))) (show decode (am_by 36) 58 = .ok (.ireturn, 1) by decide +kernel) rfl rfl ?_
  exact ⟨_, rfl, rfl, hL2, c_H.kept hH1 (fun a ha => hf2.2.2 a (fun q => by obtain ⟨_, _⟩ := q; obtain ⟨_, _⟩ := ha; omega)), ((hf1.mono (fun a q => by obtain ⟨_, _⟩ := q; exact ⟨by omega, by omega⟩)).trans (hf2.mono (fun a q => by obtain ⟨_, _⟩ := q; exact ⟨by omega, by omega⟩)))⟩
theorem c_pool_no1 (hO : hp[2]? = some (0, [.ref 3, .ref 26, .ref 212])) {t : Nat → Nat} (h : Led hp 3 t) {K : Nat} (ok : c_ok K t) (hK : K ≤ 900) (h4 : 4 ≤ d) {x : Int32} (hx : rg_r (nI 0) (nI 5000) x = false) : am_Rq (d + 3) 36 0 (am_en [.ref 2, .int x] 3) [] hp (c_No 0 hp) := by
  show am_Rq _ 36 0 [some (.ref 2), some (.int x), none] [] _ _
  have hB := ok.b (by omega)
  refine am_Rq.blk (is := [(.iload_n 1, 1), (.iconst 0, 1), (.sipush 5000, 3)]) (q := (5, [some (.ref 2), some (.int x), none], [.int (nI 5000), .int (nI 0), .int x])) (by decide +kernel) rfl ?_
  dsimp only
  refine am_Rq.callS (show decode (am_by 36) 5 = .ok (.invokestatic 30, 3) by decide +kernel) rfl [.int x, .int (nI 0), .int (nI 5000)] [] rfl rfl (Nat.le_of_ble_eq_true rfl) rfl rfl (c_within (x) (nI 0) (nI 5000)) ?_
  rintro hq _ ⟨e1, rfl⟩
  rw [e1]
  clear e1 hq
  show am_Rq _ 36 8 [some (.ref 2), some (.int x), none] [.int (nI (am_b (rg_r (nI 0) (nI 5000) (x))))] _ _
  refine am_Rq.if1T (t := 22) (show decode (am_by 36) 8 = .ok (.ifCond .eq 14, 3) by decide +kernel) (by decide) (by rw [am_b_eq, hx]; rfl) ?_
  refine am_Rq.thrN (k := 0) (ic := 36) (show decode (am_by 36) 22 = .ok (.new 34, 3) by decide +kernel) rfl (by omega) rfl (show decode (am_by 36) 25 = .ok (.dup, 1) by decide +kernel) (show decode (am_by 36) 26 = .ok (.invokespecial 36, 3) by decide +kernel) (show decode (am_by 36) 29 = .ok (.athrow, 1) by decide +kernel) ?_
  exact ⟨rfl, rfl⟩
theorem c_pool_no2 (hO : hp[2]? = some (0, [.ref 3, .ref 26, .ref 212])) {t : Nat → Nat} (h : Led hp 3 t) {K : Nat} (ok : c_ok K t) (hK : K ≤ 900) (h4 : 4 ≤ d) {n : Nat} (hn : n ≤ 5000) (hg : n < sp_sm (fun g => t (83 + 7 * g + 1)) (t 82)) (hg2 : sp_sm (fun g => t (83 + 7 * g + 1)) (t 82) < 2 ^ 31) : am_Rq (d + 3) 36 0 (am_en [.ref 2, .int (nI n)] 3) [] hp (c_No 0 hp) := by
  show am_Rq _ 36 0 [some (.ref 2), some (.int (nI n)), none] [] _ _
  have hB := ok.b (by omega)
  refine am_Rq.blk (is := [(.iload_n 1, 1), (.iconst 0, 1), (.sipush 5000, 3)]) (q := (5, [some (.ref 2), some (.int (nI n)), none], [.int (nI 5000), .int (nI 0), .int (nI n)])) (by decide +kernel) rfl ?_
  dsimp only
  refine am_Rq.callS (show decode (am_by 36) 5 = .ok (.invokestatic 30, 3) by decide +kernel) rfl [.int (nI n), .int (nI 0), .int (nI 5000)] [] rfl rfl (Nat.le_of_ble_eq_true rfl) rfl rfl (c_within (nI n) (nI 0) (nI 5000)) ?_
  rintro hq _ ⟨e1, rfl⟩
  rw [e1]
  clear e1 hq
  show am_Rq _ 36 8 [some (.ref 2), some (.int (nI n)), none] [.int (nI (am_b (rg_r (nI 0) (nI 5000) (nI n))))] _ _
  refine am_Rq.if1F (show decode (am_by 36) 8 = .ok (.ifCond .eq 14, 3) by decide +kernel) (by decide) (by rw [am_b_eq, rg_le (by omega) hn (by omega)]; rfl) ?_
  refine am_Rq.blk (is := [(.iload_n 1, 1), (.aload_n 0, 1)]) (q := (13, [some (.ref 2), some (.int (nI n)), none], [.ref 2, .int (nI n)])) (by decide +kernel) rfl ?_
  dsimp only
  refine am_Rq.getf (v := .ref 3) (show decode (am_by 36) 13 = .ok (.getfield 12, 3) by decide +kernel) rfl hO rfl ?_
  refine am_Rq.callV (show decode (am_by 36) 16 = .ok (.invokevirtual 90, 3) by decide +kernel) rfl [] [.int (nI n)] rfl rfl (Nat.le_of_ble_eq_true rfl) rfl (Led.lg h) rfl (c_allGr h ok (by omega)) ?_
  rintro hq _ ⟨e1, rfl⟩
  rw [e1]
  clear e1 hq
  show am_Rq _ 36 19 [some (.ref 2), some (.int (nI n)), none] [.int (nI (sp_sm (fun g => t (83 + 7 * g + 1)) (t 82))), .int (nI n)] _ _
  refine am_Rq.if2F (show decode (am_by 36) 19 = .ok (.if_icmp .ge 11, 3) by decide +kernel) (by decide) (by rw [nm_ge (by omega) hg2]; exact decide_eq_false (by omega)) ?_
  refine am_Rq.thrN (k := 0) (ic := 36) (show decode (am_by 36) 22 = .ok (.new 34, 3) by decide +kernel) rfl (by omega) rfl (show decode (am_by 36) 25 = .ok (.dup, 1) by decide +kernel) (show decode (am_by 36) 26 = .ok (.invokespecial 36, 3) by decide +kernel) (show decode (am_by 36) 29 = .ok (.athrow, 1) by decide +kernel) ?_
  exact ⟨rfl, rfl⟩
theorem c_pass (hO : hp[2]? = some (0, [.ref 3, .ref 26, .ref 212])) {t : Nat → Nat} (h : Led hp 3 t) {K : Nat} (ok : c_ok K t) (hK : K ≤ 900) (h4 : 4 ≤ d) {nx ct : Nat} {ks : Nat → Nat → Nat} (hH : c_H hp 26 nx ct ks) {n : Nat} (hn : n ≤ 60) : am_Rq (d + 3) 41 0 (am_en [.ref 2, .int (nI n)] 2) [] hp (am_Ret fun hp1 v => v = some (.int (nI (t 81 + n))) ∧ Led hp1 3 (va_up t 81 (t 81 + n)) ∧ c_H hp1 26 ((nx + 1) % 8) (min (ct + 1) 8) (va_up ks nx t) ∧ am_fr c_all hp hp1) := by
  show am_Rq _ 41 0 [some (.ref 2), some (.int (nI n))] [] _ _
  have hB := ok.b (by omega)
  refine am_Rq.blk (is := [(.iload_n 1, 1), (.iconst 0, 1), (.bipush 60, 2)]) (q := (4, [some (.ref 2), some (.int (nI n))], [.int (nI 60), .int (nI 0), .int (nI n)])) (by decide +kernel) rfl ?_
  dsimp only
  refine am_Rq.callS (show decode (am_by 41) 4 = .ok (.invokestatic 30, 3) by decide +kernel) rfl [.int (nI n), .int (nI 0), .int (nI 60)] [] rfl rfl (Nat.le_of_ble_eq_true rfl) rfl rfl (c_within (nI n) (nI 0) (nI 60)) ?_
  rintro hq _ ⟨e1, rfl⟩
  rw [e1]
  clear e1 hq
  show am_Rq _ 41 7 [some (.ref 2), some (.int (nI n))] [.int (nI (am_b (rg_r (nI 0) (nI 60) (nI n))))] _ _
  refine am_Rq.if1T (t := 18) (show decode (am_by 41) 7 = .ok (.ifCond .ne 11, 3) by decide +kernel) (by decide) (by rw [am_b_ne, rg_le (by omega) hn (by omega)]) ?_
  refine am_Rq.blk (is := [(.aload_n 0, 1)]) (q := (19, [some (.ref 2), some (.int (nI n))], [.ref 2])) (by decide +kernel) rfl ?_
  dsimp only
  refine am_Rq.getf (v := .ref 26) (show decode (am_by 41) 19 = .ok (.getfield 19, 3) by decide +kernel) rfl hO rfl ?_
  refine am_Rq.blk (is := [(.aload_n 0, 1)]) (q := (23, [some (.ref 2), some (.int (nI n))], [.ref 2, .ref 26])) (by decide +kernel) rfl ?_
  dsimp only
  refine am_Rq.getf (v := .ref 3) (show decode (am_by 41) 23 = .ok (.getfield 12, 3) by decide +kernel) rfl hO rfl ?_
  refine am_Rq.callV (show decode (am_by 41) 26 = .ok (.invokevirtual 44, 3) by decide +kernel) rfl [.ref 3] [] rfl rfl (Nat.le_of_ble_eq_true rfl) rfl hH.2.2.2.1 rfl (c_keep h hH (by omega) ok.e) ?_
  rintro hp1 _ ⟨rfl, hL1, hH1, hf1⟩
  have hc1_2 := (hf1.2.2 2 (fun q => by have := q.1; omega)).trans hO
  show am_Rq _ 41 29 [some (.ref 2), some (.int (nI n))] [] _ _
  refine am_Rq.blk (is := [(.aload_n 0, 1)]) (q := (30, [some (.ref 2), some (.int (nI n))], [.ref 2])) (by decide +kernel) rfl ?_
  dsimp only
  refine am_Rq.getf (v := .ref 3) (show decode (am_by 41) 30 = .ok (.getfield 12, 3) by decide +kernel) rfl hc1_2 rfl ?_
  refine am_Rq.blk (is := [(.dup, 1)]) (q := (34, [some (.ref 2), some (.int (nI n))], [.ref 3, .ref 3])) (by decide +kernel) rfl ?_
  dsimp only
  refine am_Rq.getf (v := .int (nI (t 81))) (show decode (am_by 41) 34 = .ok (.getfield 104, 3) by decide +kernel) rfl (Led.lg hL1) rfl ?_
  refine am_Rq.blk (is := [(.iload_n 1, 1), (.iadd, 1)]) (q := (39, [some (.ref 2), some (.int (nI n))], [.int ((nI (t 81)) + (nI n)), .ref 3])) (by decide +kernel) rfl ?_
  dsimp only
  rw [show (nI (t 81)) + (nI n) = nI ((t 81) + n) from nI_add _ _]
  refine Led.pLg (k := 5) (p := 81) (v := (t 81) + n) hL1 (show decode (am_by 41) 39 = .ok (.putfield 104, 3) by decide +kernel) rfl (by decide) (by first | rfl | exact rfl) rfl ?_
  intro hp2 hL2 hf2
  have hc2_2 := (hf2.2.2 (2) (fun q => by obtain ⟨_, _⟩ := q; omega)).trans hc1_2
  refine am_Rq.blk (is := [(.aload_n 0, 1)]) (q := (43, [some (.ref 2), some (.int (nI n))], [.ref 2])) (by decide +kernel) rfl ?_
  dsimp only
  refine am_Rq.getf (v := .ref 3) (show decode (am_by 41) 43 = .ok (.getfield 12, 3) by decide +kernel) rfl hc2_2 rfl ?_
  refine am_Rq.getf (v := .int (nI ((va_up t (81) ((t 81) + n)) 81))) (show decode (am_by 41) 46 = .ok (.getfield 104, 3) by decide +kernel) rfl (Led.lg hL2) rfl ?_
  rw [va_up_self]
  refine am_Rq.ret (v := some (.int (nI (t 81 + n)))) (show decode (am_by 41) 49 = .ok (.ireturn, 1) by decide +kernel) rfl rfl ?_
  exact ⟨_, rfl, rfl, hL2, c_H.kept hH1 (fun a ha => hf2.2.2 a (fun q => by obtain ⟨_, _⟩ := q; obtain ⟨_, _⟩ := ha; omega)), ((hf1.mono (fun a q => by obtain ⟨_, _⟩ := q; exact ⟨by omega, by omega⟩)).trans (hf2.mono (fun a q => by obtain ⟨_, _⟩ := q; exact ⟨by omega, by omega⟩)))⟩
theorem c_pass_no (hO : hp[2]? = some (0, [.ref 3, .ref 26, .ref 212])) {t : Nat → Nat} (h : Led hp 3 t) {K : Nat} (ok : c_ok K t) (hK : K ≤ 900) (h4 : 4 ≤ d) {x : Int32} (hx : rg_r (nI 0) (nI 60) x = false) : am_Rq (d + 3) 41 0 (am_en [.ref 2, .int x] 2) [] hp (c_No 0 hp) := by
  show am_Rq _ 41 0 [some (.ref 2), some (.int x)] [] _ _
  have hB := ok.b (by omega)
  refine am_Rq.blk (is := [(.iload_n 1, 1), (.iconst 0, 1), (.bipush 60, 2)]) (q := (4, [some (.ref 2), some (.int x)], [.int (nI 60), .int (nI 0), .int x])) (by decide +kernel) rfl ?_
  dsimp only
  refine am_Rq.callS (show decode (am_by 41) 4 = .ok (.invokestatic 30, 3) by decide +kernel) rfl [.int x, .int (nI 0), .int (nI 60)] [] rfl rfl (Nat.le_of_ble_eq_true rfl) rfl rfl (c_within (x) (nI 0) (nI 60)) ?_
  rintro hq _ ⟨e1, rfl⟩
  rw [e1]
  clear e1 hq
  show am_Rq _ 41 7 [some (.ref 2), some (.int x)] [.int (nI (am_b (rg_r (nI 0) (nI 60) (x))))] _ _
  refine am_Rq.if1F (show decode (am_by 41) 7 = .ok (.ifCond .ne 11, 3) by decide +kernel) (by decide) (by rw [am_b_ne, hx]) ?_
  refine am_Rq.thrN (k := 0) (ic := 36) (show decode (am_by 41) 10 = .ok (.new 34, 3) by decide +kernel) rfl (by omega) rfl (show decode (am_by 41) 13 = .ok (.dup, 1) by decide +kernel) (show decode (am_by 41) 14 = .ok (.invokespecial 36, 3) by decide +kernel) (show decode (am_by 41) 17 = .ok (.athrow, 1) by decide +kernel) ?_
  exact ⟨rfl, rfl⟩
theorem c_leave (hO : hp[2]? = some (0, [.ref 3, .ref 26, .ref 212])) {t : Nat → Nat} (h : Led hp 3 t) {K : Nat} (ok : c_ok K t) (hK : K ≤ 900) (h4 : 4 ≤ d) {nx ct : Nat} {ks : Nat → Nat → Nat} (hH : c_H hp 26 nx ct ks) {k : Nat} (hk : k < 8) : am_Rq (d + 3) 43 0 (am_en [.ref 2, .int (nI k)] 2) [] hp (am_Ret fun hp1 v => v = some (.int (nI (sp_sm (fun g => if t (83 + 7 * g) = k ∧ c_vg t g < t (83 + 7 * g + 1) then 1 else 0) (t 82)))) ∧ Led hp1 3 (c_eg t k (t 82)) ∧ c_H hp1 26 ((nx + 1) % 8) (min (ct + 1) 8) (va_up ks nx t) ∧ am_fr c_all hp hp1) := by
  show am_Rq _ 43 0 [some (.ref 2), some (.int (nI k))] [] _ _
  have hB := ok.b (by omega)
  refine am_Rq.blk (is := [(.aload_n 0, 1), (.iload_n 1, 1)]) (q := (2, [some (.ref 2), some (.int (nI k))], [.int (nI k), .ref 2])) (by decide +kernel) rfl ?_
  dsimp only
  refine am_Rq.callV (show decode (am_by 43) 2 = .ok (.invokevirtual 62, 3) by decide +kernel) rfl [.int (nI k)] [] rfl rfl (Nat.le_of_ble_eq_true rfl) rfl hO rfl (c_requireHolder (rg_le (by omega) (show k ≤ 7 by omega) (by omega)) (by omega)) ?_
  rintro hq _ ⟨e1, rfl⟩
  rw [e1]
  clear e1 hq
  show am_Rq _ 43 5 [some (.ref 2), some (.int (nI k))] [] _ _
  refine am_Rq.blk (is := [(.aload_n 0, 1)]) (q := (6, [some (.ref 2), some (.int (nI k))], [.ref 2])) (by decide +kernel) rfl ?_
  dsimp only
  refine am_Rq.getf (v := .ref 26) (show decode (am_by 43) 6 = .ok (.getfield 19, 3) by decide +kernel) rfl hO rfl ?_
  refine am_Rq.blk (is := [(.aload_n 0, 1)]) (q := (10, [some (.ref 2), some (.int (nI k))], [.ref 2, .ref 26])) (by decide +kernel) rfl ?_
  dsimp only
  refine am_Rq.getf (v := .ref 3) (show decode (am_by 43) 10 = .ok (.getfield 12, 3) by decide +kernel) rfl hO rfl ?_
  refine am_Rq.callV (show decode (am_by 43) 13 = .ok (.invokevirtual 44, 3) by decide +kernel) rfl [.ref 3] [] rfl rfl (Nat.le_of_ble_eq_true rfl) rfl hH.2.2.2.1 rfl (c_keep h hH (by omega) ok.e) ?_
  rintro hp1 _ ⟨rfl, hL1, hH1, hf1⟩
  have hc1_2 := (hf1.2.2 2 (fun q => by have := q.1; omega)).trans hO
  show am_Rq _ 43 16 [some (.ref 2), some (.int (nI k))] [] _ _
  refine am_Rq.blk (is := [(.aload_n 0, 1)]) (q := (17, [some (.ref 2), some (.int (nI k))], [.ref 2])) (by decide +kernel) rfl ?_
  dsimp only
  refine am_Rq.getf (v := .ref 3) (show decode (am_by 43) 17 = .ok (.getfield 12, 3) by decide +kernel) rfl hc1_2 rfl ?_
  refine am_Rq.blk (is := [(.iload_n 1, 1)]) (q := (21, [some (.ref 2), some (.int (nI k))], [.int (nI k), .ref 3])) (by decide +kernel) rfl ?_
  dsimp only
  refine am_Rq.callV (show decode (am_by 43) 21 = .ok (.invokevirtual 113, 3) by decide +kernel) rfl [.int (nI k)] [] rfl rfl (Nat.le_of_ble_eq_true rfl) rfl (Led.lg hL1) rfl (c_endGr hL1 ok (by omega) hk) ?_
  rintro hp2 _ ⟨rfl, hL2, hf2⟩
  have hc2_2 := (hf2.2.2 (2) (fun q => by obtain ⟨_, _⟩ := q; omega)).trans hc1_2
  show am_Rq _ 43 24 [some (.ref 2), some (.int (nI k))] [.int (nI (sp_sm (fun g => if t (83 + 7 * g) = k ∧ c_vg t g < t (83 + 7 * g + 1) then 1 else 0) (t 82)))] _ _
  refine am_Rq.ret (v := some (.int (nI (sp_sm (fun g => if t (83 + 7 * g) = k ∧ c_vg t g < t (83 + 7 * g + 1) then 1 else 0) (t 82))))) (show decode (am_by 43) 24 = .ok (.ireturn, 1) by decide +kernel) rfl rfl ?_
  exact ⟨_, rfl, rfl, hL2, c_H.kept hH1 (fun a ha => hf2.2.2 a (fun q => by obtain ⟨_, _⟩ := q; obtain ⟨_, _⟩ := ha; omega)), ((hf1.mono (fun a q => by obtain ⟨_, _⟩ := q; exact ⟨by omega, by omega⟩)).trans (hf2.mono (fun a q => by obtain ⟨_, _⟩ := q; exact ⟨by omega, by omega⟩)))⟩
theorem c_leave_no (hO : hp[2]? = some (0, [.ref 3, .ref 26, .ref 212])) {t : Nat → Nat} (h : Led hp 3 t) {K : Nat} (ok : c_ok K t) (hK : K ≤ 900) (h4 : 4 ≤ d) {x : Int32} (hx : rg_r (nI 0) (nI 7) x = false) : am_Rq (d + 3) 43 0 (am_en [.ref 2, .int x] 2) [] hp (c_No 2 hp) := by
  show am_Rq _ 43 0 [some (.ref 2), some (.int x)] [] _ _
  have hB := ok.b (by omega)
  refine am_Rq.blk (is := [(.aload_n 0, 1), (.iload_n 1, 1)]) (q := (2, [some (.ref 2), some (.int x)], [.int x, .ref 2])) (by decide +kernel) rfl ?_
  dsimp only
  exact am_Rq.callNo (show decode (am_by 43) 2 = .ok (.invokevirtual 62, 3) by decide +kernel) rfl [.int x] [] rfl rfl (Nat.le_of_ble_eq_true rfl) rfl hO rfl rfl (c_requireHolder_no (hx) (by omega)) ⟨rfl, rfl⟩
theorem c_undo (hO : hp[2]? = some (0, [.ref 3, .ref 26, .ref 212])) {t : Nat → Nat} (h : Led hp 3 t) {K : Nat} (ok : c_ok K t) (hK : K ≤ 900) (h4 : 4 ≤ d) {nx ct : Nat} {ks : Nat → Nat → Nat} (hH : c_H hp 26 nx ct ks) (h1 : 1 ≤ ct) (hE : ∀ g, g < 10 → ks ((nx + 7) % 8) (83 + 7 * g + 5) ≤ 1) : am_Rq (d + 3) 87 0 (am_en [.ref 2] 1) [] hp (am_Ret fun hp1 v => v = some (.int (nI (ct - 1))) ∧ Led hp1 3 (ks ((nx + 7) % 8)) ∧ c_H hp1 26 ((nx + 7) % 8) (ct - 1) ks ∧ am_fr c_all hp hp1) := by
  show am_Rq _ 87 0 [some (.ref 2)] [] _ _
  have hB := ok.b (by omega)
  have hct := hH.2.2.1
  refine am_Rq.blk (is := [(.aload_n 0, 1)]) (q := (1, [some (.ref 2)], [.ref 2])) (by decide +kernel) rfl ?_
  dsimp only
  refine am_Rq.getf (v := .ref 26) (show decode (am_by 87) 1 = .ok (.getfield 19, 3) by decide +kernel) rfl hO rfl ?_
  refine am_Rq.getf (v := .int (nI ct)) (show decode (am_by 87) 4 = .ok (.getfield 156, 3) by decide +kernel) rfl hH.2.2.2.1 rfl ?_
  refine am_Rq.if1T (t := 18) (show decode (am_by 87) 7 = .ok (.ifCond .ne 11, 3) by decide +kernel) (by decide) (by rw [nm_ne0 (by omega)]; exact decide_eq_true (by omega)) ?_
  refine am_Rq.blk (is := [(.aload_n 0, 1)]) (q := (19, [some (.ref 2)], [.ref 2])) (by decide +kernel) rfl ?_
  dsimp only
  refine am_Rq.getf (v := .ref 26) (show decode (am_by 87) 19 = .ok (.getfield 19, 3) by decide +kernel) rfl hO rfl ?_
  refine am_Rq.blk (is := [(.aload_n 0, 1)]) (q := (23, [some (.ref 2)], [.ref 2, .ref 26])) (by decide +kernel) rfl ?_
  dsimp only
  refine am_Rq.getf (v := .ref 3) (show decode (am_by 87) 23 = .ok (.getfield 12, 3) by decide +kernel) rfl hO rfl ?_
  refine am_Rq.callV (show decode (am_by 87) 26 = .ok (.invokevirtual 159, 3) by decide +kernel) rfl [.ref 3] [] rfl rfl (Nat.le_of_ble_eq_true rfl) rfl hH.2.2.2.1 rfl (c_back h hH (by omega) h1 hE) ?_
  rintro hp1 _ ⟨rfl, hL1, hH1, hf1⟩
  have hc1_2 := (hf1.2.2 2 (fun q => by rcases q with ⟨_, _⟩ | ⟨_, _⟩ <;> omega)).trans hO
  show am_Rq _ 87 29 [some (.ref 2)] [] _ _
  refine am_Rq.blk (is := [(.aload_n 0, 1)]) (q := (30, [some (.ref 2)], [.ref 2])) (by decide +kernel) rfl ?_
  dsimp only
  refine am_Rq.getf (v := .ref 26) (show decode (am_by 87) 30 = .ok (.getfield 19, 3) by decide +kernel) rfl hc1_2 rfl ?_
  refine am_Rq.getf (v := .int (nI (ct - 1))) (show decode (am_by 87) 33 = .ok (.getfield 156, 3) by decide +kernel) rfl hH1.2.2.2.1 rfl ?_
  refine am_Rq.ret (v := some (.int (nI (ct - 1)))) (show decode (am_by 87) 36 = .ok (.ireturn, 1) by decide +kernel) rfl rfl ?_
  exact ⟨_, rfl, rfl, hL1, hH1, hf1.mono (fun a q => by rcases q with ⟨_, _⟩ | ⟨_, _⟩ <;> exact ⟨by omega, by omega⟩)⟩
theorem c_undo_no (hO : hp[2]? = some (0, [.ref 3, .ref 26, .ref 212])) {t : Nat → Nat} (h : Led hp 3 t) {K : Nat} (ok : c_ok K t) (hK : K ≤ 900) (h4 : 4 ≤ d) {nx ct : Nat} {ks : Nat → Nat → Nat} (hH : c_H hp 26 nx ct ks) (h0 : ct = 0) : am_Rq (d + 3) 87 0 (am_en [.ref 2] 1) [] hp (c_No 1 hp) := by
  show am_Rq _ 87 0 [some (.ref 2)] [] _ _
  have hB := ok.b (by omega)
  refine am_Rq.blk (is := [(.aload_n 0, 1)]) (q := (1, [some (.ref 2)], [.ref 2])) (by decide +kernel) rfl ?_
  dsimp only
  refine am_Rq.getf (v := .ref 26) (show decode (am_by 87) 1 = .ok (.getfield 19, 3) by decide +kernel) rfl hO rfl ?_
  refine am_Rq.getf (v := .int (nI ct)) (show decode (am_by 87) 4 = .ok (.getfield 156, 3) by decide +kernel) rfl hH.2.2.2.1 rfl ?_
  refine am_Rq.if1F (show decode (am_by 87) 7 = .ok (.ifCond .ne 11, 3) by decide +kernel) (by decide) (by rw [h0]; rfl) ?_
  refine am_Rq.thrN (k := 1) (ic := 43) (show decode (am_by 87) 10 = .ok (.new 41, 3) by decide +kernel) rfl (by omega) rfl (show decode (am_by 87) 13 = .ok (.dup, 1) by decide +kernel) (show decode (am_by 87) 14 = .ok (.invokespecial 43, 3) by decide +kernel) (show decode (am_by 87) 17 = .ok (.athrow, 1) by decide +kernel) ?_
  exact ⟨rfl, rfl⟩
end C8
