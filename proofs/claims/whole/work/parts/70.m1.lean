/-! The reference: leaves (rows by prog/m1.py). -/
section M1
variable {d : Nat} {hp : am_H}
theorem m_of {th kn co : Nat} (hM : hp[238]? = some (7, [.int (nI th), .ref 239, .ref 240, .int (nI kn), .ref 241, .ref 242, .ref 243, .ref 244, .long (lN co), .ref 245])) {s : Nat → Nat} (hS : hp[239]? = some (100, am_ia (fun i => nI (s i)) 160)) {c k : Nat} (h1 : 1 ≤ c) (hc : c < 5) (hk : k < 8) : am_Rq d 101 0 (am_en [.ref 238, .int (nI c), .int (nI k)] 3) [] hp (am_Ret fun hp1 v => hp1 = hp ∧ v = some (.int (nI (s (1 + 8 * (c - 1) + k))))) := by
  show am_Rq _ 101 0 [some (.ref 238), some (.int (nI c)), some (.int (nI k))] [] _ _
  refine am_Rq.blk (is := [(.aload_n 0, 1)]) (q := (1, [some (.ref 238), some (.int (nI c)), some (.int (nI k))], [.ref 238])) (by decide +kernel) rfl ?_
  dsimp only
  refine am_Rq.getf (v := .ref 239) (show decode (am_by 101) 1 = .ok (.getfield 7, 3) by decide +kernel) rfl hM rfl ?_
  refine am_Rq.blk (is := [(.iconst 1, 1), (.bipush 8, 2), (.iload_n 1, 1), (.iconst 1, 1), (.isub, 1)]) (q := (10, [some (.ref 238), some (.int (nI c)), some (.int (nI k))], [.int ((nI c) - (nI 1)), .int (nI 8), .int (nI 1), .ref 239])) (by decide +kernel) rfl ?_
  dsimp only
  rw [show (nI c) - (nI 1) = nI (c - 1) from nm_isub (by omega)]
  refine am_Rq.blk (is := [(.imul, 1)]) (q := (11, [some (.ref 238), some (.int (nI c)), some (.int (nI k))], [.int ((nI 8) * (nI (c - 1))), .int (nI 1), .ref 239])) (by decide +kernel) rfl ?_
  dsimp only
  rw [show (nI 8) * (nI (c - 1)) = nI (8 * (c - 1)) from nm_imul _ _]
  refine am_Rq.blk (is := [(.iadd, 1)]) (q := (12, [some (.ref 238), some (.int (nI c)), some (.int (nI k))], [.int ((nI 1) + (nI (8 * (c - 1)))), .ref 239])) (by decide +kernel) rfl ?_
  dsimp only
  rw [show (nI 1) + (nI (8 * (c - 1))) = nI (1 + (8 * (c - 1))) from nI_add _ _]
  refine am_Rq.blk (is := [(.iload_n 2, 1), (.iadd, 1)]) (q := (14, [some (.ref 238), some (.int (nI c)), some (.int (nI k))], [.int ((nI (1 + (8 * (c - 1)))) + (nI k)), .ref 239])) (by decide +kernel) rfl ?_
  dsimp only
  rw [show (nI (1 + (8 * (c - 1)))) + (nI k) = nI ((1 + (8 * (c - 1))) + k) from nI_add _ _]
  refine am_Rq.ial (k := (1 + (8 * (c - 1))) + k) (show decode (am_by 101) 14 = .ok (.iaload, 1) by decide +kernel) hS (by omega) (by omega) ?_
  refine am_Rq.ret (v := some (.int (nI (s ((1 + (8 * (c - 1))) + k))))) (show decode (am_by 101) 15 = .ok (.ireturn, 1) by decide +kernel) rfl rfl ?_
  exact ⟨_, rfl, rfl, rfl⟩
theorem m_grantOf {th kn co : Nat} (hM : hp[238]? = some (7, [.int (nI th), .ref 239, .ref 240, .int (nI kn), .ref 241, .ref 242, .ref 243, .ref 244, .long (lN co), .ref 245])) {s : Nat → Nat} (hS : hp[239]? = some (100, am_ia (fun i => nI (s i)) 160)) {g k : Nat} (hg : g < 10) (hk : k < 7) : am_Rq d 106 0 (am_en [.ref 238, .int (nI g), .int (nI k)] 3) [] hp (am_Ret fun hp1 v => hp1 = hp ∧ v = some (.int (nI (s (83 + 7 * g + k))))) := by
  show am_Rq _ 106 0 [some (.ref 238), some (.int (nI g)), some (.int (nI k))] [] _ _
  refine am_Rq.blk (is := [(.aload_n 0, 1)]) (q := (1, [some (.ref 238), some (.int (nI g)), some (.int (nI k))], [.ref 238])) (by decide +kernel) rfl ?_
  dsimp only
  refine am_Rq.getf (v := .ref 239) (show decode (am_by 106) 1 = .ok (.getfield 7, 3) by decide +kernel) rfl hM rfl ?_
  refine am_Rq.blk (is := [(.bipush 83, 2), (.bipush 7, 2), (.iload_n 1, 1), (.imul, 1)]) (q := (10, [some (.ref 238), some (.int (nI g)), some (.int (nI k))], [.int ((nI 7) * (nI g)), .int (nI 83), .ref 239])) (by decide +kernel) rfl ?_
  dsimp only
  rw [show (nI 7) * (nI g) = nI (7 * g) from nm_imul _ _]
  refine am_Rq.blk (is := [(.iadd, 1)]) (q := (11, [some (.ref 238), some (.int (nI g)), some (.int (nI k))], [.int ((nI 83) + (nI (7 * g))), .ref 239])) (by decide +kernel) rfl ?_
  dsimp only
  rw [show (nI 83) + (nI (7 * g)) = nI (83 + (7 * g)) from nI_add _ _]
  refine am_Rq.blk (is := [(.iload_n 2, 1), (.iadd, 1)]) (q := (13, [some (.ref 238), some (.int (nI g)), some (.int (nI k))], [.int ((nI (83 + (7 * g))) + (nI k)), .ref 239])) (by decide +kernel) rfl ?_
  dsimp only
  rw [show (nI (83 + (7 * g))) + (nI k) = nI ((83 + (7 * g)) + k) from nI_add _ _]
  refine am_Rq.ial (k := (83 + (7 * g)) + k) (show decode (am_by 106) 13 = .ok (.iaload, 1) by decide +kernel) hS (by omega) (by omega) ?_
  refine am_Rq.ret (v := some (.int (nI (s ((83 + (7 * g)) + k))))) (show decode (am_by 106) 14 = .ok (.ireturn, 1) by decide +kernel) rfl rfl ?_
  exact ⟨_, rfl, rfl, rfl⟩
theorem m_isHolder (x : Int32) : am_Rq (d + 1) 97 0 (am_en [.int x] 1) [] hp (am_Ret fun hp1 v => hp1 = hp ∧ v = some (.int (nI (am_b (rg_r (nI 0) (nI 7) x))))) := by
  show am_Rq _ 97 0 [some (.int x)] [] _ _
  refine am_Rq.blk (is := [(.iload_n 0, 1), (.iconst 0, 1), (.bipush 7, 2)]) (q := (4, [some (.int x)], [.int (nI 7), .int (nI 0), .int x])) (by decide +kernel) rfl ?_
  dsimp only
  refine am_Rq.callS (show decode (am_by 97) 4 = .ok (.invokestatic 39, 3) by decide +kernel) rfl [.int x, .int (nI 0), .int (nI 7)] [] rfl rfl (Nat.le_of_ble_eq_true rfl) rfl rfl (m_in (x) (nI 0) (nI 7)) ?_
  rintro hq _ ⟨e1, rfl⟩
  rw [e1]
  clear e1 hq
  show am_Rq _ 97 7 [some (.int x)] [.int (nI (am_b (rg_r (nI 0) (nI 7) (x))))] _ _
  refine am_Rq.ret (v := some (.int (nI (am_b (rg_r (nI 0) (nI 7) x))))) (show decode (am_by 97) 7 = .ok (.ireturn, 1) by decide +kernel) rfl ?_ ⟨_, rfl, rfl, rfl⟩
  cases (rg_r (nI 0) (nI 7) x) <;> rfl
theorem m_isClass {th kn co : Nat} (hM : hp[238]? = some (7, [.int (nI th), .ref 239, .ref 240, .int (nI kn), .ref 241, .ref 242, .ref 243, .ref 244, .long (lN co), .ref 245])) {s : Nat → Nat} (hS : hp[239]? = some (100, am_ia (fun i => nI (s i)) 160)) (x : Int32) : am_Rq (d + 1) 96 0 (am_en [.ref 238, .int x] 2) [] hp (am_Ret fun hp1 v => hp1 = hp ∧ v = some (.int (nI (am_b (rg_r (nI 0) (nI (s 0)) x))))) := by
  show am_Rq _ 96 0 [some (.ref 238), some (.int x)] [] _ _
  refine am_Rq.blk (is := [(.iload_n 1, 1), (.iconst 0, 1), (.aload_n 0, 1)]) (q := (3, [some (.ref 238), some (.int x)], [.ref 238, .int (nI 0), .int x])) (by decide +kernel) rfl ?_
  dsimp only
  refine am_Rq.getf (v := .ref 239) (show decode (am_by 96) 3 = .ok (.getfield 7, 3) by decide +kernel) rfl hM rfl ?_
  refine am_Rq.blk (is := [(.iconst 0, 1)]) (q := (7, [some (.ref 238), some (.int x)], [.int (nI 0), .ref 239, .int (nI 0), .int x])) (by decide +kernel) rfl ?_
  dsimp only
  refine am_Rq.ial (k := 0) (show decode (am_by 96) 7 = .ok (.iaload, 1) by decide +kernel) hS (by omega) (by omega) ?_
  refine am_Rq.callS (show decode (am_by 96) 8 = .ok (.invokestatic 39, 3) by decide +kernel) rfl [.int x, .int (nI 0), .int (nI (s 0))] [] rfl rfl (Nat.le_of_ble_eq_true rfl) rfl rfl (m_in (x) (nI 0) (nI (s 0))) ?_
  rintro hq _ ⟨e1, rfl⟩
  rw [e1]
  clear e1 hq
  show am_Rq _ 96 11 [some (.ref 238), some (.int x)] [.int (nI (am_b (rg_r (nI 0) (nI (s 0)) (x))))] _ _
  refine am_Rq.ret (v := some (.int (nI (am_b (rg_r (nI 0) (nI (s 0)) x))))) (show decode (am_by 96) 11 = .ok (.ireturn, 1) by decide +kernel) rfl ?_ ⟨_, rfl, rfl, rfl⟩
  cases (rg_r (nI 0) (nI (s 0)) x) <;> rfl
theorem m_isGrant {th kn co : Nat} (hM : hp[238]? = some (7, [.int (nI th), .ref 239, .ref 240, .int (nI kn), .ref 241, .ref 242, .ref 243, .ref 244, .long (lN co), .ref 245])) {s : Nat → Nat} (hS : hp[239]? = some (100, am_ia (fun i => nI (s i)) 160)) (x : Int32) : am_Rq (d + 1) 112 0 (am_en [.ref 238, .int x] 2) [] hp (am_Ret fun hp1 v => hp1 = hp ∧ v = some (.int (nI (am_b (rg_r (nI 0) (nI (s 82) - nI 1) x))))) := by
  show am_Rq _ 112 0 [some (.ref 238), some (.int x)] [] _ _
  refine am_Rq.blk (is := [(.iload_n 1, 1), (.iconst 0, 1), (.aload_n 0, 1)]) (q := (3, [some (.ref 238), some (.int x)], [.ref 238, .int (nI 0), .int x])) (by decide +kernel) rfl ?_
  dsimp only
  refine am_Rq.getf (v := .ref 239) (show decode (am_by 112) 3 = .ok (.getfield 7, 3) by decide +kernel) rfl hM rfl ?_
  refine am_Rq.blk (is := [(.bipush 82, 2)]) (q := (8, [some (.ref 238), some (.int x)], [.int (nI 82), .ref 239, .int (nI 0), .int x])) (by decide +kernel) rfl ?_
  dsimp only
  refine am_Rq.ial (k := 82) (show decode (am_by 112) 8 = .ok (.iaload, 1) by decide +kernel) hS (by omega) (by omega) ?_
  refine am_Rq.blk (is := [(.iconst 1, 1), (.isub, 1)]) (q := (11, [some (.ref 238), some (.int x)], [.int ((nI (s 82)) - (nI 1)), .int (nI 0), .int x])) (by decide +kernel) rfl ?_
  dsimp only
  refine am_Rq.callS (show decode (am_by 112) 11 = .ok (.invokestatic 39, 3) by decide +kernel) rfl [.int x, .int (nI 0), .int ((nI (s 82)) - (nI 1))] [] rfl rfl (Nat.le_of_ble_eq_true rfl) rfl rfl (m_in (x) (nI 0) (nI (s 82) - nI 1)) ?_
  rintro hq _ ⟨e1, rfl⟩
  rw [e1]
  clear e1 hq
  show am_Rq _ 112 14 [some (.ref 238), some (.int x)] [.int (nI (am_b (rg_r (nI 0) (nI (s 82) - nI 1) (x))))] _ _
  refine am_Rq.ret (v := some (.int (nI (am_b (rg_r (nI 0) (nI (s 82) - nI 1) x))))) (show decode (am_by 112) 14 = .ok (.ireturn, 1) by decide +kernel) rfl ?_ ⟨_, rfl, rfl, rfl⟩
  cases (rg_r (nI 0) (nI (s 82) - nI 1) x) <;> rfl
theorem m_issued {th kn co : Nat} (hM : hp[238]? = some (7, [.int (nI th), .ref 239, .ref 240, .int (nI kn), .ref 241, .ref 242, .ref 243, .ref 244, .long (lN co), .ref 245])) {s : Nat → Nat} (hS : hp[239]? = some (100, am_ia (fun i => nI (s i)) 160)) {c : Nat} (hc : c < 5) : am_Rq d 98 0 (am_en [.ref 238, .int (nI c)] 4) [] hp (am_Ret fun hp1 v => hp1 = hp ∧ v = some (.int (nI (sp_sm (fun h => s (40 + 8 * c + h)) 8)))) := by
  show am_Rq _ 98 0 [some (.ref 238), some (.int (nI c)), none, none] [] _ _
  refine am_Rq.blk (is := [(.iconst 0, 1), (.istore_n 2, 1), (.iconst 0, 1), (.istore_n 3, 1)]) (q := (4, [some (.ref 238), some (.int (nI c)), some (.int (nI 0)), some (.int (nI 0))], [])) (by decide +kernel) rfl ?_
  dsimp only
  have key : ∀ hz, hz = hp → am_Rq d 98 4 [some (.ref 238), some (.int (nI c)), some (.int (nI 0)), some (.int (nI 0))] [] hz (am_Ret fun hp1 v => hp1 = hp ∧ v = some (.int (nI (sp_sm (fun h => s (40 + 8 * c + h)) 8)))) := ?_
  · exact key hp rfl
  intro hz hze
  subst hze
  refine am_for (n := 8) (fun i lo hp => lo = [some (.ref 238), some (.int (nI c)), some (.int (nI (sp_sm (fun h => s (40 + 8 * c + h)) i))), some (.int (nI i))] ∧ hp = hz) ?_ ?_ (i := 0) (by omega) ⟨rfl, rfl⟩
  · rintro i lo hp hi ⟨rfl, rfl⟩ ih
    refine am_Rq.blk (is := [(.iload_n 3, 1), (.bipush 8, 2)]) (q := (7, [some (.ref 238), some (.int (nI c)), some (.int (nI (sp_sm (fun h => s (40 + 8 * c + h)) i))), some (.int (nI i))], [.int (nI 8), .int (nI i)])) (by decide +kernel) rfl ?_
    dsimp only
    refine am_Rq.if2F (show decode (am_by 98) 7 = .ok (.if_icmp .ge 26, 3) by decide +kernel) (by decide) (by rw [nm_ge (by omega) (by omega)]; exact decide_eq_false (by omega)) ?_
    refine am_Rq.blk (is := [(.iload_n 2, 1), (.aload_n 0, 1)]) (q := (12, [some (.ref 238), some (.int (nI c)), some (.int (nI (sp_sm (fun h => s (40 + 8 * c + h)) i))), some (.int (nI i))], [.ref 238, .int (nI (sp_sm (fun h => s (40 + 8 * c + h)) i))])) (by decide +kernel) rfl ?_
    dsimp only
    refine am_Rq.getf (v := .ref 239) (show decode (am_by 98) 12 = .ok (.getfield 7, 3) by decide +kernel) rfl hM rfl ?_
    refine am_Rq.blk (is := [(.bipush 40, 2), (.bipush 8, 2), (.iload_n 1, 1), (.imul, 1)]) (q := (21, [some (.ref 238), some (.int (nI c)), some (.int (nI (sp_sm (fun h => s (40 + 8 * c + h)) i))), some (.int (nI i))], [.int ((nI 8) * (nI c)), .int (nI 40), .ref 239, .int (nI (sp_sm (fun h => s (40 + 8 * c + h)) i))])) (by decide +kernel) rfl ?_
    dsimp only
    rw [show (nI 8) * (nI c) = nI (8 * c) from nm_imul _ _]
    refine am_Rq.blk (is := [(.iadd, 1)]) (q := (22, [some (.ref 238), some (.int (nI c)), some (.int (nI (sp_sm (fun h => s (40 + 8 * c + h)) i))), some (.int (nI i))], [.int ((nI 40) + (nI (8 * c))), .ref 239, .int (nI (sp_sm (fun h => s (40 + 8 * c + h)) i))])) (by decide +kernel) rfl ?_
    dsimp only
    rw [show (nI 40) + (nI (8 * c)) = nI (40 + (8 * c)) from nI_add _ _]
    refine am_Rq.blk (is := [(.iload_n 3, 1), (.iadd, 1)]) (q := (24, [some (.ref 238), some (.int (nI c)), some (.int (nI (sp_sm (fun h => s (40 + 8 * c + h)) i))), some (.int (nI i))], [.int ((nI (40 + (8 * c))) + (nI i)), .ref 239, .int (nI (sp_sm (fun h => s (40 + 8 * c + h)) i))])) (by decide +kernel) rfl ?_
    dsimp only
    rw [show (nI (40 + (8 * c))) + (nI i) = nI ((40 + (8 * c)) + i) from nI_add _ _]
    refine am_Rq.ial (k := (40 + (8 * c)) + i) (show decode (am_by 98) 24 = .ok (.iaload, 1) by decide +kernel) hS (by omega) (by omega) ?_
    refine am_Rq.blk (is := [(.iadd, 1)]) (q := (26, [some (.ref 238), some (.int (nI c)), some (.int (nI (sp_sm (fun h => s (40 + 8 * c + h)) i))), some (.int (nI i))], [.int ((nI (sp_sm (fun h => s (40 + 8 * c + h)) i)) + (nI (s ((40 + (8 * c)) + i))))])) (by decide +kernel) rfl ?_
    dsimp only
    rw [show (nI (sp_sm (fun h => s (40 + 8 * c + h)) i)) + (nI (s ((40 + (8 * c)) + i))) = nI ((sp_sm (fun h => s (40 + 8 * c + h)) i) + (s ((40 + (8 * c)) + i))) from nI_add _ _]
    refine am_Rq.blk (is := [(.istore_n 2, 1), (.iinc 3 1, 3)]) (q := (30, [some (.ref 238), some (.int (nI c)), some (.int (nI ((sp_sm (fun h => s (40 + 8 * c + h)) i) + (s ((40 + (8 * c)) + i))))), some (.int ((nI i) + (nI 1)))], [])) (by decide +kernel) rfl ?_
    dsimp only
    rw [show (nI i) + (nI 1) = nI (i + 1) from nI_add _ _]
    refine am_Rq.blk (is := [(.goto (-26), 3)]) (q := (4, [some (.ref 238), some (.int (nI c)), some (.int (nI ((sp_sm (fun h => s (40 + 8 * c + h)) i) + (s ((40 + (8 * c)) + i))))), some (.int (nI (i + 1)))], [])) (by decide +kernel) rfl ?_
    dsimp only
    exact ih _ _ ⟨rfl, rfl⟩
  · rintro lo hp ⟨rfl, rfl⟩
    refine am_Rq.blk (is := [(.iload_n 3, 1), (.bipush 8, 2)]) (q := (7, [some (.ref 238), some (.int (nI c)), some (.int (nI (sp_sm (fun h => s (40 + 8 * c + h)) 8))), some (.int (nI 8))], [.int (nI 8), .int (nI 8)])) (by decide +kernel) rfl ?_
    dsimp only
    refine am_Rq.if2T (t := 33) (show decode (am_by 98) 7 = .ok (.if_icmp .ge 26, 3) by decide +kernel) (by decide) (by rw [nm_ge (by omega) (by omega)]; exact decide_eq_true (by omega)) ?_
    refine am_Rq.blk (is := [(.iload_n 2, 1)]) (q := (34, [some (.ref 238), some (.int (nI c)), some (.int (nI (sp_sm (fun h => s (40 + 8 * c + h)) 8))), some (.int (nI 8))], [.int (nI (sp_sm (fun h => s (40 + 8 * c + h)) 8))])) (by decide +kernel) rfl ?_
    dsimp only
    refine am_Rq.ret (v := some (.int (nI (sp_sm (fun h => s (40 + 8 * c + h)) 8)))) (show decode (am_by 98) 34 = .ok (.ireturn, 1) by decide +kernel) rfl rfl ?_
    exact ⟨_, rfl, rfl, rfl⟩
theorem m_grantedNow {th kn co : Nat} (hM : hp[238]? = some (7, [.int (nI th), .ref 239, .ref 240, .int (nI kn), .ref 241, .ref 242, .ref 243, .ref 244, .long (lN co), .ref 245])) {s : Nat → Nat} (hS : hp[239]? = some (100, am_ia (fun i => nI (s i)) 160)) (h82 : s 82 ≤ 10) : am_Rq (d + 1) 105 0 (am_en [.ref 238] 3) [] hp (am_Ret fun hp1 v => hp1 = hp ∧ v = some (.int (nI (sp_sm (fun g => s (83 + 7 * g + 1)) (s 82))))) := by
  show am_Rq _ 105 0 [some (.ref 238), none, none] [] _ _
  refine am_Rq.blk (is := [(.iconst 0, 1), (.istore_n 1, 1), (.iconst 0, 1), (.istore_n 2, 1)]) (q := (4, [some (.ref 238), some (.int (nI 0)), some (.int (nI 0))], [])) (by decide +kernel) rfl ?_
  dsimp only
  have key : ∀ hz, hz = hp → am_Rq (d + 1) 105 4 [some (.ref 238), some (.int (nI 0)), some (.int (nI 0))] [] hz (am_Ret fun hp1 v => hp1 = hp ∧ v = some (.int (nI (sp_sm (fun g => s (83 + 7 * g + 1)) (s 82))))) := ?_
  · exact key hp rfl
  intro hz hze
  subst hze
  refine am_for (n := (s 82)) (fun i lo hp => lo = [some (.ref 238), some (.int (nI (sp_sm (fun g => s (83 + 7 * g + 1)) i))), some (.int (nI i))] ∧ hp = hz) ?_ ?_ (i := 0) (by omega) ⟨rfl, rfl⟩
  · rintro i lo hp hi ⟨rfl, rfl⟩ ih
    refine am_Rq.blk (is := [(.iload_n 2, 1), (.aload_n 0, 1)]) (q := (6, [some (.ref 238), some (.int (nI (sp_sm (fun g => s (83 + 7 * g + 1)) i))), some (.int (nI i))], [.ref 238, .int (nI i)])) (by decide +kernel) rfl ?_
    dsimp only
    refine am_Rq.getf (v := .ref 239) (show decode (am_by 105) 6 = .ok (.getfield 7, 3) by decide +kernel) rfl hM rfl ?_
    refine am_Rq.blk (is := [(.bipush 82, 2)]) (q := (11, [some (.ref 238), some (.int (nI (sp_sm (fun g => s (83 + 7 * g + 1)) i))), some (.int (nI i))], [.int (nI 82), .ref 239, .int (nI i)])) (by decide +kernel) rfl ?_
    dsimp only
    refine am_Rq.ial (k := 82) (show decode (am_by 105) 11 = .ok (.iaload, 1) by decide +kernel) hS (by omega) (by omega) ?_
    refine am_Rq.if2F (show decode (am_by 105) 12 = .ok (.if_icmp .ge 18, 3) by decide +kernel) (by decide) (by rw [nm_ge (by omega) (by omega)]; exact decide_eq_false (by omega)) ?_
    refine am_Rq.blk (is := [(.iload_n 1, 1), (.aload_n 0, 1), (.iload_n 2, 1), (.iconst 1, 1)]) (q := (19, [some (.ref 238), some (.int (nI (sp_sm (fun g => s (83 + 7 * g + 1)) i))), some (.int (nI i))], [.int (nI 1), .int (nI i), .ref 238, .int (nI (sp_sm (fun g => s (83 + 7 * g + 1)) i))])) (by decide +kernel) rfl ?_
    dsimp only
    refine am_Rq.callV (show decode (am_by 105) 19 = .ok (.invokevirtual 77, 3) by decide +kernel) rfl [.int (nI i), .int (nI 1)] [.int (nI (sp_sm (fun g => s (83 + 7 * g + 1)) i))] rfl rfl (Nat.le_of_ble_eq_true rfl) rfl hM rfl (m_grantOf hM hS (by omega) (by omega)) ?_
    rintro hq _ ⟨e1, rfl⟩
    rw [e1]
    clear e1 hq
    show am_Rq _ 105 22 [some (.ref 238), some (.int (nI (sp_sm (fun g => s (83 + 7 * g + 1)) i))), some (.int (nI i))] [.int (nI (s (83 + 7 * i + 1))), .int (nI (sp_sm (fun g => s (83 + 7 * g + 1)) i))] _ _
    refine am_Rq.blk (is := [(.iadd, 1)]) (q := (23, [some (.ref 238), some (.int (nI (sp_sm (fun g => s (83 + 7 * g + 1)) i))), some (.int (nI i))], [.int ((nI (sp_sm (fun g => s (83 + 7 * g + 1)) i)) + (nI (s (83 + 7 * i + 1))))])) (by decide +kernel) rfl ?_
    dsimp only
    rw [show (nI (sp_sm (fun g => s (83 + 7 * g + 1)) i)) + (nI (s (83 + 7 * i + 1))) = nI ((sp_sm (fun g => s (83 + 7 * g + 1)) i) + (s (83 + 7 * i + 1))) from nI_add _ _]
    refine am_Rq.blk (is := [(.istore_n 1, 1), (.iinc 2 1, 3)]) (q := (27, [some (.ref 238), some (.int (nI ((sp_sm (fun g => s (83 + 7 * g + 1)) i) + (s (83 + 7 * i + 1))))), some (.int ((nI i) + (nI 1)))], [])) (by decide +kernel) rfl ?_
    dsimp only
    rw [show (nI i) + (nI 1) = nI (i + 1) from nI_add _ _]
    refine am_Rq.blk (is := [(.goto (-23), 3)]) (q := (4, [some (.ref 238), some (.int (nI ((sp_sm (fun g => s (83 + 7 * g + 1)) i) + (s (83 + 7 * i + 1))))), some (.int (nI (i + 1)))], [])) (by decide +kernel) rfl ?_
    dsimp only
    exact ih _ _ ⟨rfl, rfl⟩
  · rintro lo hp ⟨rfl, rfl⟩
    refine am_Rq.blk (is := [(.iload_n 2, 1), (.aload_n 0, 1)]) (q := (6, [some (.ref 238), some (.int (nI (sp_sm (fun g => s (83 + 7 * g + 1)) (s 82)))), some (.int (nI (s 82)))], [.ref 238, .int (nI (s 82))])) (by decide +kernel) rfl ?_
    dsimp only
    refine am_Rq.getf (v := .ref 239) (show decode (am_by 105) 6 = .ok (.getfield 7, 3) by decide +kernel) rfl hM rfl ?_
    refine am_Rq.blk (is := [(.bipush 82, 2)]) (q := (11, [some (.ref 238), some (.int (nI (sp_sm (fun g => s (83 + 7 * g + 1)) (s 82)))), some (.int (nI (s 82)))], [.int (nI 82), .ref 239, .int (nI (s 82))])) (by decide +kernel) rfl ?_
    dsimp only
    refine am_Rq.ial (k := 82) (show decode (am_by 105) 11 = .ok (.iaload, 1) by decide +kernel) hS (by omega) (by omega) ?_
    refine am_Rq.if2T (t := 30) (show decode (am_by 105) 12 = .ok (.if_icmp .ge 18, 3) by decide +kernel) (by decide) (by rw [nm_ge (by omega) (by omega)]; exact decide_eq_true (by omega)) ?_
    refine am_Rq.blk (is := [(.iload_n 1, 1)]) (q := (31, [some (.ref 238), some (.int (nI (sp_sm (fun g => s (83 + 7 * g + 1)) (s 82)))), some (.int (nI (s 82)))], [.int (nI (sp_sm (fun g => s (83 + 7 * g + 1)) (s 82)))])) (by decide +kernel) rfl ?_
    dsimp only
    refine am_Rq.ret (v := some (.int (nI (sp_sm (fun g => s (83 + 7 * g + 1)) (s 82))))) (show decode (am_by 105) 31 = .ok (.ireturn, 1) by decide +kernel) rfl rfl ?_
    exact ⟨_, rfl, rfl, rfl⟩
theorem m_conv0 {th kn co : Nat} (hM : hp[238]? = some (7, [.int (nI th), .ref 239, .ref 240, .int (nI kn), .ref 241, .ref 242, .ref 243, .ref 244, .long (lN co), .ref 245])) {s : Nat → Nat} (hS : hp[239]? = some (100, am_ia (fun i => nI (s i)) 160)) {n : Nat} (hn : n < 2 ^ 31) : am_Rq (d + 1) 100 0 (am_en [.ref 238, .int (nI 0), .int (nI n)] 3) [] hp (am_Ret fun hp1 v => hp1 = hp ∧ v = some (.long (lN n))) := by
  show am_Rq _ 100 0 [some (.ref 238), some (.int (nI 0)), some (.int (nI n))] [] _ _
  refine am_Rq.blk (is := [(.iload_n 1, 1)]) (q := (1, [some (.ref 238), some (.int (nI 0)), some (.int (nI n))], [.int (nI 0)])) (by decide +kernel) rfl ?_
  dsimp only
  refine am_Rq.if1F (show decode (am_by 100) 1 = .ok (.ifCond .ne 8, 3) by decide +kernel) (by decide) (rfl) ?_
  refine am_Rq.blk (is := [(.iload_n 2, 1), (.i2l, 1)]) (q := (6, [some (.ref 238), some (.int (nI 0)), some (.int (nI n))], [.long ((nI n).toInt64)])) (by decide +kernel) rfl ?_
  dsimp only
  rw [show (nI n).toInt64 = lN n from nm_l (hn)]
  refine am_Rq.blk (is := [(.goto 26, 3)]) (q := (32, [some (.ref 238), some (.int (nI 0)), some (.int (nI n))], [.long (lN n)])) (by decide +kernel) rfl ?_
  dsimp only
  refine am_Rq.ret (v := some (.long (lN n))) (show decode (am_by 100) 32 = .ok (.lreturn, 1) by decide +kernel) rfl rfl ?_
  exact ⟨_, rfl, rfl, rfl⟩
theorem m_conv {th kn co : Nat} (hM : hp[238]? = some (7, [.int (nI th), .ref 239, .ref 240, .int (nI kn), .ref 241, .ref 242, .ref 243, .ref 244, .long (lN co), .ref 245])) {s : Nat → Nat} (hS : hp[239]? = some (100, am_ia (fun i => nI (s i)) 160)) {c n : Nat} (h1 : 1 ≤ c) (hc : c < 5) (hn : n < 2 ^ 31) (hp0 : s (1 + 8 * (c - 1) + 0) < 2 ^ 31) (hc0 : 0 < s (1 + 8 * (c - 1) + 6)) (hc2 : s (1 + 8 * (c - 1) + 6) < 2 ^ 31) (hb : n * 1000 * s (1 + 8 * (c - 1) + 0) < 2 ^ 63) : am_Rq (d + 1) 100 0 (am_en [.ref 238, .int (nI c), .int (nI n)] 3) [] hp (am_Ret fun hp1 v => hp1 = hp ∧ v = some (.long (lN (n * 1000 * s (1 + 8 * (c - 1) + 0) / s (1 + 8 * (c - 1) + 6))))) := by
  show am_Rq _ 100 0 [some (.ref 238), some (.int (nI c)), some (.int (nI n))] [] _ _
  refine am_Rq.blk (is := [(.iload_n 1, 1)]) (q := (1, [some (.ref 238), some (.int (nI c)), some (.int (nI n))], [.int (nI c)])) (by decide +kernel) rfl ?_
  dsimp only
  refine am_Rq.if1T (t := 9) (show decode (am_by 100) 1 = .ok (.ifCond .ne 8, 3) by decide +kernel) (by decide) (by rw [nm_ne0 (by omega)]; exact decide_eq_true (by omega)) ?_
  refine am_Rq.blk (is := [(.iload_n 2, 1), (.i2l, 1)]) (q := (11, [some (.ref 238), some (.int (nI c)), some (.int (nI n))], [.long ((nI n).toInt64)])) (by decide +kernel) rfl ?_
  dsimp only
  rw [show (nI n).toInt64 = lN n from nm_l (by omega)]
  refine am_Rq.blk (is := [(.ldc2_w 43, 3), (.lmul, 1)]) (q := (15, [some (.ref 238), some (.int (nI c)), some (.int (nI n))], [.long ((lN n) * (lN 1000))])) (by decide +kernel) rfl ?_
  dsimp only
  rw [show (lN n) * (lN 1000) = lN (n * 1000) from lN_mul _ _]
  refine am_Rq.blk (is := [(.aload_n 0, 1), (.iload_n 1, 1), (.iconst 0, 1)]) (q := (18, [some (.ref 238), some (.int (nI c)), some (.int (nI n))], [.int (nI 0), .int (nI c), .ref 238, .long (lN (n * 1000))])) (by decide +kernel) rfl ?_
  dsimp only
  refine am_Rq.callV (show decode (am_by 100) 18 = .ok (.invokevirtual 45, 3) by decide +kernel) rfl [.int (nI c), .int (nI 0)] [.long (lN (n * 1000))] rfl rfl (Nat.le_of_ble_eq_true rfl) rfl hM rfl (m_of hM hS h1 hc (by omega)) ?_
  rintro hq _ ⟨e1, rfl⟩
  rw [e1]
  clear e1 hq
  show am_Rq _ 100 21 [some (.ref 238), some (.int (nI c)), some (.int (nI n))] [.int (nI (s (1 + 8 * (c - 1) + 0))), .long (lN (n * 1000))] _ _
  refine am_Rq.blk (is := [(.i2l, 1)]) (q := (22, [some (.ref 238), some (.int (nI c)), some (.int (nI n))], [.long ((nI (s (1 + 8 * (c - 1) + 0))).toInt64), .long (lN (n * 1000))])) (by decide +kernel) rfl ?_
  dsimp only
  rw [show (nI (s (1 + 8 * (c - 1) + 0))).toInt64 = lN (s (1 + 8 * (c - 1) + 0)) from nm_l (by omega)]
  refine am_Rq.blk (is := [(.lmul, 1)]) (q := (23, [some (.ref 238), some (.int (nI c)), some (.int (nI n))], [.long ((lN (n * 1000)) * (lN (s (1 + 8 * (c - 1) + 0))))])) (by decide +kernel) rfl ?_
  dsimp only
  rw [show (lN (n * 1000)) * (lN (s (1 + 8 * (c - 1) + 0))) = lN ((n * 1000) * (s (1 + 8 * (c - 1) + 0))) from lN_mul _ _]
  refine am_Rq.blk (is := [(.aload_n 0, 1), (.iload_n 1, 1), (.bipush 6, 2)]) (q := (27, [some (.ref 238), some (.int (nI c)), some (.int (nI n))], [.int (nI 6), .int (nI c), .ref 238, .long (lN ((n * 1000) * (s (1 + 8 * (c - 1) + 0))))])) (by decide +kernel) rfl ?_
  dsimp only
  refine am_Rq.callV (show decode (am_by 100) 27 = .ok (.invokevirtual 45, 3) by decide +kernel) rfl [.int (nI c), .int (nI 6)] [.long (lN ((n * 1000) * (s (1 + 8 * (c - 1) + 0))))] rfl rfl (Nat.le_of_ble_eq_true rfl) rfl hM rfl (m_of hM hS h1 hc (by omega)) ?_
  rintro hq _ ⟨e1, rfl⟩
  rw [e1]
  clear e1 hq
  show am_Rq _ 100 30 [some (.ref 238), some (.int (nI c)), some (.int (nI n))] [.int (nI (s (1 + 8 * (c - 1) + 6))), .long (lN ((n * 1000) * (s (1 + 8 * (c - 1) + 0))))] _ _
  refine am_Rq.blk (is := [(.i2l, 1)]) (q := (31, [some (.ref 238), some (.int (nI c)), some (.int (nI n))], [.long ((nI (s (1 + 8 * (c - 1) + 6))).toInt64), .long (lN ((n * 1000) * (s (1 + 8 * (c - 1) + 0))))])) (by decide +kernel) rfl ?_
  dsimp only
  rw [show (nI (s (1 + 8 * (c - 1) + 6))).toInt64 = lN (s (1 + 8 * (c - 1) + 6)) from nm_l (by omega)]
  refine am_Rq.ldivN (a := (n * 1000) * (s (1 + 8 * (c - 1) + 0))) (b := s (1 + 8 * (c - 1) + 6)) (show decode (am_by 100) 31 = .ok (.ldiv, 1) by decide +kernel) (hc0) (hb) (by omega) ?_
  refine am_Rq.ret (v := some (.long (lN (((n * 1000) * (s (1 + 8 * (c - 1) + 0))) / (s (1 + 8 * (c - 1) + 6)))))) (show decode (am_by 100) 32 = .ok (.lreturn, 1) by decide +kernel) rfl rfl ?_
  exact ⟨_, rfl, rfl, rfl⟩
theorem m_thrown {th kn co : Nat} (hM : hp[238]? = some (7, [.int (nI th), .ref 239, .ref 240, .int (nI kn), .ref 241, .ref 242, .ref 243, .ref 244, .long (lN co), .ref 245])) {s : Nat → Nat} (hS : hp[239]? = some (100, am_ia (fun i => nI (s i)) 160))  : am_Rq d 90 0 (am_en [.ref 238] 1) [] hp (am_Ret fun hp1 v => hp1 = hp ∧ v = some (.int (nI (th)))) := by
  show am_Rq _ 90 0 [some (.ref 238)] [] _ _
  refine am_Rq.blk (is := [(.aload_n 0, 1)]) (q := (1, [some (.ref 238)], [.ref 238])) (by decide +kernel) rfl ?_
  dsimp only
  refine am_Rq.getf (v := .int (nI th)) (show decode (am_by 90) 1 = .ok (.getfield 36, 3) by decide +kernel) rfl hM rfl ?_
  refine am_Rq.ret (v := some (.int (nI th))) (show decode (am_by 90) 4 = .ok (.ireturn, 1) by decide +kernel) rfl rfl ?_
  exact ⟨_, rfl, rfl, rfl⟩
end M1
