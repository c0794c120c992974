/-! The reference: all converted (rows by prog/m9.py). -/
def m_iss (s : Nat → Nat) (c : Nat) : Nat := sp_sm (fun h => s (40 + 8 * c + h)) 8
def m_cv (s : Nat → Nat) (c n : Nat) : Nat := if c = 0 then n else n * 1000 * s (1 + 8 * (c - 1) + 0) / s (1 + 8 * (c - 1) + 6)
/-- the bounds of the row -/
def m_bd (s : Nat → Nat) : Prop := s 0 ≤ 4 ∧ (∀ c, c < 5 → m_iss s c ≤ 20000) ∧ ∀ c, 1 ≤ c → c ≤ s 0 → s (1 + 8 * (c - 1) + 0) ≤ 1000 ∧ 1000 ≤ s (1 + 8 * (c - 1) + 6) ∧ s (1 + 8 * (c - 1) + 6) ≤ 1000000
section M9
variable {d : Nat} {hp : am_H}
theorem m_convC {th kn co : Nat} (hM : hp[238]? = some (7, [.int (nI th), .ref 239, .ref 240, .int (nI kn), .ref 241, .ref 242, .ref 243, .ref 244, .long (lN co), .ref 245])) {s : Nat → Nat} (hS : hp[239]? = some (100, am_ia (fun i => nI (s i)) 160)) (hb : m_bd s) {c n : Nat} (hc : c ≤ s 0) (hn : n ≤ 20000) : am_Rq (d + 1) 100 0 (am_en [.ref 238, .int (nI c), .int (nI n)] 3) [] hp (am_Ret fun hp1 v => hp1 = hp ∧ v = some (.long (lN (m_cv s c n)))) := by
  by_cases h0 : c = 0
  · subst h0
    exact m_conv0 hM hS (by omega)
  · have := hb.1
    obtain ⟨p1, p2, p3⟩ := hb.2.2 c (by omega) hc
    have hm := Nat.mul_le_mul (Nat.mul_le_mul_right 1000 hn) p1
    unfold m_cv
    rw [if_neg h0]
    exact m_conv hM hS (by omega) (by omega) (by omega) (by omega) (by omega) (by omega) (by omega)
theorem m_allConv {th kn co : Nat} (hM : hp[238]? = some (7, [.int (nI th), .ref 239, .ref 240, .int (nI kn), .ref 241, .ref 242, .ref 243, .ref 244, .long (lN co), .ref 245])) {s : Nat → Nat} (hS : hp[239]? = some (100, am_ia (fun i => nI (s i)) 160)) (hb : m_bd s)  : am_Rq (d + 2) 99 0 (am_en [.ref 238] 4) [] hp (am_Ret fun hp1 v => hp1 = hp ∧ v = some (.long (lN (sp_sm (fun c => m_cv s c (m_iss s c)) (s 0 + 1))))) := by
  show am_Rq _ 99 0 [some (.ref 238), none, none, none] [] _ _
  refine am_Rq.blk (is := [(.lconst 0, 1), (.lstore_n 1, 1), (.iconst 0, 1), (.istore_n 3, 1)]) (q := (4, [some (.ref 238), some (.long (lN 0)), none, some (.int (nI 0))], [])) (by decide +kernel) rfl ?_
  dsimp only
  have hs0 := hb.1
  have key : ∀ hz, hz = hp → am_Rq (d + 2) 99 4 [some (.ref 238), some (.long (lN 0)), none, some (.int (nI 0))] [] hz (am_Ret fun hp1 v => hp1 = hp ∧ v = some (.long (lN (sp_sm (fun c => m_cv s c (m_iss s c)) (s 0 + 1))))) := ?_
  · exact key hp rfl
  intro hz hze
  subst hze
  refine am_for (n := (s 0 + 1)) (fun i lo hp => lo = [some (.ref 238), some (.long (lN (sp_sm (fun c => m_cv s c (m_iss s c)) i))), none, some (.int (nI i))] ∧ hp = hz) ?_ ?_ (i := 0) (by omega) ⟨rfl, rfl⟩
  · rintro i lo hp hi ⟨rfl, rfl⟩ ih
    refine am_Rq.blk (is := [(.iload_n 3, 1), (.aload_n 0, 1)]) (q := (6, [some (.ref 238), some (.long (lN (sp_sm (fun c => m_cv s c (m_iss s c)) i))), none, some (.int (nI i))], [.ref 238, .int (nI i)])) (by decide +kernel) rfl ?_
    dsimp only
    refine am_Rq.getf (v := .ref 239) (show decode (am_by 99) 6 = .ok (.getfield 7, 3) by decide +kernel) rfl hM rfl ?_
    refine am_Rq.blk (is := [(.iconst 0, 1)]) (q := (10, [some (.ref 238), some (.long (lN (sp_sm (fun c => m_cv s c (m_iss s c)) i))), none, some (.int (nI i))], [.int (nI 0), .ref 239, .int (nI i)])) (by decide +kernel) rfl ?_
    dsimp only
    refine am_Rq.ial (k := 0) (show decode (am_by 99) 10 = .ok (.iaload, 1) by decide +kernel) hS (by omega) (by omega) ?_
    refine am_Rq.if2F (show decode (am_by 99) 11 = .ok (.if_icmp .gt 22, 3) by decide +kernel) (by decide) (by rw [nm_gt (by omega) (by omega)]; exact decide_eq_false (by omega)) ?_
    refine am_Rq.blk (is := [(.lload_n 1, 1), (.aload_n 0, 1), (.iload_n 3, 1), (.aload_n 0, 1), (.iload_n 3, 1)]) (q := (19, [some (.ref 238), some (.long (lN (sp_sm (fun c => m_cv s c (m_iss s c)) i))), none, some (.int (nI i))], [.int (nI i), .ref 238, .int (nI i), .ref 238, .long (lN (sp_sm (fun c => m_cv s c (m_iss s c)) i))])) (by decide +kernel) rfl ?_
    dsimp only
    refine am_Rq.callV (show decode (am_by 99) 19 = .ok (.invokevirtual 49, 3) by decide +kernel) rfl [.int (nI i)] [.int (nI i), .ref 238, .long (lN (sp_sm (fun c => m_cv s c (m_iss s c)) i))] rfl rfl (Nat.le_of_ble_eq_true rfl) rfl hM rfl (m_issued hM hS (by omega)) ?_
    rintro hq _ ⟨e1, rfl⟩
    rw [e1]
    clear e1 hq
    show am_Rq _ 99 22 [some (.ref 238), some (.long (lN (sp_sm (fun c => m_cv s c (m_iss s c)) i))), none, some (.int (nI i))] [.int (nI (m_iss s i)), .int (nI i), .ref 238, .long (lN (sp_sm (fun c => m_cv s c (m_iss s c)) i))] _ _
    refine am_Rq.callV (show decode (am_by 99) 22 = .ok (.invokevirtual 53, 3) by decide +kernel) rfl [.int (nI i), .int (nI (m_iss s i))] [.long (lN (sp_sm (fun c => m_cv s c (m_iss s c)) i))] rfl rfl (Nat.le_of_ble_eq_true rfl) rfl hM rfl (m_convC hM hS hb (by omega) (hb.2.1 i (by omega))) ?_
    rintro hq _ ⟨e1, rfl⟩
    rw [e1]
    clear e1 hq
    show am_Rq _ 99 25 [some (.ref 238), some (.long (lN (sp_sm (fun c => m_cv s c (m_iss s c)) i))), none, some (.int (nI i))] [.long (lN (m_cv s i (m_iss s i))), .long (lN (sp_sm (fun c => m_cv s c (m_iss s c)) i))] _ _
    refine am_Rq.blk (is := [(.ladd, 1)]) (q := (26, [some (.ref 238), some (.long (lN (sp_sm (fun c => m_cv s c (m_iss s c)) i))), none, some (.int (nI i))], [.long ((lN (sp_sm (fun c => m_cv s c (m_iss s c)) i)) + (lN (m_cv s i (m_iss s i))))])) (by decide +kernel) rfl ?_
    dsimp only
    rw [show (lN (sp_sm (fun c => m_cv s c (m_iss s c)) i)) + (lN (m_cv s i (m_iss s i))) = lN ((sp_sm (fun c => m_cv s c (m_iss s c)) i) + (m_cv s i (m_iss s i))) from lN_add _ _]
    refine am_Rq.blk (is := [(.lstore_n 1, 1), (.iinc 3 1, 3)]) (q := (30, [some (.ref 238), some (.long (lN ((sp_sm (fun c => m_cv s c (m_iss s c)) i) + (m_cv s i (m_iss s i))))), none, some (.int ((nI i) + (nI 1)))], [])) (by decide +kernel) rfl ?_
    dsimp only
    rw [show (nI i) + (nI 1) = nI (i + 1) from nI_add _ _]
    refine am_Rq.blk (is := [(.goto (-26), 3)]) (q := (4, [some (.ref 238), some (.long (lN ((sp_sm (fun c => m_cv s c (m_iss s c)) i) + (m_cv s i (m_iss s i))))), none, some (.int (nI (i + 1)))], [])) (by decide +kernel) rfl ?_
    dsimp only
    exact ih _ _ ⟨rfl, rfl⟩
  · rintro lo hp ⟨rfl, rfl⟩
    refine am_Rq.blk (is := [(.iload_n 3, 1), (.aload_n 0, 1)]) (q := (6, [some (.ref 238), some (.long (lN (sp_sm (fun c => m_cv s c (m_iss s c)) (s 0 + 1)))), none, some (.int (nI (s 0 + 1)))], [.ref 238, .int (nI (s 0 + 1))])) (by decide +kernel) rfl ?_
    dsimp only
    refine am_Rq.getf (v := .ref 239) (show decode (am_by 99) 6 = .ok (.getfield 7, 3) by decide +kernel) rfl hM rfl ?_
    refine am_Rq.blk (is := [(.iconst 0, 1)]) (q := (10, [some (.ref 238), some (.long (lN (sp_sm (fun c => m_cv s c (m_iss s c)) (s 0 + 1)))), none, some (.int (nI (s 0 + 1)))], [.int (nI 0), .ref 239, .int (nI (s 0 + 1))])) (by decide +kernel) rfl ?_
    dsimp only
    refine am_Rq.ial (k := 0) (show decode (am_by 99) 10 = .ok (.iaload, 1) by decide +kernel) hS (by omega) (by omega) ?_
    refine am_Rq.if2T (t := 33) (show decode (am_by 99) 11 = .ok (.if_icmp .gt 22, 3) by decide +kernel) (by decide) (by rw [nm_gt (by omega) (by omega)]; exact decide_eq_true (by omega)) ?_
    refine am_Rq.blk (is := [(.lload_n 1, 1)]) (q := (34, [some (.ref 238), some (.long (lN (sp_sm (fun c => m_cv s c (m_iss s c)) (s 0 + 1)))), none, some (.int (nI (s 0 + 1)))], [.long (lN (sp_sm (fun c => m_cv s c (m_iss s c)) (s 0 + 1)))])) (by decide +kernel) rfl ?_
    dsimp only
    refine am_Rq.ret (v := some (.long (lN (sp_sm (fun c => m_cv s c (m_iss s c)) (s 0 + 1))))) (show decode (am_by 99) 34 = .ok (.lreturn, 1) by decide +kernel) rfl rfl ?_
    exact ⟨_, rfl, rfl, rfl⟩
theorem m_asConverted {th kn co : Nat} (hM : hp[238]? = some (7, [.int (nI th), .ref 239, .ref 240, .int (nI kn), .ref 241, .ref 242, .ref 243, .ref 244, .long (lN co), .ref 245])) {s : Nat → Nat} (hS : hp[239]? = some (100, am_ia (fun i => nI (s i)) 160)) (hb : m_bd s)  : am_Rq (d + 3) 117 0 (am_en [.ref 238] 1) [] hp (am_Ret fun hp1 v => hp1 = hp.set 238 (7, m_ob 0 kn co) ∧ v = some (.int (nI (sp_sm (fun c => m_cv s c (m_iss s c)) (s 0 + 1))))) := by
  show am_Rq _ 117 0 [some (.ref 238)] [] _ _
  refine am_Rq.blk (is := [(.aload_n 0, 1), (.iconst 0, 1)]) (q := (2, [some (.ref 238)], [.int (nI 0), .ref 238])) (by decide +kernel) rfl ?_
  dsimp only
  refine am_Rq.putf (show decode (am_by 117) 2 = .ok (.putfield 36, 3) by decide +kernel) rfl hM (Nat.le_of_ble_eq_true rfl) rfl (Or.inl rfl) (by omega) ?_
  have hc1_238 := am_ss (c' := (7, [.int (nI 0), .ref 239, .ref 240, .int (nI kn), .ref 241, .ref 242, .ref 243, .ref 244, .long (lN co), .ref 245])) hM
  have hc1_239 := (am_sn (c' := (7, [.int (nI 0), .ref 239, .ref 240, .int (nI kn), .ref 241, .ref 242, .ref 243, .ref 244, .long (lN co), .ref 245])) (show 238 ≠ 239 by omega)).trans hS
  have hf1 := (am_fr.rf (A := fun q => q = 238)).set (c' := (7, [.int (nI 0), .ref 239, .ref 240, .int (nI kn), .ref 241, .ref 242, .ref 243, .ref 244, .long (lN co), .ref 245])) rfl hM rfl
  refine am_Rq.blk (is := [(.aload_n 0, 1)]) (q := (6, [some (.ref 238)], [.ref 238])) (by decide +kernel) rfl ?_
  dsimp only
  refine am_Rq.callV (show decode (am_by 117) 6 = .ok (.invokevirtual 71, 3) by decide +kernel) rfl [] [] rfl rfl (Nat.le_of_ble_eq_true rfl) rfl hc1_238 rfl (m_allConv hc1_238 hc1_239 hb) ?_
  rintro hq _ ⟨e1, rfl⟩
  rw [e1]
  clear e1 hq
  show am_Rq _ 117 9 [some (.ref 238)] [.long (lN (sp_sm (fun c => m_cv s c (m_iss s c)) (s 0 + 1)))] _ _
  refine am_Rq.blk (is := [(.l2i, 1)]) (q := (10, [some (.ref 238)], [.int ((lN (sp_sm (fun c => m_cv s c (m_iss s c)) (s 0 + 1))).toInt32)])) (by decide +kernel) rfl ?_
  dsimp only
  rw [show (lN (sp_sm (fun c => m_cv s c (m_iss s c)) (s 0 + 1))).toInt32 = nI (sp_sm (fun c => m_cv s c (m_iss s c)) (s 0 + 1)) from nm_i _]
  refine am_Rq.ret (v := some (.int (nI (sp_sm (fun c => m_cv s c (m_iss s c)) (s 0 + 1))))) (show decode (am_by 117) 10 = .ok (.ireturn, 1) by decide +kernel) rfl rfl ?_
  exact ⟨_, rfl, rfl, rfl⟩
end M9
