/-! The reference: issue (rows by prog/m13.py). -/
def m_ChgI (hp : am_H) (f : Nat → Int32) (kn co : Nat) (s s' : Nat → Nat) (hp1 : am_H) : Prop := hp1[238]? = some (7, m_ob 0 (m_kn kn + 1) co) ∧ hp1[239]? = some (100, am_ia (fun i => nI (s' i)) 160) ∧ (∃ f1 : Nat → Int32, hp1[240]? = some (100, am_ia f1 1280) ∧ (∀ k, k < 160 → f1 (160 * m_kn kn + k) = nI (s k)) ∧ ∀ q, q < 160 * m_kn kn → f1 q = if kn = 8 then f (q + 160) else f q) ∧ (∃ pf : Nat → Int32, hp1[245]? = some (100, am_ia pf 5)) ∧ am_fr (fun x => 238 ≤ x ∧ x < 241 ∨ x = 245) hp hp1
/-- the price behind a round, of a class of the reference -/
def m_gp (s : Nat → Nat) (c n p k : Nat) : Nat := if k = c then s (1 + 8 * (k - 1) + 6) else g_p (m_iss s k) (s (1 + 8 * (k - 1) + 5)) (s (1 + 8 * (k - 1) + 6)) n p (sp_sm (fun c => m_cv s c (m_iss s c)) (s 0 + 1))
/-- the row, with the prices of the classes below k written -/
def m_ag (s : Nat → Nat) (c n p k q : Nat) : Nat := if 1 ≤ q ∧ q < 1 + 8 * (k - 1) ∧ (q - 1) % 8 = 6 then m_gp s c n p ((q - 1) / 8 + 1) else s q
theorem m_ag_step {s : Nat → Nat} {c n p k : Nat} (hk : 1 ≤ k) : m_ag s c n p (k + 1) = va_up (m_ag s c n p k) (1 + 8 * (k - 1) + 6) (m_gp s c n p k) := by
  funext q
  by_cases e : q = 1 + 8 * (k - 1) + 6
  · subst e
    rw [va_up_self]
    unfold m_ag
    rw [if_pos (by omega), show (1 + 8 * (k - 1) + 6 - 1) / 8 + 1 = k by omega]
  · rw [va_up_ne _ _ e]
    unfold m_ag
    by_cases h : 1 ≤ q ∧ q < 1 + 8 * (k - 1) ∧ (q - 1) % 8 = 6
    · rw [if_pos h, if_pos (by omega)]
    · rw [if_neg h, if_neg (by omega)]
theorem m_ag_1 {s : Nat → Nat} {c n p : Nat} : m_ag s c n p 1 = s := by
  funext q
  unfold m_ag
  rw [if_neg (by omega)]
theorem m_ag_out {s : Nat → Nat} {c n p k q : Nat} (h : 40 ≤ q) (hk : k ≤ 5) : m_ag s c n p k q = s q := by
  unfold m_ag
  rw [if_neg (by omega)]
theorem m_all_le {s : Nat → Nat} (hb : m_bd s) : sp_sm (fun c => m_cv s c (m_iss s c)) (s 0 + 1) ≤ 100000000 := by
  have h1 : ∀ c, c < s 0 + 1 → m_cv s c (m_iss s c) ≤ 20000000 := fun c hc => by
    have h0 := hb.1
    have hi := hb.2.1 c (by omega)
    unfold m_cv
    split
    · omega
    · obtain ⟨p1, p2, p3⟩ := hb.2.2 c (by omega) (by omega)
      have hm := Nat.mul_le_mul (Nat.mul_le_mul_right 1000 hi) p1
      exact Nat.le_trans (Nat.div_le_div_left p2 (by decide)) (by omega)
  have h2 : ∀ n, n ≤ s 0 + 1 → sp_sm (fun c => m_cv s c (m_iss s c)) n ≤ 20000000 * n := fun n => by
    induction n with
    | zero => intro _; simp [sp_sm]
    | succ n ih =>
      intro hn
      have := ih (by omega)
      have := h1 n (by omega)
      simp only [sp_sm]
      omega
  have := h2 (s 0 + 1) (Nat.le_refl _)
  have := hb.1
  omega
section M13
variable {d : Nat} {hp : am_H}
theorem m_issue {th kn co : Nat} (hM : hp[238]? = some (7, [.int (nI th), .ref 239, .ref 240, .int (nI kn), .ref 241, .ref 242, .ref 243, .ref 244, .long (lN co), .ref 245])) {s : Nat → Nat} (hS : hp[239]? = some (100, am_ia (fun i => nI (s i)) 160)) {f : Nat → Int32} (hF : hp[240]? = some (100, am_ia f 1280)) (hkn : kn ≤ 8) (hb : m_bd s) {pf : Nat → Int32} (hPr : hp[245]? = some (100, am_ia pf 5)) {c k n p : Nat} (hc : c ≤ s 0) (hk : k < 8) (n1 : 1 ≤ n) (n2 : n ≤ 1000) (p1 : 1 ≤ p) (p2 : p ≤ 1000) (hgd : ∀ k, 1 ≤ k → k ≤ s 0 → s (1 + 8 * (k - 1) + 5) ≤ 2) (h5 : m_iss s c + n ≤ 5000) : am_Rq (d + 3) 95 0 (am_en [.ref 238, .int (nI c), .int (nI k), .int (nI n), .int (nI p)] 14) [] hp (am_Ret fun hp1 v => v = some (.int (nI (m_iss (va_up (m_ag s c n p (s 0 + 1)) (40 + 8 * c + k) (s (40 + 8 * c + k) + n)) c))) ∧ m_ChgI hp f kn co s (va_up (m_ag s c n p (s 0 + 1)) (40 + 8 * c + k) (s (40 + 8 * c + k) + n)) hp1) := by
  show am_Rq _ 95 0 [some (.ref 238), some (.int (nI c)), some (.int (nI k)), some (.int (nI n)), some (.int (nI p)), none, none, none, none, none, none, none, none, none] [] _ _
  have hs0 := hb.1
  refine am_Rq.blk (is := [(.aload_n 0, 1), (.iload_n 1, 1)]) (q := (2, [some (.ref 238), some (.int (nI c)), some (.int (nI k)), some (.int (nI n)), some (.int (nI p)), none, none, none, none, none, none, none, none, none], [.int (nI c), .ref 238])) (by decide +kernel) rfl ?_
  dsimp only
  refine am_Rq.callV (show decode (am_by 95) 2 = .ok (.invokevirtual 64, 3) by decide +kernel) rfl [.int (nI c)] [] rfl rfl (Nat.le_of_ble_eq_true rfl) rfl hM rfl (m_isClass hM hS (nI c)) ?_
  rintro hq _ ⟨e1, rfl⟩
  rw [e1]
  clear e1 hq
  show am_Rq _ 95 5 [some (.ref 238), some (.int (nI c)), some (.int (nI k)), some (.int (nI n)), some (.int (nI p)), none, none, none, none, none, none, none, none, none] [.int (nI (am_b (rg_r (nI 0) (nI (s 0)) (nI c))))] _ _
  refine am_Rq.if1F (show decode (am_by 95) 5 = .ok (.ifCond .eq 14, 3) by decide +kernel) (by decide) (by rw [am_b_eq, rg_le (by omega) hc (by omega)]; rfl) ?_
  refine am_Rq.blk (is := [(.iload_n 2, 1)]) (q := (9, [some (.ref 238), some (.int (nI c)), some (.int (nI k)), some (.int (nI n)), some (.int (nI p)), none, none, none, none, none, none, none, none, none], [.int (nI k)])) (by decide +kernel) rfl ?_
  dsimp only
  refine am_Rq.callS (show decode (am_by 95) 9 = .ok (.invokestatic 68, 3) by decide +kernel) rfl [.int (nI k)] [] rfl rfl (Nat.le_of_ble_eq_true rfl) rfl rfl (m_isHolder (nI k)) ?_
  rintro hq _ ⟨e1, rfl⟩
  rw [e1]
  clear e1 hq
  show am_Rq _ 95 12 [some (.ref 238), some (.int (nI c)), some (.int (nI k)), some (.int (nI n)), some (.int (nI p)), none, none, none, none, none, none, none, none, none] [.int (nI (am_b (rg_r (nI 0) (nI 7) (nI k))))] _ _
  refine am_Rq.if1F (show decode (am_by 95) 12 = .ok (.ifCond .eq 7, 3) by decide +kernel) (by decide) (by rw [am_b_eq, rg_le (by omega) (show k ≤ 7 by omega) (by omega)]; rfl) ?_
  refine am_Rq.blk (is := [(.iconst 1, 1), (.goto 4, 3)]) (q := (20, [some (.ref 238), some (.int (nI c)), some (.int (nI k)), some (.int (nI n)), some (.int (nI p)), none, none, none, none, none, none, none, none, none], [.int (nI 1)])) (by decide +kernel) rfl ?_
  dsimp only
  refine am_Rq.blk (is := [(.istore 5, 2), (.aload_n 0, 1), (.iload 5, 2)]) (q := (25, [some (.ref 238), some (.int (nI c)), some (.int (nI k)), some (.int (nI n)), some (.int (nI p)), some (.int (nI 1)), none, none, none, none, none, none, none, none], [.int (nI 1), .ref 238])) (by decide +kernel) rfl ?_
  dsimp only
  refine am_Rq.if1T (t := 32) (show decode (am_by 95) 25 = .ok (.ifCond .ne 7, 3) by decide +kernel) (by decide) (rfl) ?_
  refine am_Rq.blk (is := [(.iconst 0, 1), (.iload_n 3, 1), (.iconst 1, 1), (.sipush 1000, 3)]) (q := (38, [some (.ref 238), some (.int (nI c)), some (.int (nI k)), some (.int (nI n)), some (.int (nI p)), some (.int (nI 1)), none, none, none, none, none, none, none, none], [.int (nI 1000), .int (nI 1), .int (nI n), .int (nI 0), .ref 238])) (by decide +kernel) rfl ?_
  dsimp only
  refine am_Rq.callS (show decode (am_by 95) 38 = .ok (.invokestatic 39, 3) by decide +kernel) rfl [.int (nI n), .int (nI 1), .int (nI 1000)] [.int (nI 0), .ref 238] rfl rfl (Nat.le_of_ble_eq_true rfl) rfl rfl (m_in (nI n) (nI 1) (nI 1000)) ?_
  rintro hq _ ⟨e1, rfl⟩
  rw [e1]
  clear e1 hq
  show am_Rq _ 95 41 [some (.ref 238), some (.int (nI c)), some (.int (nI k)), some (.int (nI n)), some (.int (nI p)), some (.int (nI 1)), none, none, none, none, none, none, none, none] [.int (nI (am_b (rg_r (nI 1) (nI 1000) (nI n)))), .int (nI 0), .ref 238] _ _
  refine am_Rq.if1F (show decode (am_by 95) 41 = .ok (.ifCond .eq 15, 3) by decide +kernel) (by decide) (by rw [am_b_eq, rg_le n1 n2 (by omega)]; rfl) ?_
  refine am_Rq.blk (is := [(.iload 4, 2), (.iconst 1, 1), (.sipush 1000, 3)]) (q := (50, [some (.ref 238), some (.int (nI c)), some (.int (nI k)), some (.int (nI n)), some (.int (nI p)), some (.int (nI 1)), none, none, none, none, none, none, none, none], [.int (nI 1000), .int (nI 1), .int (nI p), .int (nI 0), .ref 238])) (by decide +kernel) rfl ?_
  dsimp only
  refine am_Rq.callS (show decode (am_by 95) 50 = .ok (.invokestatic 39, 3) by decide +kernel) rfl [.int (nI p), .int (nI 1), .int (nI 1000)] [.int (nI 0), .ref 238] rfl rfl (Nat.le_of_ble_eq_true rfl) rfl rfl (m_in (nI p) (nI 1) (nI 1000)) ?_
  rintro hq _ ⟨e1, rfl⟩
  rw [e1]
  clear e1 hq
  show am_Rq _ 95 53 [some (.ref 238), some (.int (nI c)), some (.int (nI k)), some (.int (nI n)), some (.int (nI p)), some (.int (nI 1)), none, none, none, none, none, none, none, none] [.int (nI (am_b (rg_r (nI 1) (nI 1000) (nI p)))), .int (nI 0), .ref 238] _ _
  refine am_Rq.if1T (t := 60) (show decode (am_by 95) 53 = .ok (.ifCond .ne 7, 3) by decide +kernel) (by decide) (by rw [am_b_ne, rg_le p1 p2 (by omega)]) ?_
  refine am_Rq.blk (is := [(.iconst 0, 1), (.iload 5, 2)]) (q := (63, [some (.ref 238), some (.int (nI c)), some (.int (nI k)), some (.int (nI n)), some (.int (nI p)), some (.int (nI 1)), none, none, none, none, none, none, none, none], [.int (nI 1), .int (nI 0), .int (nI 0), .ref 238])) (by decide +kernel) rfl ?_
  dsimp only
  refine am_Rq.if1F (show decode (am_by 95) 63 = .ok (.ifCond .eq 20, 3) by decide +kernel) (by decide) (rfl) ?_
  refine am_Rq.blk (is := [(.aload_n 0, 1), (.iload_n 1, 1)]) (q := (68, [some (.ref 238), some (.int (nI c)), some (.int (nI k)), some (.int (nI n)), some (.int (nI p)), some (.int (nI 1)), none, none, none, none, none, none, none, none], [.int (nI c), .ref 238, .int (nI 0), .int (nI 0), .ref 238])) (by decide +kernel) rfl ?_
  dsimp only
  refine am_Rq.callV (show decode (am_by 95) 68 = .ok (.invokevirtual 49, 3) by decide +kernel) rfl [.int (nI c)] [.int (nI 0), .int (nI 0), .ref 238] rfl rfl (Nat.le_of_ble_eq_true rfl) rfl hM rfl (m_issued hM hS (c := c) (by omega)) ?_
  rintro hq _ ⟨e1, rfl⟩
  rw [e1]
  clear e1 hq
  show am_Rq _ 95 71 [some (.ref 238), some (.int (nI c)), some (.int (nI k)), some (.int (nI n)), some (.int (nI p)), some (.int (nI 1)), none, none, none, none, none, none, none, none] [.int (nI (m_iss s c)), .int (nI 0), .int (nI 0), .ref 238] _ _
  refine am_Rq.blk (is := [(.iload_n 3, 1), (.iadd, 1)]) (q := (73, [some (.ref 238), some (.int (nI c)), some (.int (nI k)), some (.int (nI n)), some (.int (nI p)), some (.int (nI 1)), none, none, none, none, none, none, none, none], [.int ((nI (m_iss s c)) + (nI n)), .int (nI 0), .int (nI 0), .ref 238])) (by decide +kernel) rfl ?_
  dsimp only
  rw [show (nI (m_iss s c)) + (nI n) = nI ((m_iss s c) + n) from nI_add _ _]
  refine am_Rq.blk (is := [(.sipush 5000, 3)]) (q := (76, [some (.ref 238), some (.int (nI c)), some (.int (nI k)), some (.int (nI n)), some (.int (nI p)), some (.int (nI 1)), none, none, none, none, none, none, none, none], [.int (nI 5000), .int (nI ((m_iss s c) + n)), .int (nI 0), .int (nI 0), .ref 238])) (by decide +kernel) rfl ?_
  dsimp only
  refine am_Rq.if2T (t := 83) (show decode (am_by 95) 76 = .ok (.if_icmp .le 7, 3) by decide +kernel) (by decide) (by rw [nm_le (by omega) (by omega)]; exact decide_eq_true (by omega)) ?_
  refine am_Rq.blk (is := [(.iconst 0, 1)]) (q := (84, [some (.ref 238), some (.int (nI c)), some (.int (nI k)), some (.int (nI n)), some (.int (nI p)), some (.int (nI 1)), none, none, none, none, none, none, none, none], [.int (nI 0), .int (nI 0), .int (nI 0), .ref 238])) (by decide +kernel) rfl ?_
  dsimp only
  refine am_Rq.callV (show decode (am_by 95) 84 = .ok (.invokevirtual 57, 3) by decide +kernel) rfl [.int (nI (am_b false)), .int (nI (am_b false)), .int (nI (am_b false))] [] rfl rfl (Nat.le_of_ble_eq_true rfl) rfl hM rfl (m_refused hM false false false) ?_
  rintro _ _ ⟨rfl, rfl⟩
  have hM1 := am_ss (c' := (7, m_ob 0 kn co)) hM
  have hS1 := (am_sn (c' := (7, m_ob 0 kn co)) (show 238 ≠ 239 by decide)).trans hS
  show am_Rq _ 95 87 [some (.ref 238), some (.int (nI c)), some (.int (nI k)), some (.int (nI n)), some (.int (nI p)), some (.int (nI 1)), none, none, none, none, none, none, none, none] [.int (nI (am_b false))] _ _
  refine am_Rq.if1T (t := 92) (show decode (am_by 95) 87 = .ok (.ifCond .eq 5, 3) by decide +kernel) (by decide) (rfl) ?_
  refine am_Rq.blk (is := [(.aload_n 0, 1)]) (q := (93, [some (.ref 238), some (.int (nI c)), some (.int (nI k)), some (.int (nI n)), some (.int (nI p)), some (.int (nI 1)), none, none, none, none, none, none, none, none], [.ref 238])) (by decide +kernel) rfl ?_
  dsimp only
  have hF1 := (am_sn (c' := (7, m_ob 0 kn co)) (show 238 ≠ 240 by decide)).trans hF
  refine am_Rq.callV (show decode (am_by 95) 93 = .ok (.invokevirtual 61, 3) by decide +kernel) rfl [] [] rfl rfl (Nat.le_of_ble_eq_true rfl) rfl hM1 rfl (m_remember hM1 hS1 hF1 hkn) ?_
  rintro hp2 _ ⟨rfl, hM2, ⟨f1, hF2, hF3, hF4⟩, hf2⟩
  have hS2 := (hf2.2.2 239 (fun q => by omega)).trans hS1
  have hfr : am_fr (fun x => 238 ≤ x ∧ x < 241) hp hp2 := ((am_fr.rf (A := fun x => 238 ≤ x ∧ x < 241)).set (c' := (7, m_ob 0 kn co)) ⟨by decide, by decide⟩ hM rfl).trans (hf2.mono (A' := fun x => 238 ≤ x ∧ x < 241) (fun x q => by rcases q with q | q <;> subst q <;> exact ⟨by decide, by decide⟩))
  show am_Rq _ 95 96 [some (.ref 238), some (.int (nI c)), some (.int (nI k)), some (.int (nI n)), some (.int (nI p)), some (.int (nI 1)), none, none, none, none, none, none, none, none] [] _ _
  have hPr1 := (am_sn (c' := (7, m_ob 0 kn co)) (show 238 ≠ 245 by decide)).trans hPr
  have hPr2 := (hf2.2.2 245 (fun q => by omega)).trans hPr1
  refine am_Rq.blk (is := [(.aload_n 0, 1)]) (q := (97, [some (.ref 238), some (.int (nI c)), some (.int (nI k)), some (.int (nI n)), some (.int (nI p)), some (.int (nI 1)), none, none, none, none, none, none, none, none], [.ref 238])) (by decide +kernel) rfl ?_
  dsimp only
  refine am_Rq.callV (show decode (am_by 95) 97 = .ok (.invokevirtual 71, 3) by decide +kernel) rfl [] [] rfl rfl (Nat.le_of_ble_eq_true rfl) rfl hM2 rfl (m_allConv hM2 hS2 hb) ?_
  rintro hq _ ⟨e1, rfl⟩
  rw [e1]
  clear e1 hq
  show am_Rq _ 95 100 [some (.ref 238), some (.int (nI c)), some (.int (nI k)), some (.int (nI n)), some (.int (nI p)), some (.int (nI 1)), none, none, none, none, none, none, none, none] [.long (lN (sp_sm (fun c => m_cv s c (m_iss s c)) (s 0 + 1)))] _ _
  refine am_Rq.blk (is := [(.lstore 6, 2), (.iconst 1, 1), (.istore 8, 2)]) (q := (105, [some (.ref 238), some (.int (nI c)), some (.int (nI k)), some (.int (nI n)), some (.int (nI p)), some (.int (nI 1)), some (.long (lN (sp_sm (fun c => m_cv s c (m_iss s c)) (s 0 + 1)))), none, some (.int (nI 1)), none, none, none, none, none], [])) (by decide +kernel) rfl ?_
  dsimp only
  have hall := m_all_le hb
  generalize hAe : sp_sm (fun c => m_cv s c (m_iss s c)) (s 0 + 1) = al at hall ⊢
  refine am_for (n := (s 0 + 1)) (fun i lo hp => ∃ z9 z10 z11 z12 z13 : Option Value, lo = [some (.ref 238), some (.int (nI c)), some (.int (nI k)), some (.int (nI n)), some (.int (nI p)), some (.int (nI 1)), some (.long (lN (al))), none, some (.int (nI i)), z9, z10, z11, z12, z13] ∧ 1 ≤ i ∧ (∃ g1 : Nat → Int32, hp[245]? = some (100, am_ia g1 5) ∧ ∀ q, 1 ≤ q → q < i → g1 q = nI (m_gp s c n p q)) ∧ hp[239]? = some (100, am_ia (fun j9 => nI (s j9)) 160) ∧ hp[238]? = some (7, [.int (nI 0), .ref 239, .ref 240, .int (nI (m_kn kn + 1)), .ref 241, .ref 242, .ref 243, .ref 244, .long (lN co), .ref 245]) ∧ hp[240]? = some (100, am_ia f1 1280) ∧ am_fr (fun x => 238 ≤ x ∧ x < 241 ∨ x = 245) hp2 hp) ?_ ?_ (i := 1) (by omega) ⟨_, _, _, _, _, rfl, Nat.le_refl _, ⟨pf, hPr2, fun q h1 h2 => by omega⟩, hS2, hM2, hF2, am_fr.rf⟩
  · rintro i lo hp hi ⟨z9, z10, z11, z12, z13, rfl, hi1, ⟨g1, hG, hGx⟩, hA, hB8, hC0, hf0⟩ ih
    refine am_Rq.blk (is := [(.iload 8, 2), (.aload_n 0, 1)]) (q := (108, [some (.ref 238), some (.int (nI c)), some (.int (nI k)), some (.int (nI n)), some (.int (nI p)), some (.int (nI 1)), some (.long (lN (al))), none, some (.int (nI i)), z9, z10, z11, z12, z13], [.ref 238, .int (nI i)])) (by decide +kernel) rfl ?_
    dsimp only
    refine am_Rq.getf (v := .ref 239) (show decode (am_by 95) 108 = .ok (.getfield 7, 3) by decide +kernel) rfl hB8 rfl ?_
    refine am_Rq.blk (is := [(.iconst 0, 1)]) (q := (112, [some (.ref 238), some (.int (nI c)), some (.int (nI k)), some (.int (nI n)), some (.int (nI p)), some (.int (nI 1)), some (.long (lN (al))), none, some (.int (nI i)), z9, z10, z11, z12, z13], [.int (nI 0), .ref 239, .int (nI i)])) (by decide +kernel) rfl ?_
    dsimp only
    refine am_Rq.ial (k := 0) (show decode (am_by 95) 112 = .ok (.iaload, 1) by decide +kernel) hA (by omega) (by omega) ?_
    refine am_Rq.if2F (show decode (am_by 95) 113 = .ok (.if_icmp .gt 130, 3) by decide +kernel) (by decide) (by rw [nm_gt (by omega) (by omega)]; exact decide_eq_false (by omega)) ?_
    obtain ⟨q1, q2, q3⟩ := hb.2.2 i (by omega) (by omega)
    have q4 := hgd i (by omega) (by omega)
    have q5 := hb.2.1 i (by omega)
    have hmul : s (1 + 8 * (i - 1) + 6) * al ≤ 1000000 * 100000000 := Nat.mul_le_mul q3 hall
    have hpn : 1000 * p * n ≤ 1000000 * 1000 := Nat.mul_le_mul (by omega) n2
    refine am_Rq.blk (is := [(.aload_n 0, 1), (.iload 8, 2), (.bipush 6, 2)]) (q := (121, [some (.ref 238), some (.int (nI c)), some (.int (nI k)), some (.int (nI n)), some (.int (nI p)), some (.int (nI 1)), some (.long (lN (al))), none, some (.int (nI i)), z9, z10, z11, z12, z13], [.int (nI 6), .int (nI i), .ref 238])) (by decide +kernel) rfl ?_
    dsimp only
    refine am_Rq.callV (show decode (am_by 95) 121 = .ok (.invokevirtual 45, 3) by decide +kernel) rfl [.int (nI i), .int (nI 6)] [] rfl rfl (Nat.le_of_ble_eq_true rfl) rfl hB8 rfl (m_of hB8 hA (show 1 ≤ i by omega) (show i < 5 by omega) (show 6 < 8 by omega)) ?_
    rintro hq _ ⟨e1, rfl⟩
    rw [e1]
    clear e1 hq
    show am_Rq _ 95 124 [some (.ref 238), some (.int (nI c)), some (.int (nI k)), some (.int (nI n)), some (.int (nI p)), some (.int (nI 1)), some (.long (lN (al))), none, some (.int (nI i)), z9, z10, z11, z12, z13] [.int (nI (s (1 + 8 * (i - 1) + 6)))] _ _
    refine am_Rq.blk (is := [(.i2l, 1)]) (q := (125, [some (.ref 238), some (.int (nI c)), some (.int (nI k)), some (.int (nI n)), some (.int (nI p)), some (.int (nI 1)), some (.long (lN (al))), none, some (.int (nI i)), z9, z10, z11, z12, z13], [.long ((nI (s (1 + 8 * (i - 1) + 6))).toInt64)])) (by decide +kernel) rfl ?_
    dsimp only
    rw [show (nI (s (1 + 8 * (i - 1) + 6))).toInt64 = lN (s (1 + 8 * (i - 1) + 6)) from nm_l (by omega)]
    refine am_Rq.blk (is := [(.lstore 9, 2), (.iload 8, 2), (.iload_n 1, 1)]) (q := (130, [some (.ref 238), some (.int (nI c)), some (.int (nI k)), some (.int (nI n)), some (.int (nI p)), some (.int (nI 1)), some (.long (lN (al))), none, some (.int (nI i)), some (.long (lN (s (1 + 8 * (i - 1) + 6)))), none, z11, z12, z13], [.int (nI c), .int (nI i)])) (by decide +kernel) rfl ?_
    dsimp only
    refine am_Rq.if2 (t := 169) (show decode (am_by 95) 130 = .ok (.if_icmp .eq 39, 3) by decide +kernel) (by decide) (fun h6 => ?_) (fun h6 => ?_)
    ·
      rw [nm_eq (by omega) (by omega)] at h6
      have h6 := of_decide_eq_true h6
      refine am_Rq.blk (is := [(.iconst 0, 1), (.istore 11, 2), (.lload 9, 2), (.lload 6, 2), (.lmul, 1)]) (q := (177, [some (.ref 238), some (.int (nI c)), some (.int (nI k)), some (.int (nI n)), some (.int (nI p)), some (.int (nI 1)), some (.long (lN (al))), none, some (.int (nI i)), some (.long (lN (s (1 + 8 * (i - 1) + 6)))), none, some (.int (nI 0)), z12, z13], [.long ((lN (s (1 + 8 * (i - 1) + 6))) * (lN (al)))])) (by decide +kernel) rfl ?_
      dsimp only
      rw [show (lN (s (1 + 8 * (i - 1) + 6))) * (lN (al)) = lN ((s (1 + 8 * (i - 1) + 6)) * al) from lN_mul _ _]
      refine am_Rq.blk (is := [(.ldc2_w 43, 3), (.iload 4, 2), (.i2l, 1)]) (q := (183, [some (.ref 238), some (.int (nI c)), some (.int (nI k)), some (.int (nI n)), some (.int (nI p)), some (.int (nI 1)), some (.long (lN (al))), none, some (.int (nI i)), some (.long (lN (s (1 + 8 * (i - 1) + 6)))), none, some (.int (nI 0)), z12, z13], [.long ((nI p).toInt64), .long (lN 1000), .long (lN ((s (1 + 8 * (i - 1) + 6)) * al))])) (by decide +kernel) rfl ?_
      dsimp only
      rw [show (nI p).toInt64 = lN p from nm_l (by omega)]
      refine am_Rq.blk (is := [(.lmul, 1)]) (q := (184, [some (.ref 238), some (.int (nI c)), some (.int (nI k)), some (.int (nI n)), some (.int (nI p)), some (.int (nI 1)), some (.long (lN (al))), none, some (.int (nI i)), some (.long (lN (s (1 + 8 * (i - 1) + 6)))), none, some (.int (nI 0)), z12, z13], [.long ((lN 1000) * (lN p)), .long (lN ((s (1 + 8 * (i - 1) + 6)) * al))])) (by decide +kernel) rfl ?_
      dsimp only
      rw [show (lN 1000) * (lN p) = lN (1000 * p) from lN_mul _ _]
      refine am_Rq.blk (is := [(.iload_n 3, 1), (.i2l, 1)]) (q := (186, [some (.ref 238), some (.int (nI c)), some (.int (nI k)), some (.int (nI n)), some (.int (nI p)), some (.int (nI 1)), some (.long (lN (al))), none, some (.int (nI i)), some (.long (lN (s (1 + 8 * (i - 1) + 6)))), none, some (.int (nI 0)), z12, z13], [.long ((nI n).toInt64), .long (lN (1000 * p)), .long (lN ((s (1 + 8 * (i - 1) + 6)) * al))])) (by decide +kernel) rfl ?_
      dsimp only
      rw [show (nI n).toInt64 = lN n from nm_l (by omega)]
      refine am_Rq.blk (is := [(.lmul, 1)]) (q := (187, [some (.ref 238), some (.int (nI c)), some (.int (nI k)), some (.int (nI n)), some (.int (nI p)), some (.int (nI 1)), some (.long (lN (al))), none, some (.int (nI i)), some (.long (lN (s (1 + 8 * (i - 1) + 6)))), none, some (.int (nI 0)), z12, z13], [.long ((lN (1000 * p)) * (lN n)), .long (lN ((s (1 + 8 * (i - 1) + 6)) * al))])) (by decide +kernel) rfl ?_
      dsimp only
      rw [show (lN (1000 * p)) * (lN n) = lN ((1000 * p) * n) from lN_mul _ _]
      refine am_Rq.blk (is := [(.ladd, 1)]) (q := (188, [some (.ref 238), some (.int (nI c)), some (.int (nI k)), some (.int (nI n)), some (.int (nI p)), some (.int (nI 1)), some (.long (lN (al))), none, some (.int (nI i)), some (.long (lN (s (1 + 8 * (i - 1) + 6)))), none, some (.int (nI 0)), z12, z13], [.long ((lN ((s (1 + 8 * (i - 1) + 6)) * al)) + (lN ((1000 * p) * n)))])) (by decide +kernel) rfl ?_
      dsimp only
      rw [show (lN ((s (1 + 8 * (i - 1) + 6)) * al)) + (lN ((1000 * p) * n)) = lN (((s (1 + 8 * (i - 1) + 6)) * al) + ((1000 * p) * n)) from lN_add _ _]
      refine am_Rq.blk (is := [(.lload 6, 2), (.iload_n 3, 1), (.i2l, 1)]) (q := (192, [some (.ref 238), some (.int (nI c)), some (.int (nI k)), some (.int (nI n)), some (.int (nI p)), some (.int (nI 1)), some (.long (lN (al))), none, some (.int (nI i)), some (.long (lN (s (1 + 8 * (i - 1) + 6)))), none, some (.int (nI 0)), z12, z13], [.long ((nI n).toInt64), .long (lN (al)), .long (lN (((s (1 + 8 * (i - 1) + 6)) * al) + ((1000 * p) * n)))])) (by decide +kernel) rfl ?_
      dsimp only
      rw [show (nI n).toInt64 = lN n from nm_l (by omega)]
      refine am_Rq.blk (is := [(.ladd, 1)]) (q := (193, [some (.ref 238), some (.int (nI c)), some (.int (nI k)), some (.int (nI n)), some (.int (nI p)), some (.int (nI 1)), some (.long (lN (al))), none, some (.int (nI i)), some (.long (lN (s (1 + 8 * (i - 1) + 6)))), none, some (.int (nI 0)), z12, z13], [.long ((lN (al)) + (lN n)), .long (lN (((s (1 + 8 * (i - 1) + 6)) * al) + ((1000 * p) * n)))])) (by decide +kernel) rfl ?_
      dsimp only
      rw [show (lN (al)) + (lN n) = lN (al + n) from lN_add _ _]
      refine am_Rq.ldivN (a := ((s (1 + 8 * (i - 1) + 6)) * al) + ((1000 * p) * n)) (b := al + n) (show decode (am_by 95) 193 = .ok (.ldiv, 1) by decide +kernel) (by omega) (by omega) (by omega) ?_
      refine am_Rq.blk (is := [(.lstore 12, 2), (.aload_n 0, 1)]) (q := (197, [some (.ref 238), some (.int (nI c)), some (.int (nI k)), some (.int (nI n)), some (.int (nI p)), some (.int (nI 1)), some (.long (lN (al))), none, some (.int (nI i)), some (.long (lN (s (1 + 8 * (i - 1) + 6)))), none, some (.int (nI 0)), some (.long (lN ((((s (1 + 8 * (i - 1) + 6)) * al) + ((1000 * p) * n)) / (al + n)))), none], [.ref 238])) (by decide +kernel) rfl ?_
      dsimp only
      refine am_Rq.getf (v := .ref 245) (show decode (am_by 95) 197 = .ok (.getfield 29, 3) by decide +kernel) rfl hB8 rfl ?_
      refine am_Rq.blk (is := [(.iload 8, 2), (.iload 11, 2)]) (q := (204, [some (.ref 238), some (.int (nI c)), some (.int (nI k)), some (.int (nI n)), some (.int (nI p)), some (.int (nI 1)), some (.long (lN (al))), none, some (.int (nI i)), some (.long (lN (s (1 + 8 * (i - 1) + 6)))), none, some (.int (nI 0)), some (.long (lN ((((s (1 + 8 * (i - 1) + 6)) * al) + ((1000 * p) * n)) / (al + n)))), none], [.int (nI 0), .int (nI i), .ref 245])) (by decide +kernel) rfl ?_
      dsimp only
      refine am_Rq.if1F (show decode (am_by 95) 204 = .ok (.ifCond .ne 9, 3) by decide +kernel) (by decide) (rfl) ?_
      refine am_Rq.blk (is := [(.lload 9, 2), (.l2i, 1)]) (q := (210, [some (.ref 238), some (.int (nI c)), some (.int (nI k)), some (.int (nI n)), some (.int (nI p)), some (.int (nI 1)), some (.long (lN (al))), none, some (.int (nI i)), some (.long (lN (s (1 + 8 * (i - 1) + 6)))), none, some (.int (nI 0)), some (.long (lN ((((s (1 + 8 * (i - 1) + 6)) * al) + ((1000 * p) * n)) / (al + n)))), none], [.int ((lN (s (1 + 8 * (i - 1) + 6))).toInt32), .int (nI i), .ref 245])) (by decide +kernel) rfl ?_
      dsimp only
      rw [show (lN (s (1 + 8 * (i - 1) + 6))).toInt32 = nI (s (1 + 8 * (i - 1) + 6)) from nm_i _]
      refine am_Rq.blk (is := [(.goto 26, 3)]) (q := (236, [some (.ref 238), some (.int (nI c)), some (.int (nI k)), some (.int (nI n)), some (.int (nI p)), some (.int (nI 1)), some (.long (lN (al))), none, some (.int (nI i)), some (.long (lN (s (1 + 8 * (i - 1) + 6)))), none, some (.int (nI 0)), some (.long (lN ((((s (1 + 8 * (i - 1) + 6)) * al) + ((1000 * p) * n)) / (al + n)))), none], [.int (nI (s (1 + 8 * (i - 1) + 6))), .int (nI i), .ref 245])) (by decide +kernel) rfl ?_
      dsimp only
      refine am_Rq.ias (k := i) (x := nI (s (1 + 8 * (i - 1) + 6))) (show decode (am_by 95) 236 = .ok (.iastore, 1) by decide +kernel) hG (by omega) (by omega) (by omega) ?_
      have hc1_238 := (am_sn (c' := (100, (am_ia (va_up g1 i (nI (s (1 + 8 * (i - 1) + 6)))) 5))) (show 245 ≠ 238 by omega)).trans hB8
      have hc1_239 := (am_sn (c' := (100, (am_ia (va_up g1 i (nI (s (1 + 8 * (i - 1) + 6)))) 5))) (show 245 ≠ 239 by omega)).trans hA
      have hc1_240 := (am_sn (c' := (100, (am_ia (va_up g1 i (nI (s (1 + 8 * (i - 1) + 6)))) 5))) (show 245 ≠ 240 by omega)).trans hC0
      have hc1_245 := am_ss (c' := (100, (am_ia (va_up g1 i (nI (s (1 + 8 * (i - 1) + 6)))) 5))) hG
      have hf1 := (am_fr.rf (A := fun q => q = 245)).set (c' := (100, (am_ia (va_up g1 i (nI (s (1 + 8 * (i - 1) + 6)))) 5))) rfl hG (by simp [am_ia_len, am_la_len])
      generalize hze1 : (List.set _ 245 _ : am_H) = hz1 at hf1 hc1_238 hc1_239 hc1_240 hc1_245 ⊢
      clear hze1
      refine am_Rq.blk (is := [(.iinc 8 1, 3)]) (q := (240, [some (.ref 238), some (.int (nI c)), some (.int (nI k)), some (.int (nI n)), some (.int (nI p)), some (.int (nI 1)), some (.long (lN (al))), none, some (.int ((nI i) + (nI 1))), some (.long (lN (s (1 + 8 * (i - 1) + 6)))), none, some (.int (nI 0)), some (.long (lN ((((s (1 + 8 * (i - 1) + 6)) * al) + ((1000 * p) * n)) / (al + n)))), none], [])) (by decide +kernel) rfl ?_
      dsimp only
      rw [show (nI i) + (nI 1) = nI (i + 1) from nI_add _ _]
      refine am_Rq.blk (is := [(.goto (-135), 3)]) (q := (105, [some (.ref 238), some (.int (nI c)), some (.int (nI k)), some (.int (nI n)), some (.int (nI p)), some (.int (nI 1)), some (.long (lN (al))), none, some (.int (nI (i + 1))), some (.long (lN (s (1 + 8 * (i - 1) + 6)))), none, some (.int (nI 0)), some (.long (lN ((((s (1 + 8 * (i - 1) + 6)) * al) + ((1000 * p) * n)) / (al + n)))), none], [])) (by decide +kernel) rfl ?_
      dsimp only
      refine ih _ _ ⟨_, _, _, _, _, rfl, by omega, ⟨_, hc1_245, fun q h1 h2 => ?_⟩, hc1_239, hc1_238, hc1_240, (hf0.trans (hf1.mono (A' := fun x => 238 ≤ x ∧ x < 241 ∨ x = 245) (fun x q => by have q : x = _ := q; omega)))⟩
      by_cases e : q = i
      · subst e
        rw [va_up_self]
        unfold m_gp g_p
        rw [hAe]
        first
          | (rw [if_pos (by omega)]; done)
          | (rw [if_neg (by omega), if_pos (by omega)]; done)
          | (rw [if_neg (by omega), if_neg (by omega), if_pos (by omega)]; done)
          | (rw [if_neg (by omega), if_neg (by omega), if_neg (by omega)]; done)
      · rw [va_up_ne _ _ e]
        exact hGx q h1 (by omega)
    ·
      rw [nm_eq (by omega) (by omega)] at h6
      have h6 := of_decide_eq_false h6
      refine am_Rq.blk (is := [(.aload_n 0, 1), (.iload 8, 2)]) (q := (136, [some (.ref 238), some (.int (nI c)), some (.int (nI k)), some (.int (nI n)), some (.int (nI p)), some (.int (nI 1)), some (.long (lN (al))), none, some (.int (nI i)), some (.long (lN (s (1 + 8 * (i - 1) + 6)))), none, z11, z12, z13], [.int (nI i), .ref 238])) (by decide +kernel) rfl ?_
      dsimp only
      refine am_Rq.callV (show decode (am_by 95) 136 = .ok (.invokevirtual 49, 3) by decide +kernel) rfl [.int (nI i)] [] rfl rfl (Nat.le_of_ble_eq_true rfl) rfl hB8 rfl (m_issued hB8 hA (show i < 5 by omega)) ?_
      rintro hq _ ⟨e1, rfl⟩
      rw [e1]
      clear e1 hq
      show am_Rq _ 95 139 [some (.ref 238), some (.int (nI c)), some (.int (nI k)), some (.int (nI n)), some (.int (nI p)), some (.int (nI 1)), some (.long (lN (al))), none, some (.int (nI i)), some (.long (lN (s (1 + 8 * (i - 1) + 6)))), none, z11, z12, z13] [.int (nI (m_iss s i))] _ _
      refine am_Rq.if1 (t := 169) (show decode (am_by 95) 139 = .ok (.ifCond .le 30, 3) by decide +kernel) (by decide) (fun h7 => ?_) (fun h7 => ?_)
      ·
        rw [nm_le0 (by omega)] at h7
        have h7 := of_decide_eq_true h7
        refine am_Rq.blk (is := [(.iconst 0, 1), (.istore 11, 2), (.lload 9, 2), (.lload 6, 2), (.lmul, 1)]) (q := (177, [some (.ref 238), some (.int (nI c)), some (.int (nI k)), some (.int (nI n)), some (.int (nI p)), some (.int (nI 1)), some (.long (lN (al))), none, some (.int (nI i)), some (.long (lN (s (1 + 8 * (i - 1) + 6)))), none, some (.int (nI 0)), z12, z13], [.long ((lN (s (1 + 8 * (i - 1) + 6))) * (lN (al)))])) (by decide +kernel) rfl ?_
        dsimp only
        rw [show (lN (s (1 + 8 * (i - 1) + 6))) * (lN (al)) = lN ((s (1 + 8 * (i - 1) + 6)) * al) from lN_mul _ _]
        refine am_Rq.blk (is := [(.ldc2_w 43, 3), (.iload 4, 2), (.i2l, 1)]) (q := (183, [some (.ref 238), some (.int (nI c)), some (.int (nI k)), some (.int (nI n)), some (.int (nI p)), some (.int (nI 1)), some (.long (lN (al))), none, some (.int (nI i)), some (.long (lN (s (1 + 8 * (i - 1) + 6)))), none, some (.int (nI 0)), z12, z13], [.long ((nI p).toInt64), .long (lN 1000), .long (lN ((s (1 + 8 * (i - 1) + 6)) * al))])) (by decide +kernel) rfl ?_
        dsimp only
        rw [show (nI p).toInt64 = lN p from nm_l (by omega)]
        refine am_Rq.blk (is := [(.lmul, 1)]) (q := (184, [some (.ref 238), some (.int (nI c)), some (.int (nI k)), some (.int (nI n)), some (.int (nI p)), some (.int (nI 1)), some (.long (lN (al))), none, some (.int (nI i)), some (.long (lN (s (1 + 8 * (i - 1) + 6)))), none, some (.int (nI 0)), z12, z13], [.long ((lN 1000) * (lN p)), .long (lN ((s (1 + 8 * (i - 1) + 6)) * al))])) (by decide +kernel) rfl ?_
        dsimp only
        rw [show (lN 1000) * (lN p) = lN (1000 * p) from lN_mul _ _]
        refine am_Rq.blk (is := [(.iload_n 3, 1), (.i2l, 1)]) (q := (186, [some (.ref 238), some (.int (nI c)), some (.int (nI k)), some (.int (nI n)), some (.int (nI p)), some (.int (nI 1)), some (.long (lN (al))), none, some (.int (nI i)), some (.long (lN (s (1 + 8 * (i - 1) + 6)))), none, some (.int (nI 0)), z12, z13], [.long ((nI n).toInt64), .long (lN (1000 * p)), .long (lN ((s (1 + 8 * (i - 1) + 6)) * al))])) (by decide +kernel) rfl ?_
        dsimp only
        rw [show (nI n).toInt64 = lN n from nm_l (by omega)]
        refine am_Rq.blk (is := [(.lmul, 1)]) (q := (187, [some (.ref 238), some (.int (nI c)), some (.int (nI k)), some (.int (nI n)), some (.int (nI p)), some (.int (nI 1)), some (.long (lN (al))), none, some (.int (nI i)), some (.long (lN (s (1 + 8 * (i - 1) + 6)))), none, some (.int (nI 0)), z12, z13], [.long ((lN (1000 * p)) * (lN n)), .long (lN ((s (1 + 8 * (i - 1) + 6)) * al))])) (by decide +kernel) rfl ?_
        dsimp only
        rw [show (lN (1000 * p)) * (lN n) = lN ((1000 * p) * n) from lN_mul _ _]
        refine am_Rq.blk (is := [(.ladd, 1)]) (q := (188, [some (.ref 238), some (.int (nI c)), some (.int (nI k)), some (.int (nI n)), some (.int (nI p)), some (.int (nI 1)), some (.long (lN (al))), none, some (.int (nI i)), some (.long (lN (s (1 + 8 * (i - 1) + 6)))), none, some (.int (nI 0)), z12, z13], [.long ((lN ((s (1 + 8 * (i - 1) + 6)) * al)) + (lN ((1000 * p) * n)))])) (by decide +kernel) rfl ?_
        dsimp only
        rw [show (lN ((s (1 + 8 * (i - 1) + 6)) * al)) + (lN ((1000 * p) * n)) = lN (((s (1 + 8 * (i - 1) + 6)) * al) + ((1000 * p) * n)) from lN_add _ _]
        refine am_Rq.blk (is := [(.lload 6, 2), (.iload_n 3, 1), (.i2l, 1)]) (q := (192, [some (.ref 238), some (.int (nI c)), some (.int (nI k)), some (.int (nI n)), some (.int (nI p)), some (.int (nI 1)), some (.long (lN (al))), none, some (.int (nI i)), some (.long (lN (s (1 + 8 * (i - 1) + 6)))), none, some (.int (nI 0)), z12, z13], [.long ((nI n).toInt64), .long (lN (al)), .long (lN (((s (1 + 8 * (i - 1) + 6)) * al) + ((1000 * p) * n)))])) (by decide +kernel) rfl ?_
        dsimp only
        rw [show (nI n).toInt64 = lN n from nm_l (by omega)]
        refine am_Rq.blk (is := [(.ladd, 1)]) (q := (193, [some (.ref 238), some (.int (nI c)), some (.int (nI k)), some (.int (nI n)), some (.int (nI p)), some (.int (nI 1)), some (.long (lN (al))), none, some (.int (nI i)), some (.long (lN (s (1 + 8 * (i - 1) + 6)))), none, some (.int (nI 0)), z12, z13], [.long ((lN (al)) + (lN n)), .long (lN (((s (1 + 8 * (i - 1) + 6)) * al) + ((1000 * p) * n)))])) (by decide +kernel) rfl ?_
        dsimp only
        rw [show (lN (al)) + (lN n) = lN (al + n) from lN_add _ _]
        refine am_Rq.ldivN (a := ((s (1 + 8 * (i - 1) + 6)) * al) + ((1000 * p) * n)) (b := al + n) (show decode (am_by 95) 193 = .ok (.ldiv, 1) by decide +kernel) (by omega) (by omega) (by omega) ?_
        refine am_Rq.blk (is := [(.lstore 12, 2), (.aload_n 0, 1)]) (q := (197, [some (.ref 238), some (.int (nI c)), some (.int (nI k)), some (.int (nI n)), some (.int (nI p)), some (.int (nI 1)), some (.long (lN (al))), none, some (.int (nI i)), some (.long (lN (s (1 + 8 * (i - 1) + 6)))), none, some (.int (nI 0)), some (.long (lN ((((s (1 + 8 * (i - 1) + 6)) * al) + ((1000 * p) * n)) / (al + n)))), none], [.ref 238])) (by decide +kernel) rfl ?_
        dsimp only
        refine am_Rq.getf (v := .ref 245) (show decode (am_by 95) 197 = .ok (.getfield 29, 3) by decide +kernel) rfl hB8 rfl ?_
        refine am_Rq.blk (is := [(.iload 8, 2), (.iload 11, 2)]) (q := (204, [some (.ref 238), some (.int (nI c)), some (.int (nI k)), some (.int (nI n)), some (.int (nI p)), some (.int (nI 1)), some (.long (lN (al))), none, some (.int (nI i)), some (.long (lN (s (1 + 8 * (i - 1) + 6)))), none, some (.int (nI 0)), some (.long (lN ((((s (1 + 8 * (i - 1) + 6)) * al) + ((1000 * p) * n)) / (al + n)))), none], [.int (nI 0), .int (nI i), .ref 245])) (by decide +kernel) rfl ?_
        dsimp only
        refine am_Rq.if1F (show decode (am_by 95) 204 = .ok (.ifCond .ne 9, 3) by decide +kernel) (by decide) (rfl) ?_
        refine am_Rq.blk (is := [(.lload 9, 2), (.l2i, 1)]) (q := (210, [some (.ref 238), some (.int (nI c)), some (.int (nI k)), some (.int (nI n)), some (.int (nI p)), some (.int (nI 1)), some (.long (lN (al))), none, some (.int (nI i)), some (.long (lN (s (1 + 8 * (i - 1) + 6)))), none, some (.int (nI 0)), some (.long (lN ((((s (1 + 8 * (i - 1) + 6)) * al) + ((1000 * p) * n)) / (al + n)))), none], [.int ((lN (s (1 + 8 * (i - 1) + 6))).toInt32), .int (nI i), .ref 245])) (by decide +kernel) rfl ?_
        dsimp only
        rw [show (lN (s (1 + 8 * (i - 1) + 6))).toInt32 = nI (s (1 + 8 * (i - 1) + 6)) from nm_i _]
        refine am_Rq.blk (is := [(.goto 26, 3)]) (q := (236, [some (.ref 238), some (.int (nI c)), some (.int (nI k)), some (.int (nI n)), some (.int (nI p)), some (.int (nI 1)), some (.long (lN (al))), none, some (.int (nI i)), some (.long (lN (s (1 + 8 * (i - 1) + 6)))), none, some (.int (nI 0)), some (.long (lN ((((s (1 + 8 * (i - 1) + 6)) * al) + ((1000 * p) * n)) / (al + n)))), none], [.int (nI (s (1 + 8 * (i - 1) + 6))), .int (nI i), .ref 245])) (by decide +kernel) rfl ?_
        dsimp only
        refine am_Rq.ias (k := i) (x := nI (s (1 + 8 * (i - 1) + 6))) (show decode (am_by 95) 236 = .ok (.iastore, 1) by decide +kernel) hG (by omega) (by omega) (by omega) ?_
        have hc2_238 := (am_sn (c' := (100, (am_ia (va_up g1 i (nI (s (1 + 8 * (i - 1) + 6)))) 5))) (show 245 ≠ 238 by omega)).trans hB8
        have hc2_239 := (am_sn (c' := (100, (am_ia (va_up g1 i (nI (s (1 + 8 * (i - 1) + 6)))) 5))) (show 245 ≠ 239 by omega)).trans hA
        have hc2_240 := (am_sn (c' := (100, (am_ia (va_up g1 i (nI (s (1 + 8 * (i - 1) + 6)))) 5))) (show 245 ≠ 240 by omega)).trans hC0
        have hc2_245 := am_ss (c' := (100, (am_ia (va_up g1 i (nI (s (1 + 8 * (i - 1) + 6)))) 5))) hG
        have hf2 := (am_fr.rf (A := fun q => q = 245)).set (c' := (100, (am_ia (va_up g1 i (nI (s (1 + 8 * (i - 1) + 6)))) 5))) rfl hG (by simp [am_ia_len, am_la_len])
        generalize hze2 : (List.set _ 245 _ : am_H) = hz2 at hf2 hc2_238 hc2_239 hc2_240 hc2_245 ⊢
        clear hze2
        refine am_Rq.blk (is := [(.iinc 8 1, 3)]) (q := (240, [some (.ref 238), some (.int (nI c)), some (.int (nI k)), some (.int (nI n)), some (.int (nI p)), some (.int (nI 1)), some (.long (lN (al))), none, some (.int ((nI i) + (nI 1))), some (.long (lN (s (1 + 8 * (i - 1) + 6)))), none, some (.int (nI 0)), some (.long (lN ((((s (1 + 8 * (i - 1) + 6)) * al) + ((1000 * p) * n)) / (al + n)))), none], [])) (by decide +kernel) rfl ?_
        dsimp only
        rw [show (nI i) + (nI 1) = nI (i + 1) from nI_add _ _]
        refine am_Rq.blk (is := [(.goto (-135), 3)]) (q := (105, [some (.ref 238), some (.int (nI c)), some (.int (nI k)), some (.int (nI n)), some (.int (nI p)), some (.int (nI 1)), some (.long (lN (al))), none, some (.int (nI (i + 1))), some (.long (lN (s (1 + 8 * (i - 1) + 6)))), none, some (.int (nI 0)), some (.long (lN ((((s (1 + 8 * (i - 1) + 6)) * al) + ((1000 * p) * n)) / (al + n)))), none], [])) (by decide +kernel) rfl ?_
        dsimp only
        refine ih _ _ ⟨_, _, _, _, _, rfl, by omega, ⟨_, hc2_245, fun q h1 h2 => ?_⟩, hc2_239, hc2_238, hc2_240, (hf0.trans (hf2.mono (A' := fun x => 238 ≤ x ∧ x < 241 ∨ x = 245) (fun x q => by have q : x = _ := q; omega)))⟩
        by_cases e : q = i
        · subst e
          rw [va_up_self]
          unfold m_gp g_p
          rw [hAe]
          first
            | (rw [if_pos (by omega)]; done)
            | (rw [if_neg (by omega), if_pos (by omega)]; done)
            | (rw [if_neg (by omega), if_neg (by omega), if_pos (by omega)]; done)
            | (rw [if_neg (by omega), if_neg (by omega), if_neg (by omega)]; done)
        · rw [va_up_ne _ _ e]
          exact hGx q h1 (by omega)
      ·
        rw [nm_le0 (by omega)] at h7
        have h7 := of_decide_eq_false h7
        refine am_Rq.blk (is := [(.aload_n 0, 1), (.iload 8, 2), (.iconst 5, 1)]) (q := (146, [some (.ref 238), some (.int (nI c)), some (.int (nI k)), some (.int (nI n)), some (.int (nI p)), some (.int (nI 1)), some (.long (lN (al))), none, some (.int (nI i)), some (.long (lN (s (1 + 8 * (i - 1) + 6)))), none, z11, z12, z13], [.int (nI 5), .int (nI i), .ref 238])) (by decide +kernel) rfl ?_
        dsimp only
        refine am_Rq.callV (show decode (am_by 95) 146 = .ok (.invokevirtual 45, 3) by decide +kernel) rfl [.int (nI i), .int (nI 5)] [] rfl rfl (Nat.le_of_ble_eq_true rfl) rfl hB8 rfl (m_of hB8 hA (show 1 ≤ i by omega) (show i < 5 by omega) (show 5 < 8 by omega)) ?_
        rintro hq _ ⟨e1, rfl⟩
        rw [e1]
        clear e1 hq
        show am_Rq _ 95 149 [some (.ref 238), some (.int (nI c)), some (.int (nI k)), some (.int (nI n)), some (.int (nI p)), some (.int (nI 1)), some (.long (lN (al))), none, some (.int (nI i)), some (.long (lN (s (1 + 8 * (i - 1) + 6)))), none, z11, z12, z13] [.int (nI (s (1 + 8 * (i - 1) + 5)))] _ _
        refine am_Rq.if1 (t := 169) (show decode (am_by 95) 149 = .ok (.ifCond .le 20, 3) by decide +kernel) (by decide) (fun h8 => ?_) (fun h8 => ?_)
        ·
          rw [nm_le0 (by omega)] at h8
          have h8 := of_decide_eq_true h8
          refine am_Rq.blk (is := [(.iconst 0, 1), (.istore 11, 2), (.lload 9, 2), (.lload 6, 2), (.lmul, 1)]) (q := (177, [some (.ref 238), some (.int (nI c)), some (.int (nI k)), some (.int (nI n)), some (.int (nI p)), some (.int (nI 1)), some (.long (lN (al))), none, some (.int (nI i)), some (.long (lN (s (1 + 8 * (i - 1) + 6)))), none, some (.int (nI 0)), z12, z13], [.long ((lN (s (1 + 8 * (i - 1) + 6))) * (lN (al)))])) (by decide +kernel) rfl ?_
          dsimp only
          rw [show (lN (s (1 + 8 * (i - 1) + 6))) * (lN (al)) = lN ((s (1 + 8 * (i - 1) + 6)) * al) from lN_mul _ _]
          refine am_Rq.blk (is := [(.ldc2_w 43, 3), (.iload 4, 2), (.i2l, 1)]) (q := (183, [some (.ref 238), some (.int (nI c)), some (.int (nI k)), some (.int (nI n)), some (.int (nI p)), some (.int (nI 1)), some (.long (lN (al))), none, some (.int (nI i)), some (.long (lN (s (1 + 8 * (i - 1) + 6)))), none, some (.int (nI 0)), z12, z13], [.long ((nI p).toInt64), .long (lN 1000), .long (lN ((s (1 + 8 * (i - 1) + 6)) * al))])) (by decide +kernel) rfl ?_
          dsimp only
          rw [show (nI p).toInt64 = lN p from nm_l (by omega)]
          refine am_Rq.blk (is := [(.lmul, 1)]) (q := (184, [some (.ref 238), some (.int (nI c)), some (.int (nI k)), some (.int (nI n)), some (.int (nI p)), some (.int (nI 1)), some (.long (lN (al))), none, some (.int (nI i)), some (.long (lN (s (1 + 8 * (i - 1) + 6)))), none, some (.int (nI 0)), z12, z13], [.long ((lN 1000) * (lN p)), .long (lN ((s (1 + 8 * (i - 1) + 6)) * al))])) (by decide +kernel) rfl ?_
          dsimp only
          rw [show (lN 1000) * (lN p) = lN (1000 * p) from lN_mul _ _]
          refine am_Rq.blk (is := [(.iload_n 3, 1), (.i2l, 1)]) (q := (186, [some (.ref 238), some (.int (nI c)), some (.int (nI k)), some (.int (nI n)), some (.int (nI p)), some (.int (nI 1)), some (.long (lN (al))), none, some (.int (nI i)), some (.long (lN (s (1 + 8 * (i - 1) + 6)))), none, some (.int (nI 0)), z12, z13], [.long ((nI n).toInt64), .long (lN (1000 * p)), .long (lN ((s (1 + 8 * (i - 1) + 6)) * al))])) (by decide +kernel) rfl ?_
          dsimp only
          rw [show (nI n).toInt64 = lN n from nm_l (by omega)]
          refine am_Rq.blk (is := [(.lmul, 1)]) (q := (187, [some (.ref 238), some (.int (nI c)), some (.int (nI k)), some (.int (nI n)), some (.int (nI p)), some (.int (nI 1)), some (.long (lN (al))), none, some (.int (nI i)), some (.long (lN (s (1 + 8 * (i - 1) + 6)))), none, some (.int (nI 0)), z12, z13], [.long ((lN (1000 * p)) * (lN n)), .long (lN ((s (1 + 8 * (i - 1) + 6)) * al))])) (by decide +kernel) rfl ?_
          dsimp only
          rw [show (lN (1000 * p)) * (lN n) = lN ((1000 * p) * n) from lN_mul _ _]
          refine am_Rq.blk (is := [(.ladd, 1)]) (q := (188, [some (.ref 238), some (.int (nI c)), some (.int (nI k)), some (.int (nI n)), some (.int (nI p)), some (.int (nI 1)), some (.long (lN (al))), none, some (.int (nI i)), some (.long (lN (s (1 + 8 * (i - 1) + 6)))), none, some (.int (nI 0)), z12, z13], [.long ((lN ((s (1 + 8 * (i - 1) + 6)) * al)) + (lN ((1000 * p) * n)))])) (by decide +kernel) rfl ?_
          dsimp only
          rw [show (lN ((s (1 + 8 * (i - 1) + 6)) * al)) + (lN ((1000 * p) * n)) = lN (((s (1 + 8 * (i - 1) + 6)) * al) + ((1000 * p) * n)) from lN_add _ _]
          refine am_Rq.blk (is := [(.lload 6, 2), (.iload_n 3, 1), (.i2l, 1)]) (q := (192, [some (.ref 238), some (.int (nI c)), some (.int (nI k)), some (.int (nI n)), some (.int (nI p)), some (.int (nI 1)), some (.long (lN (al))), none, some (.int (nI i)), some (.long (lN (s (1 + 8 * (i - 1) + 6)))), none, some (.int (nI 0)), z12, z13], [.long ((nI n).toInt64), .long (lN (al)), .long (lN (((s (1 + 8 * (i - 1) + 6)) * al) + ((1000 * p) * n)))])) (by decide +kernel) rfl ?_
          dsimp only
          rw [show (nI n).toInt64 = lN n from nm_l (by omega)]
          refine am_Rq.blk (is := [(.ladd, 1)]) (q := (193, [some (.ref 238), some (.int (nI c)), some (.int (nI k)), some (.int (nI n)), some (.int (nI p)), some (.int (nI 1)), some (.long (lN (al))), none, some (.int (nI i)), some (.long (lN (s (1 + 8 * (i - 1) + 6)))), none, some (.int (nI 0)), z12, z13], [.long ((lN (al)) + (lN n)), .long (lN (((s (1 + 8 * (i - 1) + 6)) * al) + ((1000 * p) * n)))])) (by decide +kernel) rfl ?_
          dsimp only
          rw [show (lN (al)) + (lN n) = lN (al + n) from lN_add _ _]
          refine am_Rq.ldivN (a := ((s (1 + 8 * (i - 1) + 6)) * al) + ((1000 * p) * n)) (b := al + n) (show decode (am_by 95) 193 = .ok (.ldiv, 1) by decide +kernel) (by omega) (by omega) (by omega) ?_
          refine am_Rq.blk (is := [(.lstore 12, 2), (.aload_n 0, 1)]) (q := (197, [some (.ref 238), some (.int (nI c)), some (.int (nI k)), some (.int (nI n)), some (.int (nI p)), some (.int (nI 1)), some (.long (lN (al))), none, some (.int (nI i)), some (.long (lN (s (1 + 8 * (i - 1) + 6)))), none, some (.int (nI 0)), some (.long (lN ((((s (1 + 8 * (i - 1) + 6)) * al) + ((1000 * p) * n)) / (al + n)))), none], [.ref 238])) (by decide +kernel) rfl ?_
          dsimp only
          refine am_Rq.getf (v := .ref 245) (show decode (am_by 95) 197 = .ok (.getfield 29, 3) by decide +kernel) rfl hB8 rfl ?_
          refine am_Rq.blk (is := [(.iload 8, 2), (.iload 11, 2)]) (q := (204, [some (.ref 238), some (.int (nI c)), some (.int (nI k)), some (.int (nI n)), some (.int (nI p)), some (.int (nI 1)), some (.long (lN (al))), none, some (.int (nI i)), some (.long (lN (s (1 + 8 * (i - 1) + 6)))), none, some (.int (nI 0)), some (.long (lN ((((s (1 + 8 * (i - 1) + 6)) * al) + ((1000 * p) * n)) / (al + n)))), none], [.int (nI 0), .int (nI i), .ref 245])) (by decide +kernel) rfl ?_
          dsimp only
          refine am_Rq.if1F (show decode (am_by 95) 204 = .ok (.ifCond .ne 9, 3) by decide +kernel) (by decide) (rfl) ?_
          refine am_Rq.blk (is := [(.lload 9, 2), (.l2i, 1)]) (q := (210, [some (.ref 238), some (.int (nI c)), some (.int (nI k)), some (.int (nI n)), some (.int (nI p)), some (.int (nI 1)), some (.long (lN (al))), none, some (.int (nI i)), some (.long (lN (s (1 + 8 * (i - 1) + 6)))), none, some (.int (nI 0)), some (.long (lN ((((s (1 + 8 * (i - 1) + 6)) * al) + ((1000 * p) * n)) / (al + n)))), none], [.int ((lN (s (1 + 8 * (i - 1) + 6))).toInt32), .int (nI i), .ref 245])) (by decide +kernel) rfl ?_
          dsimp only
          rw [show (lN (s (1 + 8 * (i - 1) + 6))).toInt32 = nI (s (1 + 8 * (i - 1) + 6)) from nm_i _]
          refine am_Rq.blk (is := [(.goto 26, 3)]) (q := (236, [some (.ref 238), some (.int (nI c)), some (.int (nI k)), some (.int (nI n)), some (.int (nI p)), some (.int (nI 1)), some (.long (lN (al))), none, some (.int (nI i)), some (.long (lN (s (1 + 8 * (i - 1) + 6)))), none, some (.int (nI 0)), some (.long (lN ((((s (1 + 8 * (i - 1) + 6)) * al) + ((1000 * p) * n)) / (al + n)))), none], [.int (nI (s (1 + 8 * (i - 1) + 6))), .int (nI i), .ref 245])) (by decide +kernel) rfl ?_
          dsimp only
          refine am_Rq.ias (k := i) (x := nI (s (1 + 8 * (i - 1) + 6))) (show decode (am_by 95) 236 = .ok (.iastore, 1) by decide +kernel) hG (by omega) (by omega) (by omega) ?_
          have hc3_238 := (am_sn (c' := (100, (am_ia (va_up g1 i (nI (s (1 + 8 * (i - 1) + 6)))) 5))) (show 245 ≠ 238 by omega)).trans hB8
          have hc3_239 := (am_sn (c' := (100, (am_ia (va_up g1 i (nI (s (1 + 8 * (i - 1) + 6)))) 5))) (show 245 ≠ 239 by omega)).trans hA
          have hc3_240 := (am_sn (c' := (100, (am_ia (va_up g1 i (nI (s (1 + 8 * (i - 1) + 6)))) 5))) (show 245 ≠ 240 by omega)).trans hC0
          have hc3_245 := am_ss (c' := (100, (am_ia (va_up g1 i (nI (s (1 + 8 * (i - 1) + 6)))) 5))) hG
          have hf3 := (am_fr.rf (A := fun q => q = 245)).set (c' := (100, (am_ia (va_up g1 i (nI (s (1 + 8 * (i - 1) + 6)))) 5))) rfl hG (by simp [am_ia_len, am_la_len])
          generalize hze3 : (List.set _ 245 _ : am_H) = hz3 at hf3 hc3_238 hc3_239 hc3_240 hc3_245 ⊢
          clear hze3
          refine am_Rq.blk (is := [(.iinc 8 1, 3)]) (q := (240, [some (.ref 238), some (.int (nI c)), some (.int (nI k)), some (.int (nI n)), some (.int (nI p)), some (.int (nI 1)), some (.long (lN (al))), none, some (.int ((nI i) + (nI 1))), some (.long (lN (s (1 + 8 * (i - 1) + 6)))), none, some (.int (nI 0)), some (.long (lN ((((s (1 + 8 * (i - 1) + 6)) * al) + ((1000 * p) * n)) / (al + n)))), none], [])) (by decide +kernel) rfl ?_
          dsimp only
          rw [show (nI i) + (nI 1) = nI (i + 1) from nI_add _ _]
          refine am_Rq.blk (is := [(.goto (-135), 3)]) (q := (105, [some (.ref 238), some (.int (nI c)), some (.int (nI k)), some (.int (nI n)), some (.int (nI p)), some (.int (nI 1)), some (.long (lN (al))), none, some (.int (nI (i + 1))), some (.long (lN (s (1 + 8 * (i - 1) + 6)))), none, some (.int (nI 0)), some (.long (lN ((((s (1 + 8 * (i - 1) + 6)) * al) + ((1000 * p) * n)) / (al + n)))), none], [])) (by decide +kernel) rfl ?_
          dsimp only
          refine ih _ _ ⟨_, _, _, _, _, rfl, by omega, ⟨_, hc3_245, fun q h1 h2 => ?_⟩, hc3_239, hc3_238, hc3_240, (hf0.trans (hf3.mono (A' := fun x => 238 ≤ x ∧ x < 241 ∨ x = 245) (fun x q => by have q : x = _ := q; omega)))⟩
          by_cases e : q = i
          · subst e
            rw [va_up_self]
            unfold m_gp g_p
            rw [hAe]
            first
              | (rw [if_pos (by omega)]; done)
              | (rw [if_neg (by omega), if_pos (by omega)]; done)
              | (rw [if_neg (by omega), if_neg (by omega), if_pos (by omega)]; done)
              | (rw [if_neg (by omega), if_neg (by omega), if_neg (by omega)]; done)
          · rw [va_up_ne _ _ e]
            exact hGx q h1 (by omega)
        ·
          rw [nm_le0 (by omega)] at h8
          have h8 := of_decide_eq_false h8
          refine am_Rq.blk (is := [(.lload 9, 2), (.ldc2_w 43, 3), (.iload 4, 2), (.i2l, 1)]) (q := (160, [some (.ref 238), some (.int (nI c)), some (.int (nI k)), some (.int (nI n)), some (.int (nI p)), some (.int (nI 1)), some (.long (lN (al))), none, some (.int (nI i)), some (.long (lN (s (1 + 8 * (i - 1) + 6)))), none, z11, z12, z13], [.long ((nI p).toInt64), .long (lN 1000), .long (lN (s (1 + 8 * (i - 1) + 6)))])) (by decide +kernel) rfl ?_
          dsimp only
          rw [show (nI p).toInt64 = lN p from nm_l (by omega)]
          refine am_Rq.blk (is := [(.lmul, 1)]) (q := (161, [some (.ref 238), some (.int (nI c)), some (.int (nI k)), some (.int (nI n)), some (.int (nI p)), some (.int (nI 1)), some (.long (lN (al))), none, some (.int (nI i)), some (.long (lN (s (1 + 8 * (i - 1) + 6)))), none, z11, z12, z13], [.long ((lN 1000) * (lN p)), .long (lN (s (1 + 8 * (i - 1) + 6)))])) (by decide +kernel) rfl ?_
          dsimp only
          rw [show (lN 1000) * (lN p) = lN (1000 * p) from lN_mul _ _]
          refine am_Rq.blk (is := [(.lcmp, 1)]) (q := (162, [some (.ref 238), some (.int (nI c)), some (.int (nI k)), some (.int (nI n)), some (.int (nI p)), some (.int (nI 1)), some (.long (lN (al))), none, some (.int (nI i)), some (.long (lN (s (1 + 8 * (i - 1) + 6)))), none, z11, z12, z13], [.int (lg_cmp (lN (s (1 + 8 * (i - 1) + 6))) (lN (1000 * p)))])) (by decide +kernel) rfl ?_
          dsimp only
          refine am_Rq.if1 (t := 169) (show decode (am_by 95) 162 = .ok (.ifCond .le 7, 3) by decide +kernel) (by decide) (fun h9 => ?_) (fun h9 => ?_)
          ·
            have h9 := of_decide_eq_true ((nm_cle _ _).symm.trans h9)
            rw [nm_lle (a := (s (1 + 8 * (i - 1) + 6))) (b := (1000 * p)) (by omega) (by omega)] at h9
            refine am_Rq.blk (is := [(.iconst 0, 1), (.istore 11, 2), (.lload 9, 2), (.lload 6, 2), (.lmul, 1)]) (q := (177, [some (.ref 238), some (.int (nI c)), some (.int (nI k)), some (.int (nI n)), some (.int (nI p)), some (.int (nI 1)), some (.long (lN (al))), none, some (.int (nI i)), some (.long (lN (s (1 + 8 * (i - 1) + 6)))), none, some (.int (nI 0)), z12, z13], [.long ((lN (s (1 + 8 * (i - 1) + 6))) * (lN (al)))])) (by decide +kernel) rfl ?_
            dsimp only
            rw [show (lN (s (1 + 8 * (i - 1) + 6))) * (lN (al)) = lN ((s (1 + 8 * (i - 1) + 6)) * al) from lN_mul _ _]
            refine am_Rq.blk (is := [(.ldc2_w 43, 3), (.iload 4, 2), (.i2l, 1)]) (q := (183, [some (.ref 238), some (.int (nI c)), some (.int (nI k)), some (.int (nI n)), some (.int (nI p)), some (.int (nI 1)), some (.long (lN (al))), none, some (.int (nI i)), some (.long (lN (s (1 + 8 * (i - 1) + 6)))), none, some (.int (nI 0)), z12, z13], [.long ((nI p).toInt64), .long (lN 1000), .long (lN ((s (1 + 8 * (i - 1) + 6)) * al))])) (by decide +kernel) rfl ?_
            dsimp only
            rw [show (nI p).toInt64 = lN p from nm_l (by omega)]
            refine am_Rq.blk (is := [(.lmul, 1)]) (q := (184, [some (.ref 238), some (.int (nI c)), some (.int (nI k)), some (.int (nI n)), some (.int (nI p)), some (.int (nI 1)), some (.long (lN (al))), none, some (.int (nI i)), some (.long (lN (s (1 + 8 * (i - 1) + 6)))), none, some (.int (nI 0)), z12, z13], [.long ((lN 1000) * (lN p)), .long (lN ((s (1 + 8 * (i - 1) + 6)) * al))])) (by decide +kernel) rfl ?_
            dsimp only
            rw [show (lN 1000) * (lN p) = lN (1000 * p) from lN_mul _ _]
            refine am_Rq.blk (is := [(.iload_n 3, 1), (.i2l, 1)]) (q := (186, [some (.ref 238), some (.int (nI c)), some (.int (nI k)), some (.int (nI n)), some (.int (nI p)), some (.int (nI 1)), some (.long (lN (al))), none, some (.int (nI i)), some (.long (lN (s (1 + 8 * (i - 1) + 6)))), none, some (.int (nI 0)), z12, z13], [.long ((nI n).toInt64), .long (lN (1000 * p)), .long (lN ((s (1 + 8 * (i - 1) + 6)) * al))])) (by decide +kernel) rfl ?_
            dsimp only
            rw [show (nI n).toInt64 = lN n from nm_l (by omega)]
            refine am_Rq.blk (is := [(.lmul, 1)]) (q := (187, [some (.ref 238), some (.int (nI c)), some (.int (nI k)), some (.int (nI n)), some (.int (nI p)), some (.int (nI 1)), some (.long (lN (al))), none, some (.int (nI i)), some (.long (lN (s (1 + 8 * (i - 1) + 6)))), none, some (.int (nI 0)), z12, z13], [.long ((lN (1000 * p)) * (lN n)), .long (lN ((s (1 + 8 * (i - 1) + 6)) * al))])) (by decide +kernel) rfl ?_
            dsimp only
            rw [show (lN (1000 * p)) * (lN n) = lN ((1000 * p) * n) from lN_mul _ _]
            refine am_Rq.blk (is := [(.ladd, 1)]) (q := (188, [some (.ref 238), some (.int (nI c)), some (.int (nI k)), some (.int (nI n)), some (.int (nI p)), some (.int (nI 1)), some (.long (lN (al))), none, some (.int (nI i)), some (.long (lN (s (1 + 8 * (i - 1) + 6)))), none, some (.int (nI 0)), z12, z13], [.long ((lN ((s (1 + 8 * (i - 1) + 6)) * al)) + (lN ((1000 * p) * n)))])) (by decide +kernel) rfl ?_
            dsimp only
            rw [show (lN ((s (1 + 8 * (i - 1) + 6)) * al)) + (lN ((1000 * p) * n)) = lN (((s (1 + 8 * (i - 1) + 6)) * al) + ((1000 * p) * n)) from lN_add _ _]
            refine am_Rq.blk (is := [(.lload 6, 2), (.iload_n 3, 1), (.i2l, 1)]) (q := (192, [some (.ref 238), some (.int (nI c)), some (.int (nI k)), some (.int (nI n)), some (.int (nI p)), some (.int (nI 1)), some (.long (lN (al))), none, some (.int (nI i)), some (.long (lN (s (1 + 8 * (i - 1) + 6)))), none, some (.int (nI 0)), z12, z13], [.long ((nI n).toInt64), .long (lN (al)), .long (lN (((s (1 + 8 * (i - 1) + 6)) * al) + ((1000 * p) * n)))])) (by decide +kernel) rfl ?_
            dsimp only
            rw [show (nI n).toInt64 = lN n from nm_l (by omega)]
            refine am_Rq.blk (is := [(.ladd, 1)]) (q := (193, [some (.ref 238), some (.int (nI c)), some (.int (nI k)), some (.int (nI n)), some (.int (nI p)), some (.int (nI 1)), some (.long (lN (al))), none, some (.int (nI i)), some (.long (lN (s (1 + 8 * (i - 1) + 6)))), none, some (.int (nI 0)), z12, z13], [.long ((lN (al)) + (lN n)), .long (lN (((s (1 + 8 * (i - 1) + 6)) * al) + ((1000 * p) * n)))])) (by decide +kernel) rfl ?_
            dsimp only
            rw [show (lN (al)) + (lN n) = lN (al + n) from lN_add _ _]
            refine am_Rq.ldivN (a := ((s (1 + 8 * (i - 1) + 6)) * al) + ((1000 * p) * n)) (b := al + n) (show decode (am_by 95) 193 = .ok (.ldiv, 1) by decide +kernel) (by omega) (by omega) (by omega) ?_
            refine am_Rq.blk (is := [(.lstore 12, 2), (.aload_n 0, 1)]) (q := (197, [some (.ref 238), some (.int (nI c)), some (.int (nI k)), some (.int (nI n)), some (.int (nI p)), some (.int (nI 1)), some (.long (lN (al))), none, some (.int (nI i)), some (.long (lN (s (1 + 8 * (i - 1) + 6)))), none, some (.int (nI 0)), some (.long (lN ((((s (1 + 8 * (i - 1) + 6)) * al) + ((1000 * p) * n)) / (al + n)))), none], [.ref 238])) (by decide +kernel) rfl ?_
            dsimp only
            refine am_Rq.getf (v := .ref 245) (show decode (am_by 95) 197 = .ok (.getfield 29, 3) by decide +kernel) rfl hB8 rfl ?_
            refine am_Rq.blk (is := [(.iload 8, 2), (.iload 11, 2)]) (q := (204, [some (.ref 238), some (.int (nI c)), some (.int (nI k)), some (.int (nI n)), some (.int (nI p)), some (.int (nI 1)), some (.long (lN (al))), none, some (.int (nI i)), some (.long (lN (s (1 + 8 * (i - 1) + 6)))), none, some (.int (nI 0)), some (.long (lN ((((s (1 + 8 * (i - 1) + 6)) * al) + ((1000 * p) * n)) / (al + n)))), none], [.int (nI 0), .int (nI i), .ref 245])) (by decide +kernel) rfl ?_
            dsimp only
            refine am_Rq.if1F (show decode (am_by 95) 204 = .ok (.ifCond .ne 9, 3) by decide +kernel) (by decide) (rfl) ?_
            refine am_Rq.blk (is := [(.lload 9, 2), (.l2i, 1)]) (q := (210, [some (.ref 238), some (.int (nI c)), some (.int (nI k)), some (.int (nI n)), some (.int (nI p)), some (.int (nI 1)), some (.long (lN (al))), none, some (.int (nI i)), some (.long (lN (s (1 + 8 * (i - 1) + 6)))), none, some (.int (nI 0)), some (.long (lN ((((s (1 + 8 * (i - 1) + 6)) * al) + ((1000 * p) * n)) / (al + n)))), none], [.int ((lN (s (1 + 8 * (i - 1) + 6))).toInt32), .int (nI i), .ref 245])) (by decide +kernel) rfl ?_
            dsimp only
            rw [show (lN (s (1 + 8 * (i - 1) + 6))).toInt32 = nI (s (1 + 8 * (i - 1) + 6)) from nm_i _]
            refine am_Rq.blk (is := [(.goto 26, 3)]) (q := (236, [some (.ref 238), some (.int (nI c)), some (.int (nI k)), some (.int (nI n)), some (.int (nI p)), some (.int (nI 1)), some (.long (lN (al))), none, some (.int (nI i)), some (.long (lN (s (1 + 8 * (i - 1) + 6)))), none, some (.int (nI 0)), some (.long (lN ((((s (1 + 8 * (i - 1) + 6)) * al) + ((1000 * p) * n)) / (al + n)))), none], [.int (nI (s (1 + 8 * (i - 1) + 6))), .int (nI i), .ref 245])) (by decide +kernel) rfl ?_
            dsimp only
            refine am_Rq.ias (k := i) (x := nI (s (1 + 8 * (i - 1) + 6))) (show decode (am_by 95) 236 = .ok (.iastore, 1) by decide +kernel) hG (by omega) (by omega) (by omega) ?_
            have hc4_238 := (am_sn (c' := (100, (am_ia (va_up g1 i (nI (s (1 + 8 * (i - 1) + 6)))) 5))) (show 245 ≠ 238 by omega)).trans hB8
            have hc4_239 := (am_sn (c' := (100, (am_ia (va_up g1 i (nI (s (1 + 8 * (i - 1) + 6)))) 5))) (show 245 ≠ 239 by omega)).trans hA
            have hc4_240 := (am_sn (c' := (100, (am_ia (va_up g1 i (nI (s (1 + 8 * (i - 1) + 6)))) 5))) (show 245 ≠ 240 by omega)).trans hC0
            have hc4_245 := am_ss (c' := (100, (am_ia (va_up g1 i (nI (s (1 + 8 * (i - 1) + 6)))) 5))) hG
            have hf4 := (am_fr.rf (A := fun q => q = 245)).set (c' := (100, (am_ia (va_up g1 i (nI (s (1 + 8 * (i - 1) + 6)))) 5))) rfl hG (by simp [am_ia_len, am_la_len])
            generalize hze4 : (List.set _ 245 _ : am_H) = hz4 at hf4 hc4_238 hc4_239 hc4_240 hc4_245 ⊢
            clear hze4
            refine am_Rq.blk (is := [(.iinc 8 1, 3)]) (q := (240, [some (.ref 238), some (.int (nI c)), some (.int (nI k)), some (.int (nI n)), some (.int (nI p)), some (.int (nI 1)), some (.long (lN (al))), none, some (.int ((nI i) + (nI 1))), some (.long (lN (s (1 + 8 * (i - 1) + 6)))), none, some (.int (nI 0)), some (.long (lN ((((s (1 + 8 * (i - 1) + 6)) * al) + ((1000 * p) * n)) / (al + n)))), none], [])) (by decide +kernel) rfl ?_
            dsimp only
            rw [show (nI i) + (nI 1) = nI (i + 1) from nI_add _ _]
            refine am_Rq.blk (is := [(.goto (-135), 3)]) (q := (105, [some (.ref 238), some (.int (nI c)), some (.int (nI k)), some (.int (nI n)), some (.int (nI p)), some (.int (nI 1)), some (.long (lN (al))), none, some (.int (nI (i + 1))), some (.long (lN (s (1 + 8 * (i - 1) + 6)))), none, some (.int (nI 0)), some (.long (lN ((((s (1 + 8 * (i - 1) + 6)) * al) + ((1000 * p) * n)) / (al + n)))), none], [])) (by decide +kernel) rfl ?_
            dsimp only
            refine ih _ _ ⟨_, _, _, _, _, rfl, by omega, ⟨_, hc4_245, fun q h1 h2 => ?_⟩, hc4_239, hc4_238, hc4_240, (hf0.trans (hf4.mono (A' := fun x => 238 ≤ x ∧ x < 241 ∨ x = 245) (fun x q => by have q : x = _ := q; omega)))⟩
            by_cases e : q = i
            · subst e
              rw [va_up_self]
              unfold m_gp g_p
              rw [hAe]
              first
                | (rw [if_pos (by omega)]; done)
                | (rw [if_neg (by omega), if_pos (by omega)]; done)
                | (rw [if_neg (by omega), if_neg (by omega), if_pos (by omega)]; done)
                | (rw [if_neg (by omega), if_neg (by omega), if_neg (by omega)]; done)
            · rw [va_up_ne _ _ e]
              exact hGx q h1 (by omega)
          ·
            have h9 := of_decide_eq_false ((nm_cle _ _).symm.trans h9)
            rw [nm_lle (a := (s (1 + 8 * (i - 1) + 6))) (b := (1000 * p)) (by omega) (by omega)] at h9
            refine am_Rq.blk (is := [(.iconst 1, 1), (.goto 4, 3)]) (q := (170, [some (.ref 238), some (.int (nI c)), some (.int (nI k)), some (.int (nI n)), some (.int (nI p)), some (.int (nI 1)), some (.long (lN (al))), none, some (.int (nI i)), some (.long (lN (s (1 + 8 * (i - 1) + 6)))), none, z11, z12, z13], [.int (nI 1)])) (by decide +kernel) rfl ?_
            dsimp only
            refine am_Rq.blk (is := [(.istore 11, 2), (.lload 9, 2), (.lload 6, 2), (.lmul, 1)]) (q := (177, [some (.ref 238), some (.int (nI c)), some (.int (nI k)), some (.int (nI n)), some (.int (nI p)), some (.int (nI 1)), some (.long (lN (al))), none, some (.int (nI i)), some (.long (lN (s (1 + 8 * (i - 1) + 6)))), none, some (.int (nI 1)), z12, z13], [.long ((lN (s (1 + 8 * (i - 1) + 6))) * (lN (al)))])) (by decide +kernel) rfl ?_
            dsimp only
            rw [show (lN (s (1 + 8 * (i - 1) + 6))) * (lN (al)) = lN ((s (1 + 8 * (i - 1) + 6)) * al) from lN_mul _ _]
            refine am_Rq.blk (is := [(.ldc2_w 43, 3), (.iload 4, 2), (.i2l, 1)]) (q := (183, [some (.ref 238), some (.int (nI c)), some (.int (nI k)), some (.int (nI n)), some (.int (nI p)), some (.int (nI 1)), some (.long (lN (al))), none, some (.int (nI i)), some (.long (lN (s (1 + 8 * (i - 1) + 6)))), none, some (.int (nI 1)), z12, z13], [.long ((nI p).toInt64), .long (lN 1000), .long (lN ((s (1 + 8 * (i - 1) + 6)) * al))])) (by decide +kernel) rfl ?_
            dsimp only
            rw [show (nI p).toInt64 = lN p from nm_l (by omega)]
            refine am_Rq.blk (is := [(.lmul, 1)]) (q := (184, [some (.ref 238), some (.int (nI c)), some (.int (nI k)), some (.int (nI n)), some (.int (nI p)), some (.int (nI 1)), some (.long (lN (al))), none, some (.int (nI i)), some (.long (lN (s (1 + 8 * (i - 1) + 6)))), none, some (.int (nI 1)), z12, z13], [.long ((lN 1000) * (lN p)), .long (lN ((s (1 + 8 * (i - 1) + 6)) * al))])) (by decide +kernel) rfl ?_
            dsimp only
            rw [show (lN 1000) * (lN p) = lN (1000 * p) from lN_mul _ _]
            refine am_Rq.blk (is := [(.iload_n 3, 1), (.i2l, 1)]) (q := (186, [some (.ref 238), some (.int (nI c)), some (.int (nI k)), some (.int (nI n)), some (.int (nI p)), some (.int (nI 1)), some (.long (lN (al))), none, some (.int (nI i)), some (.long (lN (s (1 + 8 * (i - 1) + 6)))), none, some (.int (nI 1)), z12, z13], [.long ((nI n).toInt64), .long (lN (1000 * p)), .long (lN ((s (1 + 8 * (i - 1) + 6)) * al))])) (by decide +kernel) rfl ?_
            dsimp only
            rw [show (nI n).toInt64 = lN n from nm_l (by omega)]
            refine am_Rq.blk (is := [(.lmul, 1)]) (q := (187, [some (.ref 238), some (.int (nI c)), some (.int (nI k)), some (.int (nI n)), some (.int (nI p)), some (.int (nI 1)), some (.long (lN (al))), none, some (.int (nI i)), some (.long (lN (s (1 + 8 * (i - 1) + 6)))), none, some (.int (nI 1)), z12, z13], [.long ((lN (1000 * p)) * (lN n)), .long (lN ((s (1 + 8 * (i - 1) + 6)) * al))])) (by decide +kernel) rfl ?_
            dsimp only
            rw [show (lN (1000 * p)) * (lN n) = lN ((1000 * p) * n) from lN_mul _ _]
            refine am_Rq.blk (is := [(.ladd, 1)]) (q := (188, [some (.ref 238), some (.int (nI c)), some (.int (nI k)), some (.int (nI n)), some (.int (nI p)), some (.int (nI 1)), some (.long (lN (al))), none, some (.int (nI i)), some (.long (lN (s (1 + 8 * (i - 1) + 6)))), none, some (.int (nI 1)), z12, z13], [.long ((lN ((s (1 + 8 * (i - 1) + 6)) * al)) + (lN ((1000 * p) * n)))])) (by decide +kernel) rfl ?_
            dsimp only
            rw [show (lN ((s (1 + 8 * (i - 1) + 6)) * al)) + (lN ((1000 * p) * n)) = lN (((s (1 + 8 * (i - 1) + 6)) * al) + ((1000 * p) * n)) from lN_add _ _]
            refine am_Rq.blk (is := [(.lload 6, 2), (.iload_n 3, 1), (.i2l, 1)]) (q := (192, [some (.ref 238), some (.int (nI c)), some (.int (nI k)), some (.int (nI n)), some (.int (nI p)), some (.int (nI 1)), some (.long (lN (al))), none, some (.int (nI i)), some (.long (lN (s (1 + 8 * (i - 1) + 6)))), none, some (.int (nI 1)), z12, z13], [.long ((nI n).toInt64), .long (lN (al)), .long (lN (((s (1 + 8 * (i - 1) + 6)) * al) + ((1000 * p) * n)))])) (by decide +kernel) rfl ?_
            dsimp only
            rw [show (nI n).toInt64 = lN n from nm_l (by omega)]
            refine am_Rq.blk (is := [(.ladd, 1)]) (q := (193, [some (.ref 238), some (.int (nI c)), some (.int (nI k)), some (.int (nI n)), some (.int (nI p)), some (.int (nI 1)), some (.long (lN (al))), none, some (.int (nI i)), some (.long (lN (s (1 + 8 * (i - 1) + 6)))), none, some (.int (nI 1)), z12, z13], [.long ((lN (al)) + (lN n)), .long (lN (((s (1 + 8 * (i - 1) + 6)) * al) + ((1000 * p) * n)))])) (by decide +kernel) rfl ?_
            dsimp only
            rw [show (lN (al)) + (lN n) = lN (al + n) from lN_add _ _]
            refine am_Rq.ldivN (a := ((s (1 + 8 * (i - 1) + 6)) * al) + ((1000 * p) * n)) (b := al + n) (show decode (am_by 95) 193 = .ok (.ldiv, 1) by decide +kernel) (by omega) (by omega) (by omega) ?_
            refine am_Rq.blk (is := [(.lstore 12, 2), (.aload_n 0, 1)]) (q := (197, [some (.ref 238), some (.int (nI c)), some (.int (nI k)), some (.int (nI n)), some (.int (nI p)), some (.int (nI 1)), some (.long (lN (al))), none, some (.int (nI i)), some (.long (lN (s (1 + 8 * (i - 1) + 6)))), none, some (.int (nI 1)), some (.long (lN ((((s (1 + 8 * (i - 1) + 6)) * al) + ((1000 * p) * n)) / (al + n)))), none], [.ref 238])) (by decide +kernel) rfl ?_
            dsimp only
            refine am_Rq.getf (v := .ref 245) (show decode (am_by 95) 197 = .ok (.getfield 29, 3) by decide +kernel) rfl hB8 rfl ?_
            refine am_Rq.blk (is := [(.iload 8, 2), (.iload 11, 2)]) (q := (204, [some (.ref 238), some (.int (nI c)), some (.int (nI k)), some (.int (nI n)), some (.int (nI p)), some (.int (nI 1)), some (.long (lN (al))), none, some (.int (nI i)), some (.long (lN (s (1 + 8 * (i - 1) + 6)))), none, some (.int (nI 1)), some (.long (lN ((((s (1 + 8 * (i - 1) + 6)) * al) + ((1000 * p) * n)) / (al + n)))), none], [.int (nI 1), .int (nI i), .ref 245])) (by decide +kernel) rfl ?_
            dsimp only
            refine am_Rq.if1T (t := 213) (show decode (am_by 95) 204 = .ok (.ifCond .ne 9, 3) by decide +kernel) (by decide) (rfl) ?_
            refine am_Rq.blk (is := [(.aload_n 0, 1), (.iload 8, 2), (.iconst 5, 1)]) (q := (217, [some (.ref 238), some (.int (nI c)), some (.int (nI k)), some (.int (nI n)), some (.int (nI p)), some (.int (nI 1)), some (.long (lN (al))), none, some (.int (nI i)), some (.long (lN (s (1 + 8 * (i - 1) + 6)))), none, some (.int (nI 1)), some (.long (lN ((((s (1 + 8 * (i - 1) + 6)) * al) + ((1000 * p) * n)) / (al + n)))), none], [.int (nI 5), .int (nI i), .ref 238, .int (nI i), .ref 245])) (by decide +kernel) rfl ?_
            dsimp only
            refine am_Rq.callV (show decode (am_by 95) 217 = .ok (.invokevirtual 45, 3) by decide +kernel) rfl [.int (nI i), .int (nI 5)] [.int (nI i), .ref 245] rfl rfl (Nat.le_of_ble_eq_true rfl) rfl hB8 rfl (m_of hB8 hA (show 1 ≤ i by omega) (show i < 5 by omega) (show 5 < 8 by omega)) ?_
            rintro hq _ ⟨e1, rfl⟩
            rw [e1]
            clear e1 hq
            show am_Rq _ 95 220 [some (.ref 238), some (.int (nI c)), some (.int (nI k)), some (.int (nI n)), some (.int (nI p)), some (.int (nI 1)), some (.long (lN (al))), none, some (.int (nI i)), some (.long (lN (s (1 + 8 * (i - 1) + 6)))), none, some (.int (nI 1)), some (.long (lN ((((s (1 + 8 * (i - 1) + 6)) * al) + ((1000 * p) * n)) / (al + n)))), none] [.int (nI (s (1 + 8 * (i - 1) + 5))), .int (nI i), .ref 245] _ _
            refine am_Rq.blk (is := [(.iconst 2, 1)]) (q := (221, [some (.ref 238), some (.int (nI c)), some (.int (nI k)), some (.int (nI n)), some (.int (nI p)), some (.int (nI 1)), some (.long (lN (al))), none, some (.int (nI i)), some (.long (lN (s (1 + 8 * (i - 1) + 6)))), none, some (.int (nI 1)), some (.long (lN ((((s (1 + 8 * (i - 1) + 6)) * al) + ((1000 * p) * n)) / (al + n)))), none], [.int (nI 2), .int (nI (s (1 + 8 * (i - 1) + 5))), .int (nI i), .ref 245])) (by decide +kernel) rfl ?_
            dsimp only
            refine am_Rq.if2 (t := 233) (show decode (am_by 95) 221 = .ok (.if_icmp .ne 12, 3) by decide +kernel) (by decide) (fun h10 => ?_) (fun h10 => ?_)
            ·
              rw [nm_ne (by omega) (by omega)] at h10
              have h10 := of_decide_eq_true h10
              refine am_Rq.blk (is := [(.lload 12, 2), (.l2i, 1)]) (q := (236, [some (.ref 238), some (.int (nI c)), some (.int (nI k)), some (.int (nI n)), some (.int (nI p)), some (.int (nI 1)), some (.long (lN (al))), none, some (.int (nI i)), some (.long (lN (s (1 + 8 * (i - 1) + 6)))), none, some (.int (nI 1)), some (.long (lN ((((s (1 + 8 * (i - 1) + 6)) * al) + ((1000 * p) * n)) / (al + n)))), none], [.int ((lN ((((s (1 + 8 * (i - 1) + 6)) * al) + ((1000 * p) * n)) / (al + n))).toInt32), .int (nI i), .ref 245])) (by decide +kernel) rfl ?_
              dsimp only
              rw [show (lN ((((s (1 + 8 * (i - 1) + 6)) * al) + ((1000 * p) * n)) / (al + n))).toInt32 = nI ((((s (1 + 8 * (i - 1) + 6)) * al) + ((1000 * p) * n)) / (al + n)) from nm_i _]
              refine am_Rq.ias (k := i) (x := nI ((((s (1 + 8 * (i - 1) + 6)) * al) + ((1000 * p) * n)) / (al + n))) (show decode (am_by 95) 236 = .ok (.iastore, 1) by decide +kernel) hG (by omega) (by omega) (by omega) ?_
              have hc5_238 := (am_sn (c' := (100, (am_ia (va_up g1 i (nI ((((s (1 + 8 * (i - 1) + 6)) * al) + ((1000 * p) * n)) / (al + n)))) 5))) (show 245 ≠ 238 by omega)).trans hB8
              have hc5_239 := (am_sn (c' := (100, (am_ia (va_up g1 i (nI ((((s (1 + 8 * (i - 1) + 6)) * al) + ((1000 * p) * n)) / (al + n)))) 5))) (show 245 ≠ 239 by omega)).trans hA
              have hc5_240 := (am_sn (c' := (100, (am_ia (va_up g1 i (nI ((((s (1 + 8 * (i - 1) + 6)) * al) + ((1000 * p) * n)) / (al + n)))) 5))) (show 245 ≠ 240 by omega)).trans hC0
              have hc5_245 := am_ss (c' := (100, (am_ia (va_up g1 i (nI ((((s (1 + 8 * (i - 1) + 6)) * al) + ((1000 * p) * n)) / (al + n)))) 5))) hG
              have hf5 := (am_fr.rf (A := fun q => q = 245)).set (c' := (100, (am_ia (va_up g1 i (nI ((((s (1 + 8 * (i - 1) + 6)) * al) + ((1000 * p) * n)) / (al + n)))) 5))) rfl hG (by simp [am_ia_len, am_la_len])
              generalize hze5 : (List.set _ 245 _ : am_H) = hz5 at hf5 hc5_238 hc5_239 hc5_240 hc5_245 ⊢
              clear hze5
              refine am_Rq.blk (is := [(.iinc 8 1, 3)]) (q := (240, [some (.ref 238), some (.int (nI c)), some (.int (nI k)), some (.int (nI n)), some (.int (nI p)), some (.int (nI 1)), some (.long (lN (al))), none, some (.int ((nI i) + (nI 1))), some (.long (lN (s (1 + 8 * (i - 1) + 6)))), none, some (.int (nI 1)), some (.long (lN ((((s (1 + 8 * (i - 1) + 6)) * al) + ((1000 * p) * n)) / (al + n)))), none], [])) (by decide +kernel) rfl ?_
              dsimp only
              rw [show (nI i) + (nI 1) = nI (i + 1) from nI_add _ _]
              refine am_Rq.blk (is := [(.goto (-135), 3)]) (q := (105, [some (.ref 238), some (.int (nI c)), some (.int (nI k)), some (.int (nI n)), some (.int (nI p)), some (.int (nI 1)), some (.long (lN (al))), none, some (.int (nI (i + 1))), some (.long (lN (s (1 + 8 * (i - 1) + 6)))), none, some (.int (nI 1)), some (.long (lN ((((s (1 + 8 * (i - 1) + 6)) * al) + ((1000 * p) * n)) / (al + n)))), none], [])) (by decide +kernel) rfl ?_
              dsimp only
              refine ih _ _ ⟨_, _, _, _, _, rfl, by omega, ⟨_, hc5_245, fun q h1 h2 => ?_⟩, hc5_239, hc5_238, hc5_240, (hf0.trans (hf5.mono (A' := fun x => 238 ≤ x ∧ x < 241 ∨ x = 245) (fun x q => by have q : x = _ := q; omega)))⟩
              by_cases e : q = i
              · subst e
                rw [va_up_self]
                unfold m_gp g_p
                rw [hAe]
                first
                  | (rw [if_pos (by omega)]; done)
                  | (rw [if_neg (by omega), if_pos (by omega)]; done)
                  | (rw [if_neg (by omega), if_neg (by omega), if_pos (by omega)]; done)
                  | (rw [if_neg (by omega), if_neg (by omega), if_neg (by omega)]; done)
              · rw [va_up_ne _ _ e]
                exact hGx q h1 (by omega)
            ·
              rw [nm_ne (by omega) (by omega)] at h10
              have h10 := of_decide_eq_false h10
              refine am_Rq.blk (is := [(.sipush 1000, 3), (.iload 4, 2), (.imul, 1)]) (q := (230, [some (.ref 238), some (.int (nI c)), some (.int (nI k)), some (.int (nI n)), some (.int (nI p)), some (.int (nI 1)), some (.long (lN (al))), none, some (.int (nI i)), some (.long (lN (s (1 + 8 * (i - 1) + 6)))), none, some (.int (nI 1)), some (.long (lN ((((s (1 + 8 * (i - 1) + 6)) * al) + ((1000 * p) * n)) / (al + n)))), none], [.int ((nI 1000) * (nI p)), .int (nI i), .ref 245])) (by decide +kernel) rfl ?_
              dsimp only
              rw [show (nI 1000) * (nI p) = nI (1000 * p) from nm_imul _ _]
              refine am_Rq.blk (is := [(.goto 6, 3)]) (q := (236, [some (.ref 238), some (.int (nI c)), some (.int (nI k)), some (.int (nI n)), some (.int (nI p)), some (.int (nI 1)), some (.long (lN (al))), none, some (.int (nI i)), some (.long (lN (s (1 + 8 * (i - 1) + 6)))), none, some (.int (nI 1)), some (.long (lN ((((s (1 + 8 * (i - 1) + 6)) * al) + ((1000 * p) * n)) / (al + n)))), none], [.int (nI (1000 * p)), .int (nI i), .ref 245])) (by decide +kernel) rfl ?_
              dsimp only
              refine am_Rq.ias (k := i) (x := nI (1000 * p)) (show decode (am_by 95) 236 = .ok (.iastore, 1) by decide +kernel) hG (by omega) (by omega) (by omega) ?_
              have hc6_238 := (am_sn (c' := (100, (am_ia (va_up g1 i (nI (1000 * p))) 5))) (show 245 ≠ 238 by omega)).trans hB8
              have hc6_239 := (am_sn (c' := (100, (am_ia (va_up g1 i (nI (1000 * p))) 5))) (show 245 ≠ 239 by omega)).trans hA
              have hc6_240 := (am_sn (c' := (100, (am_ia (va_up g1 i (nI (1000 * p))) 5))) (show 245 ≠ 240 by omega)).trans hC0
              have hc6_245 := am_ss (c' := (100, (am_ia (va_up g1 i (nI (1000 * p))) 5))) hG
              have hf6 := (am_fr.rf (A := fun q => q = 245)).set (c' := (100, (am_ia (va_up g1 i (nI (1000 * p))) 5))) rfl hG (by simp [am_ia_len, am_la_len])
              generalize hze6 : (List.set _ 245 _ : am_H) = hz6 at hf6 hc6_238 hc6_239 hc6_240 hc6_245 ⊢
              clear hze6
              refine am_Rq.blk (is := [(.iinc 8 1, 3)]) (q := (240, [some (.ref 238), some (.int (nI c)), some (.int (nI k)), some (.int (nI n)), some (.int (nI p)), some (.int (nI 1)), some (.long (lN (al))), none, some (.int ((nI i) + (nI 1))), some (.long (lN (s (1 + 8 * (i - 1) + 6)))), none, some (.int (nI 1)), some (.long (lN ((((s (1 + 8 * (i - 1) + 6)) * al) + ((1000 * p) * n)) / (al + n)))), none], [])) (by decide +kernel) rfl ?_
              dsimp only
              rw [show (nI i) + (nI 1) = nI (i + 1) from nI_add _ _]
              refine am_Rq.blk (is := [(.goto (-135), 3)]) (q := (105, [some (.ref 238), some (.int (nI c)), some (.int (nI k)), some (.int (nI n)), some (.int (nI p)), some (.int (nI 1)), some (.long (lN (al))), none, some (.int (nI (i + 1))), some (.long (lN (s (1 + 8 * (i - 1) + 6)))), none, some (.int (nI 1)), some (.long (lN ((((s (1 + 8 * (i - 1) + 6)) * al) + ((1000 * p) * n)) / (al + n)))), none], [])) (by decide +kernel) rfl ?_
              dsimp only
              refine ih _ _ ⟨_, _, _, _, _, rfl, by omega, ⟨_, hc6_245, fun q h1 h2 => ?_⟩, hc6_239, hc6_238, hc6_240, (hf0.trans (hf6.mono (A' := fun x => 238 ≤ x ∧ x < 241 ∨ x = 245) (fun x q => by have q : x = _ := q; omega)))⟩
              by_cases e : q = i
              · subst e
                rw [va_up_self]
                unfold m_gp g_p
                rw [hAe]
                first
                  | (rw [if_pos (by omega)]; done)
                  | (rw [if_neg (by omega), if_pos (by omega)]; done)
                  | (rw [if_neg (by omega), if_neg (by omega), if_pos (by omega)]; done)
                  | (rw [if_neg (by omega), if_neg (by omega), if_neg (by omega)]; done)
              · rw [va_up_ne _ _ e]
                exact hGx q h1 (by omega)
  · rintro lo hp ⟨z9, z10, z11, z12, z13, rfl, hi1, ⟨g1, hG, hGx⟩, hA, hB8, hC0, hf0⟩
    refine am_Rq.blk (is := [(.iload 8, 2), (.aload_n 0, 1)]) (q := (108, [some (.ref 238), some (.int (nI c)), some (.int (nI k)), some (.int (nI n)), some (.int (nI p)), some (.int (nI 1)), some (.long (lN (al))), none, some (.int (nI (s 0 + 1))), z9, z10, z11, z12, z13], [.ref 238, .int (nI (s 0 + 1))])) (by decide +kernel) rfl ?_
    dsimp only
    refine am_Rq.getf (v := .ref 239) (show decode (am_by 95) 108 = .ok (.getfield 7, 3) by decide +kernel) rfl hB8 rfl ?_
    refine am_Rq.blk (is := [(.iconst 0, 1)]) (q := (112, [some (.ref 238), some (.int (nI c)), some (.int (nI k)), some (.int (nI n)), some (.int (nI p)), some (.int (nI 1)), some (.long (lN (al))), none, some (.int (nI (s 0 + 1))), z9, z10, z11, z12, z13], [.int (nI 0), .ref 239, .int (nI (s 0 + 1))])) (by decide +kernel) rfl ?_
    dsimp only
    refine am_Rq.ial (k := 0) (show decode (am_by 95) 112 = .ok (.iaload, 1) by decide +kernel) hA (by omega) (by omega) ?_
    refine am_Rq.if2T (t := 243) (show decode (am_by 95) 113 = .ok (.if_icmp .gt 130, 3) by decide +kernel) (by decide) (by rw [nm_gt (by omega) (by omega)]; exact decide_eq_true (by omega)) ?_
    refine am_Rq.blk (is := [(.iconst 1, 1), (.istore 8, 2)]) (q := (246, [some (.ref 238), some (.int (nI c)), some (.int (nI k)), some (.int (nI n)), some (.int (nI p)), some (.int (nI 1)), some (.long (lN (al))), none, some (.int (nI 1)), z9, z10, z11, z12, z13], [])) (by decide +kernel) rfl ?_
    dsimp only
    have hfA := hf0
    refine am_for (n := (s 0 + 1)) (fun i lo hp => ∃ z9 z10 z11 z12 z13 : Option Value, lo = [some (.ref 238), some (.int (nI c)), some (.int (nI k)), some (.int (nI n)), some (.int (nI p)), some (.int (nI 1)), some (.long (lN (al))), none, some (.int (nI i)), z9, z10, z11, z12, z13] ∧ 1 ≤ i ∧ hp[239]? = some (100, am_ia (fun j9 => nI (m_ag s c n p i j9)) 160) ∧ hp[245]? = some (100, am_ia g1 5) ∧ hp[238]? = some (7, [.int (nI 0), .ref 239, .ref 240, .int (nI (m_kn kn + 1)), .ref 241, .ref 242, .ref 243, .ref 244, .long (lN co), .ref 245]) ∧ hp[240]? = some (100, am_ia f1 1280) ∧ am_fr (fun x => 238 ≤ x ∧ x < 241 ∨ x = 245) hp2 hp) ?_ ?_ (i := 1) (by omega) ⟨_, _, _, _, _, rfl, Nat.le_refl _, by rw [m_ag_1]; exact hA, hG, hB8, hC0, hf0⟩
    · rintro i lo hp hi ⟨z9, z10, z11, z12, z13, rfl, hi2, hA2, hG2, hB9, hC9, hf9⟩ ih
      refine am_Rq.blk (is := [(.iload 8, 2), (.aload_n 0, 1)]) (q := (249, [some (.ref 238), some (.int (nI c)), some (.int (nI k)), some (.int (nI n)), some (.int (nI p)), some (.int (nI 1)), some (.long (lN (al))), none, some (.int (nI i)), z9, z10, z11, z12, z13], [.ref 238, .int (nI i)])) (by decide +kernel) rfl ?_
      dsimp only
      refine am_Rq.getf (v := .ref 239) (show decode (am_by 95) 249 = .ok (.getfield 7, 3) by decide +kernel) rfl hB9 rfl ?_
      refine am_Rq.blk (is := [(.iconst 0, 1)]) (q := (253, [some (.ref 238), some (.int (nI c)), some (.int (nI k)), some (.int (nI n)), some (.int (nI p)), some (.int (nI 1)), some (.long (lN (al))), none, some (.int (nI i)), z9, z10, z11, z12, z13], [.int (nI 0), .ref 239, .int (nI i)])) (by decide +kernel) rfl ?_
      dsimp only
      refine am_Rq.ial (k := 0) (show decode (am_by 95) 253 = .ok (.iaload, 1) by decide +kernel) hA2 (by omega) (by omega) ?_
      rw [show m_ag s c n p i 0 = s 0 by unfold m_ag; rw [if_neg (by omega)]]
      refine am_Rq.if2F (show decode (am_by 95) 254 = .ok (.if_icmp .gt 33, 3) by decide +kernel) (by decide) (by rw [nm_gt (by omega) (by omega)]; exact decide_eq_false (by omega)) ?_
      refine am_Rq.blk (is := [(.aload_n 0, 1)]) (q := (258, [some (.ref 238), some (.int (nI c)), some (.int (nI k)), some (.int (nI n)), some (.int (nI p)), some (.int (nI 1)), some (.long (lN (al))), none, some (.int (nI i)), z9, z10, z11, z12, z13], [.ref 238])) (by decide +kernel) rfl ?_
      dsimp only
      refine am_Rq.getf (v := .ref 239) (show decode (am_by 95) 258 = .ok (.getfield 7, 3) by decide +kernel) rfl hB9 rfl ?_
      refine am_Rq.blk (is := [(.iconst 1, 1), (.bipush 8, 2), (.iload 8, 2), (.iconst 1, 1), (.isub, 1)]) (q := (268, [some (.ref 238), some (.int (nI c)), some (.int (nI k)), some (.int (nI n)), some (.int (nI p)), some (.int (nI 1)), some (.long (lN (al))), none, some (.int (nI i)), z9, z10, z11, z12, z13], [.int ((nI i) - (nI 1)), .int (nI 8), .int (nI 1), .ref 239])) (by decide +kernel) rfl ?_
      dsimp only
      rw [show (nI i) - (nI 1) = nI (i - 1) from nm_isub (by omega)]
      refine am_Rq.blk (is := [(.imul, 1)]) (q := (269, [some (.ref 238), some (.int (nI c)), some (.int (nI k)), some (.int (nI n)), some (.int (nI p)), some (.int (nI 1)), some (.long (lN (al))), none, some (.int (nI i)), z9, z10, z11, z12, z13], [.int ((nI 8) * (nI (i - 1))), .int (nI 1), .ref 239])) (by decide +kernel) rfl ?_
      dsimp only
      rw [show (nI 8) * (nI (i - 1)) = nI (8 * (i - 1)) from nm_imul _ _]
      refine am_Rq.blk (is := [(.iadd, 1)]) (q := (270, [some (.ref 238), some (.int (nI c)), some (.int (nI k)), some (.int (nI n)), some (.int (nI p)), some (.int (nI 1)), some (.long (lN (al))), none, some (.int (nI i)), z9, z10, z11, z12, z13], [.int ((nI 1) + (nI (8 * (i - 1)))), .ref 239])) (by decide +kernel) rfl ?_
      dsimp only
      rw [show (nI 1) + (nI (8 * (i - 1))) = nI (1 + (8 * (i - 1))) from nI_add _ _]
      refine am_Rq.blk (is := [(.bipush 6, 2), (.iadd, 1)]) (q := (273, [some (.ref 238), some (.int (nI c)), some (.int (nI k)), some (.int (nI n)), some (.int (nI p)), some (.int (nI 1)), some (.long (lN (al))), none, some (.int (nI i)), z9, z10, z11, z12, z13], [.int ((nI (1 + (8 * (i - 1)))) + (nI 6)), .ref 239])) (by decide +kernel) rfl ?_
      dsimp only
      rw [show (nI (1 + (8 * (i - 1)))) + (nI 6) = nI ((1 + (8 * (i - 1))) + 6) from nI_add _ _]
      refine am_Rq.blk (is := [(.aload_n 0, 1)]) (q := (274, [some (.ref 238), some (.int (nI c)), some (.int (nI k)), some (.int (nI n)), some (.int (nI p)), some (.int (nI 1)), some (.long (lN (al))), none, some (.int (nI i)), z9, z10, z11, z12, z13], [.ref 238, .int (nI ((1 + (8 * (i - 1))) + 6)), .ref 239])) (by decide +kernel) rfl ?_
      dsimp only
      refine am_Rq.getf (v := .ref 245) (show decode (am_by 95) 274 = .ok (.getfield 29, 3) by decide +kernel) rfl hB9 rfl ?_
      refine am_Rq.blk (is := [(.iload 8, 2)]) (q := (279, [some (.ref 238), some (.int (nI c)), some (.int (nI k)), some (.int (nI n)), some (.int (nI p)), some (.int (nI 1)), some (.long (lN (al))), none, some (.int (nI i)), z9, z10, z11, z12, z13], [.int (nI i), .ref 245, .int (nI ((1 + (8 * (i - 1))) + 6)), .ref 239])) (by decide +kernel) rfl ?_
      dsimp only
      refine am_Rq.ial (k := i) (show decode (am_by 95) 279 = .ok (.iaload, 1) by decide +kernel) hG2 (by omega) (by omega) ?_
      rw [hGx i (by omega) (by omega)]
      refine am_Rq.nas (s := m_ag s c n p i) (k := (1 + (8 * (i - 1))) + 6) (v := m_gp s c n p i) (show decode (am_by 95) 280 = .ok (.iastore, 1) by decide +kernel) hA2 (by omega) (by omega) (by omega) ?_
      have hc7_238 := (am_sn (c' := (100, (am_ia (fun j9 => nI ((va_up (m_ag s c n p i) ((1 + (8 * (i - 1))) + 6) (m_gp s c n p i)) j9)) 160))) (show 239 ≠ 238 by omega)).trans hB9
      have hc7_239 := am_ss (c' := (100, (am_ia (fun j9 => nI ((va_up (m_ag s c n p i) ((1 + (8 * (i - 1))) + 6) (m_gp s c n p i)) j9)) 160))) hA2
      have hc7_240 := (am_sn (c' := (100, (am_ia (fun j9 => nI ((va_up (m_ag s c n p i) ((1 + (8 * (i - 1))) + 6) (m_gp s c n p i)) j9)) 160))) (show 239 ≠ 240 by omega)).trans hC9
      have hc7_245 := (am_sn (c' := (100, (am_ia (fun j9 => nI ((va_up (m_ag s c n p i) ((1 + (8 * (i - 1))) + 6) (m_gp s c n p i)) j9)) 160))) (show 239 ≠ 245 by omega)).trans hG2
      have hf7 := (am_fr.rf (A := fun q => q = 239)).set (c' := (100, (am_ia (fun j9 => nI ((va_up (m_ag s c n p i) ((1 + (8 * (i - 1))) + 6) (m_gp s c n p i)) j9)) 160))) rfl hA2 (by simp [am_ia_len, am_la_len])
      generalize hze7 : (List.set _ 239 _ : am_H) = hz7 at hf7 hc7_238 hc7_239 hc7_240 hc7_245 ⊢
      clear hze7
      refine am_Rq.blk (is := [(.iinc 8 1, 3)]) (q := (284, [some (.ref 238), some (.int (nI c)), some (.int (nI k)), some (.int (nI n)), some (.int (nI p)), some (.int (nI 1)), some (.long (lN (al))), none, some (.int ((nI i) + (nI 1))), z9, z10, z11, z12, z13], [])) (by decide +kernel) rfl ?_
      dsimp only
      rw [show (nI i) + (nI 1) = nI (i + 1) from nI_add _ _]
      refine am_Rq.blk (is := [(.goto (-38), 3)]) (q := (246, [some (.ref 238), some (.int (nI c)), some (.int (nI k)), some (.int (nI n)), some (.int (nI p)), some (.int (nI 1)), some (.long (lN (al))), none, some (.int (nI (i + 1))), z9, z10, z11, z12, z13], [])) (by decide +kernel) rfl ?_
      dsimp only
      refine ih _ _ ⟨_, _, _, _, _, rfl, by omega, ?_, hc7_245, hc7_238, hc7_240, (hf9.trans (hf7.mono (A' := fun x => 238 ≤ x ∧ x < 241 ∨ x = 245) (fun x q => by have q : x = _ := q; omega)))⟩
      rw [m_ag_step (by omega)]
      exact hc7_239
    · rintro lo hp ⟨z9, z10, z11, z12, z13, rfl, hi2, hA2, hG2, hB9, hC9, hf9⟩
      refine am_Rq.blk (is := [(.iload 8, 2), (.aload_n 0, 1)]) (q := (249, [some (.ref 238), some (.int (nI c)), some (.int (nI k)), some (.int (nI n)), some (.int (nI p)), some (.int (nI 1)), some (.long (lN (al))), none, some (.int (nI (s 0 + 1))), z9, z10, z11, z12, z13], [.ref 238, .int (nI (s 0 + 1))])) (by decide +kernel) rfl ?_
      dsimp only
      refine am_Rq.getf (v := .ref 239) (show decode (am_by 95) 249 = .ok (.getfield 7, 3) by decide +kernel) rfl hB9 rfl ?_
      refine am_Rq.blk (is := [(.iconst 0, 1)]) (q := (253, [some (.ref 238), some (.int (nI c)), some (.int (nI k)), some (.int (nI n)), some (.int (nI p)), some (.int (nI 1)), some (.long (lN (al))), none, some (.int (nI (s 0 + 1))), z9, z10, z11, z12, z13], [.int (nI 0), .ref 239, .int (nI (s 0 + 1))])) (by decide +kernel) rfl ?_
      dsimp only
      refine am_Rq.ial (k := 0) (show decode (am_by 95) 253 = .ok (.iaload, 1) by decide +kernel) hA2 (by omega) (by omega) ?_
      rw [show m_ag s c n p (s 0 + 1) 0 = s 0 by unfold m_ag; rw [if_neg (by omega)]]
      refine am_Rq.if2T (t := 287) (show decode (am_by 95) 254 = .ok (.if_icmp .gt 33, 3) by decide +kernel) (by decide) (by rw [nm_gt (by omega) (by omega)]; exact decide_eq_true (by omega)) ?_
      refine am_Rq.blk (is := [(.aload_n 0, 1)]) (q := (288, [some (.ref 238), some (.int (nI c)), some (.int (nI k)), some (.int (nI n)), some (.int (nI p)), some (.int (nI 1)), some (.long (lN (al))), none, some (.int (nI (s 0 + 1))), z9, z10, z11, z12, z13], [.ref 238])) (by decide +kernel) rfl ?_
      dsimp only
      refine am_Rq.getf (v := .ref 239) (show decode (am_by 95) 288 = .ok (.getfield 7, 3) by decide +kernel) rfl hB9 rfl ?_
      refine am_Rq.blk (is := [(.bipush 40, 2), (.bipush 8, 2), (.iload_n 1, 1), (.imul, 1)]) (q := (297, [some (.ref 238), some (.int (nI c)), some (.int (nI k)), some (.int (nI n)), some (.int (nI p)), some (.int (nI 1)), some (.long (lN (al))), none, some (.int (nI (s 0 + 1))), z9, z10, z11, z12, z13], [.int ((nI 8) * (nI c)), .int (nI 40), .ref 239])) (by decide +kernel) rfl ?_
      dsimp only
      rw [show (nI 8) * (nI c) = nI (8 * c) from nm_imul _ _]
      refine am_Rq.blk (is := [(.iadd, 1)]) (q := (298, [some (.ref 238), some (.int (nI c)), some (.int (nI k)), some (.int (nI n)), some (.int (nI p)), some (.int (nI 1)), some (.long (lN (al))), none, some (.int (nI (s 0 + 1))), z9, z10, z11, z12, z13], [.int ((nI 40) + (nI (8 * c))), .ref 239])) (by decide +kernel) rfl ?_
      dsimp only
      rw [show (nI 40) + (nI (8 * c)) = nI (40 + (8 * c)) from nI_add _ _]
      refine am_Rq.blk (is := [(.iload_n 2, 1), (.iadd, 1)]) (q := (300, [some (.ref 238), some (.int (nI c)), some (.int (nI k)), some (.int (nI n)), some (.int (nI p)), some (.int (nI 1)), some (.long (lN (al))), none, some (.int (nI (s 0 + 1))), z9, z10, z11, z12, z13], [.int ((nI (40 + (8 * c))) + (nI k)), .ref 239])) (by decide +kernel) rfl ?_
      dsimp only
      rw [show (nI (40 + (8 * c))) + (nI k) = nI ((40 + (8 * c)) + k) from nI_add _ _]
      refine am_Rq.blk (is := [(.dup2, 1)]) (q := (301, [some (.ref 238), some (.int (nI c)), some (.int (nI k)), some (.int (nI n)), some (.int (nI p)), some (.int (nI 1)), some (.long (lN (al))), none, some (.int (nI (s 0 + 1))), z9, z10, z11, z12, z13], [.int (nI ((40 + (8 * c)) + k)), .ref 239, .int (nI ((40 + (8 * c)) + k)), .ref 239])) (by decide +kernel) rfl ?_
      dsimp only
      refine am_Rq.ial (k := (40 + (8 * c)) + k) (show decode (am_by 95) 301 = .ok (.iaload, 1) by decide +kernel) hA2 (by omega) (by omega) ?_
      rw [m_ag_out (show 40 ≤ 40 + 8 * c + k by omega) (by omega)]
      refine am_Rq.blk (is := [(.iload_n 3, 1), (.iadd, 1)]) (q := (304, [some (.ref 238), some (.int (nI c)), some (.int (nI k)), some (.int (nI n)), some (.int (nI p)), some (.int (nI 1)), some (.long (lN (al))), none, some (.int (nI (s 0 + 1))), z9, z10, z11, z12, z13], [.int ((nI (s (40 + 8 * c + k))) + (nI n)), .int (nI ((40 + (8 * c)) + k)), .ref 239])) (by decide +kernel) rfl ?_
      dsimp only
      rw [show (nI (s (40 + 8 * c + k))) + (nI n) = nI ((s (40 + 8 * c + k)) + n) from nI_add _ _]
      refine am_Rq.nas (s := (m_ag s c n p (s 0 + 1))) (k := (40 + (8 * c)) + k) (v := (s (40 + 8 * c + k)) + n) (show decode (am_by 95) 304 = .ok (.iastore, 1) by decide +kernel) hA2 (by omega) (by omega) (by omega) ?_
      have hc8_238 := (am_sn (c' := (100, (am_ia (fun j9 => nI ((va_up (m_ag s c n p (s 0 + 1)) ((40 + (8 * c)) + k) ((s (40 + 8 * c + k)) + n)) j9)) 160))) (show 239 ≠ 238 by omega)).trans hB9
      have hc8_239 := am_ss (c' := (100, (am_ia (fun j9 => nI ((va_up (m_ag s c n p (s 0 + 1)) ((40 + (8 * c)) + k) ((s (40 + 8 * c + k)) + n)) j9)) 160))) hA2
      have hc8_240 := (am_sn (c' := (100, (am_ia (fun j9 => nI ((va_up (m_ag s c n p (s 0 + 1)) ((40 + (8 * c)) + k) ((s (40 + 8 * c + k)) + n)) j9)) 160))) (show 239 ≠ 240 by omega)).trans hC9
      have hc8_245 := (am_sn (c' := (100, (am_ia (fun j9 => nI ((va_up (m_ag s c n p (s 0 + 1)) ((40 + (8 * c)) + k) ((s (40 + 8 * c + k)) + n)) j9)) 160))) (show 239 ≠ 245 by omega)).trans hG2
      have hf8 := (am_fr.rf (A := fun q => q = 239)).set (c' := (100, (am_ia (fun j9 => nI ((va_up (m_ag s c n p (s 0 + 1)) ((40 + (8 * c)) + k) ((s (40 + 8 * c + k)) + n)) j9)) 160))) rfl hA2 (by simp [am_ia_len, am_la_len])
      generalize hze8 : (List.set _ 239 _ : am_H) = hz8 at hf8 hc8_238 hc8_239 hc8_240 hc8_245 ⊢
      clear hze8
      refine am_Rq.blk (is := [(.aload_n 0, 1), (.iload_n 1, 1)]) (q := (307, [some (.ref 238), some (.int (nI c)), some (.int (nI k)), some (.int (nI n)), some (.int (nI p)), some (.int (nI 1)), some (.long (lN (al))), none, some (.int (nI (s 0 + 1))), z9, z10, z11, z12, z13], [.int (nI c), .ref 238])) (by decide +kernel) rfl ?_
      dsimp only
      refine am_Rq.callV (show decode (am_by 95) 307 = .ok (.invokevirtual 49, 3) by decide +kernel) rfl [.int (nI c)] [] rfl rfl (Nat.le_of_ble_eq_true rfl) rfl hc8_238 rfl (m_issued (s := va_up (m_ag s c n p (s 0 + 1)) (40 + 8 * c + k) (s (40 + 8 * c + k) + n)) hc8_238 hc8_239 (show c < 5 by omega)) ?_
      rintro hq _ ⟨e1, rfl⟩
      rw [e1]
      clear e1 hq
      show am_Rq _ 95 310 [some (.ref 238), some (.int (nI c)), some (.int (nI k)), some (.int (nI n)), some (.int (nI p)), some (.int (nI 1)), some (.long (lN (al))), none, some (.int (nI (s 0 + 1))), z9, z10, z11, z12, z13] [.int (nI (m_iss (va_up (m_ag s c n p (s 0 + 1)) (40 + 8 * c + k) (s (40 + 8 * c + k) + n)) c))] _ _
      refine am_Rq.ret (v := some (.int (nI (m_iss (va_up (m_ag s c n p (s 0 + 1)) (40 + 8 * c + k) (s (40 + 8 * c + k) + n)) c)))) (show decode (am_by 95) 310 = .ok (.ireturn, 1) by decide +kernel) rfl rfl ?_
      exact ⟨_, rfl, rfl, hc8_238, hc8_239, ⟨f1, hc8_240, hF3, hF4⟩, ⟨_, hc8_245⟩, (hfr.mono (A' := fun x => 238 ≤ x ∧ x < 241 ∨ x = 245) (fun x q => Or.inl q)).trans (hf9.trans (hf8.mono (A' := fun x => 238 ≤ x ∧ x < 241 ∨ x = 245) (fun x q => by have q : x = _ := q; omega)))⟩
end M13
