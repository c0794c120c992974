/-! The class: guards, grants (rows by prog/c5.py). -/
section C5
variable {d : Nat} {hp : am_H}
theorem c_allGr {b K : Nat} {t : Nat → Nat} (h : Led hp b t) (ok : c_ok K t) (hK : K ≤ 1000) : am_Rq d 9 0 (am_en [.ref b] 3) [] hp (am_Ret fun hp1 v => hp1 = hp ∧ v = some (.int (nI (sp_sm (fun g => t (83 + 7 * g + 1)) (t 82))))) := by
  show am_Rq _ 9 0 [some (.ref b), none, none] [] _ _
  refine am_Rq.blk (is := [(.iconst 0, 1), (.istore_n 1, 1), (.iconst 0, 1), (.istore_n 2, 1)]) (q := (4, [some (.ref b), some (.int (nI 0)), some (.int (nI 0))], [])) (by decide +kernel) rfl ?_
  dsimp only
  have hB := ok.b hK
  have h82 := ok.2.2.2.2.1
  have key : ∀ hz, hz = hp → am_Rq d 9 4 [some (.ref b), some (.int (nI 0)), some (.int (nI 0))] [] hz (am_Ret fun hp1 v => hp1 = hp ∧ v = some (.int (nI (sp_sm (fun g => t (83 + 7 * g + 1)) (t 82))))) := ?_
  · exact key hp rfl
  intro hz hze
  subst hze
  refine am_for (n := (t 82)) (fun i lo hp => lo = [some (.ref b), some (.int (nI (sp_sm (fun g => t (83 + 7 * g + 1)) i))), some (.int (nI i))] ∧ hp = hz) ?_ ?_ (i := 0) (by omega) ⟨rfl, rfl⟩
  · rintro i lo hp hi ⟨rfl, rfl⟩ ih
    refine am_Rq.blk (is := [(.iload_n 2, 1), (.aload_n 0, 1)]) (q := (6, [some (.ref b), some (.int (nI (sp_sm (fun g => t (83 + 7 * g + 1)) i))), some (.int (nI i))], [.ref b, .int (nI i)])) (by decide +kernel) rfl ?_
    dsimp only
    refine am_Rq.getf (v := .int (nI (t 82))) (show decode (am_by 9) 6 = .ok (.getfield 36, 3) by decide +kernel) rfl (Led.lg h) rfl ?_
    refine am_Rq.if2F (show decode (am_by 9) 9 = .ok (.if_icmp .ge 27, 3) by decide +kernel) (by decide) (by rw [nm_ge (by omega) (by omega)]; exact decide_eq_false (by omega)) ?_
    refine am_Rq.blk (is := [(.iload_n 2, 1), (.bipush 10, 2)]) (q := (15, [some (.ref b), some (.int (nI (sp_sm (fun g => t (83 + 7 * g + 1)) i))), some (.int (nI i))], [.int (nI 10), .int (nI i)])) (by decide +kernel) rfl ?_
    dsimp only
    refine am_Rq.if2F (show decode (am_by 9) 15 = .ok (.if_icmp .ge 21, 3) by decide +kernel) (by decide) (by rw [nm_ge (by omega) (by omega)]; exact decide_eq_false (by omega)) ?_
    refine am_Rq.blk (is := [(.iload_n 1, 1), (.aload_n 0, 1)]) (q := (20, [some (.ref b), some (.int (nI (sp_sm (fun g => t (83 + 7 * g + 1)) i))), some (.int (nI i))], [.ref b, .int (nI (sp_sm (fun g => t (83 + 7 * g + 1)) i))])) (by decide +kernel) rfl ?_
    dsimp only
    refine am_Rq.getf (v := .ref (b + 12)) (show decode (am_by 9) 20 = .ok (.getfield 20, 3) by decide +kernel) rfl (Led.lg h) rfl ?_
    refine am_Rq.blk (is := [(.iload_n 2, 1)]) (q := (24, [some (.ref b), some (.int (nI (sp_sm (fun g => t (83 + 7 * g + 1)) i))), some (.int (nI i))], [.int (nI i), .ref (b + 12), .int (nI (sp_sm (fun g => t (83 + 7 * g + 1)) i))])) (by decide +kernel) rfl ?_
    dsimp only
    refine am_Rq.ral (k := i) (show decode (am_by 9) 24 = .ok (.aaload, 1) by decide +kernel) (Led.ga h) rfl (by omega) (by omega) ?_
    refine am_Rq.getf (v := .int (nI (t (83 + 7 * i + 1)))) (show decode (am_by 9) 25 = .ok (.getfield 60, 3) by decide +kernel) rfl (Led.gr h (by omega)) rfl ?_
    refine am_Rq.blk (is := [(.iadd, 1)]) (q := (29, [some (.ref b), some (.int (nI (sp_sm (fun g => t (83 + 7 * g + 1)) i))), some (.int (nI i))], [.int ((nI (sp_sm (fun g => t (83 + 7 * g + 1)) i)) + (nI (t (83 + 7 * i + 1))))])) (by decide +kernel) rfl ?_
    dsimp only
    rw [show (nI (sp_sm (fun g => t (83 + 7 * g + 1)) i)) + (nI (t (83 + 7 * i + 1))) = nI ((sp_sm (fun g => t (83 + 7 * g + 1)) i) + (t (83 + 7 * i + 1))) from nI_add _ _]
    refine am_Rq.blk (is := [(.istore_n 1, 1), (.iinc 2 1, 3)]) (q := (33, [some (.ref b), some (.int (nI ((sp_sm (fun g => t (83 + 7 * g + 1)) i) + (t (83 + 7 * i + 1))))), some (.int ((nI i) + (nI 1)))], [])) (by decide +kernel) rfl ?_
    dsimp only
    rw [show (nI i) + (nI 1) = nI (i + 1) from nI_add _ _]
    refine am_Rq.blk (is := [(.goto (-29), 3)]) (q := (4, [some (.ref b), some (.int (nI ((sp_sm (fun g => t (83 + 7 * g + 1)) i) + (t (83 + 7 * i + 1))))), some (.int (nI (i + 1)))], [])) (by decide +kernel) rfl ?_
    dsimp only
    exact ih _ _ ⟨rfl, rfl⟩
  · rintro lo hp ⟨rfl, rfl⟩
    refine am_Rq.blk (is := [(.iload_n 2, 1), (.aload_n 0, 1)]) (q := (6, [some (.ref b), some (.int (nI (sp_sm (fun g => t (83 + 7 * g + 1)) (t 82)))), some (.int (nI (t 82)))], [.ref b, .int (nI (t 82))])) (by decide +kernel) rfl ?_
    dsimp only
    refine am_Rq.getf (v := .int (nI (t 82))) (show decode (am_by 9) 6 = .ok (.getfield 36, 3) by decide +kernel) rfl (Led.lg h) rfl ?_
    refine am_Rq.if2T (t := 36) (show decode (am_by 9) 9 = .ok (.if_icmp .ge 27, 3) by decide +kernel) (by decide) (by rw [nm_ge (by omega) (by omega)]; exact decide_eq_true (by omega)) ?_
    refine am_Rq.blk (is := [(.iload_n 1, 1)]) (q := (37, [some (.ref b), some (.int (nI (sp_sm (fun g => t (83 + 7 * g + 1)) (t 82)))), some (.int (nI (t 82)))], [.int (nI (sp_sm (fun g => t (83 + 7 * g + 1)) (t 82)))])) (by decide +kernel) rfl ?_
    dsimp only
    refine am_Rq.ret (v := some (.int (nI (sp_sm (fun g => t (83 + 7 * g + 1)) (t 82))))) (show decode (am_by 9) 37 = .ok (.ireturn, 1) by decide +kernel) rfl rfl ?_
    exact ⟨_, rfl, rfl, rfl⟩
theorem c_guards {b K : Nat} {t : Nat → Nat} (h : Led hp b t) (ok : c_ok K t) (hK : K ≤ 1000) {ic n p : Nat} (hic : ic < 5) (hn0 : 0 < n) (hn : n ≤ 1000) (hp0 : p ≤ 1000) : am_Rq (d + 2) 26 0 (am_en [.ref b, .int (nI ic), .int (nI n), .int (nI p)] 6) [] hp (am_Ret fun hp1 v => v = none ∧ Led hp1 b (c_ag t ic n p 5) ∧ am_fr (c_in b) hp hp1) := by
  show am_Rq _ 26 0 [some (.ref b), some (.int (nI ic)), some (.int (nI n)), some (.int (nI p)), none, none] [] _ _
  refine am_Rq.blk (is := [(.aload_n 0, 1)]) (q := (1, [some (.ref b), some (.int (nI ic)), some (.int (nI n)), some (.int (nI p)), none, none], [.ref b])) (by decide +kernel) rfl ?_
  dsimp only
  refine am_Rq.callV (show decode (am_by 26) 1 = .ok (.invokevirtual 52, 3) by decide +kernel) rfl [] [] rfl rfl (Nat.le_of_ble_eq_true rfl) rfl (Led.lg h) rfl (c_allIc h ok hK) ?_
  rintro hq _ ⟨e1, rfl⟩
  rw [e1]
  clear e1 hq
  show am_Rq _ 26 4 [some (.ref b), some (.int (nI ic)), some (.int (nI n)), some (.int (nI p)), none, none] [.int (nI (sp_sm (c_ic t) 5))] _ _
  refine am_Rq.blk (is := [(.istore 4, 2), (.iconst 1, 1), (.istore 5, 2)]) (q := (9, [some (.ref b), some (.int (nI ic)), some (.int (nI n)), some (.int (nI p)), some (.int (nI (sp_sm (c_ic t) 5))), some (.int (nI 1))], [])) (by decide +kernel) rfl ?_
  dsimp only
  have hB := ok.b hK
  have hall : sp_sm (c_ic t) 5 ≤ 100000000 := by
    simp only [sp_sm]
    have h0 := c_ic_le ok (c := 0) (by omega)
    have h1 := c_ic_le ok (c := 1) (by omega)
    have h2 := c_ic_le ok (c := 2) (by omega)
    have h3 := c_ic_le ok (c := 3) (by omega)
    have h4 := c_ic_le ok (c := 4) (by omega)
    omega
  have key : ∀ hz, hz = hp → am_Rq (d + 2) 26 9 [some (.ref b), some (.int (nI ic)), some (.int (nI n)), some (.int (nI p)), some (.int (nI (sp_sm (c_ic t) 5))), some (.int (nI 1))] [] hz (am_Ret fun hp1 v => v = none ∧ Led hp1 b (c_ag t ic n p 5) ∧ am_fr (c_in b) hp hp1) := ?_
  · exact key hp rfl
  intro hz hze
  subst hze
  refine am_for (n := 5) (fun i lo hp => lo = [some (.ref b), some (.int (nI ic)), some (.int (nI n)), some (.int (nI p)), some (.int (nI (sp_sm (c_ic t) 5))), some (.int (nI i))] ∧ Led hp b (c_ag t ic n p i) ∧ 1 ≤ i ∧ am_fr (c_in b) hz hp) ?_ ?_ (i := 1) (by omega) ⟨rfl, h.congr (fun q _ => by unfold c_ag; rw [if_neg (by omega)]), by omega, am_fr.rf⟩
  · rintro i lo hp hi ⟨rfl, h, h1, hf0⟩ ih
    refine am_Rq.blk (is := [(.iload 5, 2), (.iconst 5, 1)]) (q := (12, [some (.ref b), some (.int (nI ic)), some (.int (nI n)), some (.int (nI p)), some (.int (nI (sp_sm (c_ic t) 5))), some (.int (nI i))], [.int (nI 5), .int (nI i)])) (by decide +kernel) rfl ?_
    dsimp only
    refine am_Rq.if2F (show decode (am_by 26) 12 = .ok (.if_icmp .ge 29, 3) by decide +kernel) (by decide) (by rw [nm_ge (by omega) (by omega)]; exact decide_eq_false (by omega)) ?_
    refine am_Rq.blk (is := [(.iload 5, 2), (.iload_n 1, 1)]) (q := (18, [some (.ref b), some (.int (nI ic)), some (.int (nI n)), some (.int (nI p)), some (.int (nI (sp_sm (c_ic t) 5))), some (.int (nI i))], [.int (nI ic), .int (nI i)])) (by decide +kernel) rfl ?_
    dsimp only
    refine am_Rq.if2 (t := 35) (show decode (am_by 26) 18 = .ok (.if_icmp .eq 17, 3) by decide +kernel) (by decide) (fun he => ?_) (fun he => ?_)
    ·
      rw [nm_eq (by omega) (by omega)] at he
      have he := of_decide_eq_true he
      refine am_Rq.blk (is := [(.iinc 5 1, 3)]) (q := (38, [some (.ref b), some (.int (nI ic)), some (.int (nI n)), some (.int (nI p)), some (.int (nI (sp_sm (c_ic t) 5))), some (.int ((nI i) + (nI 1)))], [])) (by decide +kernel) rfl ?_
      dsimp only
      rw [show (nI i) + (nI 1) = nI (i + 1) from nI_add _ _]
      refine am_Rq.blk (is := [(.goto (-29), 3)]) (q := (9, [some (.ref b), some (.int (nI ic)), some (.int (nI n)), some (.int (nI p)), some (.int (nI (sp_sm (c_ic t) 5))), some (.int (nI (i + 1)))], [])) (by decide +kernel) rfl ?_
      dsimp only
      exact ih _ _ ⟨rfl, h.congr (fun q _ => by rw [show i = ic by omega]; exact (c_ag_skip q).symm), by omega, hf0⟩
    ·
      rw [nm_eq (by omega) (by omega)] at he
      have he := of_decide_eq_false he
      refine am_Rq.blk (is := [(.aload_n 0, 1)]) (q := (22, [some (.ref b), some (.int (nI ic)), some (.int (nI n)), some (.int (nI p)), some (.int (nI (sp_sm (c_ic t) 5))), some (.int (nI i))], [.ref b])) (by decide +kernel) rfl ?_
      dsimp only
      refine am_Rq.getf (v := .ref (b + 1)) (show decode (am_by 26) 22 = .ok (.getfield 11, 3) by decide +kernel) rfl (Led.lg h) rfl ?_
      refine am_Rq.blk (is := [(.iload 5, 2)]) (q := (27, [some (.ref b), some (.int (nI ic)), some (.int (nI n)), some (.int (nI p)), some (.int (nI (sp_sm (c_ic t) 5))), some (.int (nI i))], [.int (nI i), .ref (b + 1)])) (by decide +kernel) rfl ?_
      dsimp only
      refine am_Rq.ral (k := i) (show decode (am_by 26) 27 = .ok (.aaload, 1) by decide +kernel) (Led.ca h) rfl (by omega) (by omega) ?_
      refine am_Rq.blk (is := [(.iload_n 2, 1), (.iload_n 3, 1), (.iload 4, 2)]) (q := (32, [some (.ref b), some (.int (nI ic)), some (.int (nI n)), some (.int (nI p)), some (.int (nI (sp_sm (c_ic t) 5))), some (.int (nI i))], [.int (nI (sp_sm (c_ic t) 5)), .int (nI p), .int (nI n), .ref (b + 2 + 2 * i)])) (by decide +kernel) rfl ?_
      dsimp only
      obtain ⟨a0, a1, a2, a3, a4, a5, a6, a7, a8, a9, -⟩ := ok.1 i hi
      have e5 := c_ag_row (t := t) (ic := ic) (n := n) (p := p) (Nat.le_refl i) (show 5 < 8 by omega)
      have e6 := c_ag_row (t := t) (ic := ic) (n := n) (p := p) (Nat.le_refl i) (show 6 < 8 by omega)
      have e7 := c_ag_row (t := t) (ic := ic) (n := n) (p := p) (Nat.le_refl i) (show 7 < 8 by omega)
      have hB2 : ∀ q, q < 154 → c_ag t ic n p i q < 2 ^ 31 := fun q hq => by
        have := hB q hq
        unfold c_ag
        split
        · exact Nat.lt_of_le_of_lt (g_p_le hn0) this
        · exact this
      refine am_Rq.callV (show decode (am_by 26) 32 = .ok (.invokevirtual 56, 3) by decide +kernel) rfl [.int (nI n), .int (nI p), .int (nI (sp_sm (c_ic t) 5))] [] rfl rfl (Nat.le_of_ble_eq_true rfl) rfl (Led.sc h (by omega)) rfl (c_guard h hi hB2 (by omega) hn0 (by omega) (by omega) (by rw [e5]; exact a6) (by rw [e6]; have z1 := Nat.mul_le_mul (show t (8 * i + 6) ≤ 1000000 by omega) hall; have z2 := Nat.mul_le_mul (show 1000 * p ≤ 1000000 by omega) hn; omega)) ?_
      rintro hp1 _ ⟨rfl, hL1, hf1⟩
      show am_Rq _ 26 35 [some (.ref b), some (.int (nI ic)), some (.int (nI n)), some (.int (nI p)), some (.int (nI (sp_sm (c_ic t) 5))), some (.int (nI i))] [] _ _
      refine am_Rq.blk (is := [(.iinc 5 1, 3)]) (q := (38, [some (.ref b), some (.int (nI ic)), some (.int (nI n)), some (.int (nI p)), some (.int (nI (sp_sm (c_ic t) 5))), some (.int ((nI i) + (nI 1)))], [])) (by decide +kernel) rfl ?_
      dsimp only
      rw [show (nI i) + (nI 1) = nI (i + 1) from nI_add _ _]
      refine am_Rq.blk (is := [(.goto (-29), 3)]) (q := (9, [some (.ref b), some (.int (nI ic)), some (.int (nI n)), some (.int (nI p)), some (.int (nI (sp_sm (c_ic t) 5))), some (.int (nI (i + 1)))], [])) (by decide +kernel) rfl ?_
      dsimp only
      rw [e5, e6, e7] at hL1
      exact ih _ _ ⟨rfl, hL1.congr (fun q _ => (c_ag_step h1 hi (by omega) q).symm), by omega, (hf0.trans hf1)⟩
  · rintro lo hp ⟨rfl, h, h1, hf0⟩
    refine am_Rq.blk (is := [(.iload 5, 2), (.iconst 5, 1)]) (q := (12, [some (.ref b), some (.int (nI ic)), some (.int (nI n)), some (.int (nI p)), some (.int (nI (sp_sm (c_ic t) 5))), some (.int (nI 5))], [.int (nI 5), .int (nI 5)])) (by decide +kernel) rfl ?_
    dsimp only
    refine am_Rq.if2T (t := 41) (show decode (am_by 26) 12 = .ok (.if_icmp .ge 29, 3) by decide +kernel) (by decide) (by rw [nm_ge (by omega) (by omega)]; exact decide_eq_true (by omega)) ?_
    refine am_Rq.ret (v := none) (show decode (am_by 26) 41 = .ok (.return_, 1) by decide +kernel) rfl rfl ?_
    exact ⟨_, rfl, rfl, h, hf0⟩
theorem c_endGr {b K : Nat} {t : Nat → Nat} (h : Led hp b t) (ok : c_ok K t) (hK : K ≤ 1000) {hr : Nat} (hh : hr < 8) : am_Rq (d + 2) 44 0 (am_en [.ref b, .int (nI hr)] 4) [] hp (am_Ret fun hp1 v => v = some (.int (nI (sp_sm (fun g => if t (83 + 7 * g) = hr ∧ c_vg t g < t (83 + 7 * g + 1) then 1 else 0) (t 82)))) ∧ Led hp1 b (c_eg t hr (t 82)) ∧ am_fr (c_in b) hp hp1) := by
  show am_Rq _ 44 0 [some (.ref b), some (.int (nI hr)), none, none] [] _ _
  refine am_Rq.blk (is := [(.iconst 0, 1), (.istore_n 2, 1), (.iconst 0, 1), (.istore_n 3, 1)]) (q := (4, [some (.ref b), some (.int (nI hr)), some (.int (nI 0)), some (.int (nI 0))], [])) (by decide +kernel) rfl ?_
  dsimp only
  have hB := ok.b hK
  have h82 := ok.2.2.2.2.1
  have key : ∀ hz, hz = hp → am_Rq (d + 2) 44 4 [some (.ref b), some (.int (nI hr)), some (.int (nI 0)), some (.int (nI 0))] [] hz (am_Ret fun hp1 v => v = some (.int (nI (sp_sm (fun g => if t (83 + 7 * g) = hr ∧ c_vg t g < t (83 + 7 * g + 1) then 1 else 0) (t 82)))) ∧ Led hp1 b (c_eg t hr (t 82)) ∧ am_fr (c_in b) hp hp1) := ?_
  · exact key hp rfl
  intro hz hze
  subst hze
  refine am_for (n := (t 82)) (fun i lo hp => lo = [some (.ref b), some (.int (nI hr)), some (.int (nI (sp_sm (fun g => if t (83 + 7 * g) = hr ∧ c_vg t g < t (83 + 7 * g + 1) then 1 else 0) i))), some (.int (nI i))] ∧ Led hp b (c_eg t hr i) ∧ am_fr (c_in b) hz hp) ?_ ?_ (i := 0) (by omega) ⟨rfl, h.congr (fun q _ => by unfold c_eg; rw [if_neg (by omega)]), am_fr.rf⟩
  · rintro i lo hp hi ⟨rfl, h, hf0⟩ ih
    have e82 : c_eg t hr i 82 = t 82 := by unfold c_eg; rw [if_neg (by omega)]
    refine am_Rq.blk (is := [(.iload_n 3, 1), (.aload_n 0, 1)]) (q := (6, [some (.ref b), some (.int (nI hr)), some (.int (nI (sp_sm (fun g => if t (83 + 7 * g) = hr ∧ c_vg t g < t (83 + 7 * g + 1) then 1 else 0) i))), some (.int (nI i))], [.ref b, .int (nI i)])) (by decide +kernel) rfl ?_
    dsimp only
    refine am_Rq.getf (v := .int (nI ((c_eg t hr i) 82))) (show decode (am_by 44) 6 = .ok (.getfield 36, 3) by decide +kernel) rfl (Led.lg h) rfl ?_
    rw [e82]
    refine am_Rq.if2F (show decode (am_by 44) 9 = .ok (.if_icmp .ge 47, 3) by decide +kernel) (by decide) (by rw [nm_ge (by omega) (by omega)]; exact decide_eq_false (by omega)) ?_
    refine am_Rq.blk (is := [(.iload_n 3, 1), (.bipush 10, 2)]) (q := (15, [some (.ref b), some (.int (nI hr)), some (.int (nI (sp_sm (fun g => if t (83 + 7 * g) = hr ∧ c_vg t g < t (83 + 7 * g + 1) then 1 else 0) i))), some (.int (nI i))], [.int (nI 10), .int (nI i)])) (by decide +kernel) rfl ?_
    dsimp only
    refine am_Rq.if2F (show decode (am_by 44) 15 = .ok (.if_icmp .ge 41, 3) by decide +kernel) (by decide) (by rw [nm_ge (by omega) (by omega)]; exact decide_eq_false (by omega)) ?_
    refine am_Rq.blk (is := [(.aload_n 0, 1)]) (q := (19, [some (.ref b), some (.int (nI hr)), some (.int (nI (sp_sm (fun g => if t (83 + 7 * g) = hr ∧ c_vg t g < t (83 + 7 * g + 1) then 1 else 0) i))), some (.int (nI i))], [.ref b])) (by decide +kernel) rfl ?_
    dsimp only
    refine am_Rq.getf (v := .ref (b + 12)) (show decode (am_by 44) 19 = .ok (.getfield 20, 3) by decide +kernel) rfl (Led.lg h) rfl ?_
    refine am_Rq.blk (is := [(.iload_n 3, 1)]) (q := (23, [some (.ref b), some (.int (nI hr)), some (.int (nI (sp_sm (fun g => if t (83 + 7 * g) = hr ∧ c_vg t g < t (83 + 7 * g + 1) then 1 else 0) i))), some (.int (nI i))], [.int (nI i), .ref (b + 12)])) (by decide +kernel) rfl ?_
    dsimp only
    refine am_Rq.ral (k := i) (show decode (am_by 44) 23 = .ok (.aaload, 1) by decide +kernel) (Led.ga h) rfl (by omega) (by omega) ?_
    refine am_Rq.getf (v := .int (nI ((c_eg t hr i) (83 + 7 * i)))) (show decode (am_by 44) 24 = .ok (.getfield 63, 3) by decide +kernel) rfl (Led.gr h (by omega)) rfl ?_
    refine am_Rq.blk (is := [(.iload_n 1, 1)]) (q := (28, [some (.ref b), some (.int (nI hr)), some (.int (nI (sp_sm (fun g => if t (83 + 7 * g) = hr ∧ c_vg t g < t (83 + 7 * g + 1) then 1 else 0) i))), some (.int (nI i))], [.int (nI hr), .int (nI ((c_eg t hr i) (83 + 7 * i)))])) (by decide +kernel) rfl ?_
    dsimp only
    obtain ⟨g0, g1, g2, g3, g4, g5, g6⟩ := ok.2.1 i (by omega)
    have e0 : c_eg t hr i (83 + 7 * i) = t (83 + 7 * i) := c_eg_row (m := 0) (Nat.le_refl i) (by omega)
    have e1 : c_eg t hr i (83 + 7 * i + 1) = t (83 + 7 * i + 1) := c_eg_row (m := 1) (Nat.le_refl i) (by omega)
    have e2 : c_eg t hr i (83 + 7 * i + 2) = t (83 + 7 * i + 2) := c_eg_row (m := 2) (Nat.le_refl i) (by omega)
    have e3 : c_eg t hr i (83 + 7 * i + 3) = t (83 + 7 * i + 3) := c_eg_row (m := 3) (Nat.le_refl i) (by omega)
    have e4 : c_eg t hr i (83 + 7 * i + 4) = t (83 + 7 * i + 4) := c_eg_row (m := 4) (Nat.le_refl i) (by omega)
    have e5 : c_eg t hr i (83 + 7 * i + 5) = t (83 + 7 * i + 5) := c_eg_row (m := 5) (Nat.le_refl i) (by omega)
    have e6 : c_eg t hr i (83 + 7 * i + 6) = t (83 + 7 * i + 6) := c_eg_row (m := 6) (Nat.le_refl i) (by omega)
    rw [e0]
    refine am_Rq.if2 (t := 50) (show decode (am_by 44) 28 = .ok (.if_icmp .ne 22, 3) by decide +kernel) (by decide) (fun he => ?_) (fun he => ?_)
    ·
      rw [nm_ne (hB _ (by omega)) (by omega)] at he
      have he := of_decide_eq_true he
      refine am_Rq.blk (is := [(.iinc 3 1, 3)]) (q := (53, [some (.ref b), some (.int (nI hr)), some (.int (nI (sp_sm (fun g => if t (83 + 7 * g) = hr ∧ c_vg t g < t (83 + 7 * g + 1) then 1 else 0) i))), some (.int ((nI i) + (nI 1)))], [])) (by decide +kernel) rfl ?_
      dsimp only
      rw [show (nI i) + (nI 1) = nI (i + 1) from nI_add _ _]
      refine am_Rq.blk (is := [(.goto (-49), 3)]) (q := (4, [some (.ref b), some (.int (nI hr)), some (.int (nI (sp_sm (fun g => if t (83 + 7 * g) = hr ∧ c_vg t g < t (83 + 7 * g + 1) then 1 else 0) i))), some (.int (nI (i + 1)))], [])) (by decide +kernel) rfl ?_
      dsimp only
      refine ih _ _ ⟨?_, h.congr (fun q _ => (c_eg_no he q).symm), hf0⟩
      simp only [sp_sm]
      rw [if_neg (fun z => he z.1)]
      rfl
    ·
      rw [nm_ne (hB _ (by omega)) (by omega)] at he
      have he := of_decide_eq_false he
      refine am_Rq.blk (is := [(.aload_n 0, 1)]) (q := (32, [some (.ref b), some (.int (nI hr)), some (.int (nI (sp_sm (fun g => if t (83 + 7 * g) = hr ∧ c_vg t g < t (83 + 7 * g + 1) then 1 else 0) i))), some (.int (nI i))], [.ref b])) (by decide +kernel) rfl ?_
      dsimp only
      refine am_Rq.getf (v := .ref (b + 12)) (show decode (am_by 44) 32 = .ok (.getfield 20, 3) by decide +kernel) rfl (Led.lg h) rfl ?_
      refine am_Rq.blk (is := [(.iload_n 3, 1)]) (q := (36, [some (.ref b), some (.int (nI hr)), some (.int (nI (sp_sm (fun g => if t (83 + 7 * g) = hr ∧ c_vg t g < t (83 + 7 * g + 1) then 1 else 0) i))), some (.int (nI i))], [.int (nI i), .ref (b + 12)])) (by decide +kernel) rfl ?_
      dsimp only
      refine am_Rq.ral (k := i) (show decode (am_by 44) 36 = .ok (.aaload, 1) by decide +kernel) (Led.ga h) rfl (by omega) (by omega) ?_
      refine am_Rq.blk (is := [(.aload_n 0, 1)]) (q := (38, [some (.ref b), some (.int (nI hr)), some (.int (nI (sp_sm (fun g => if t (83 + 7 * g) = hr ∧ c_vg t g < t (83 + 7 * g + 1) then 1 else 0) i))), some (.int (nI i))], [.ref b, .ref (b + 13 + 1 * i)])) (by decide +kernel) rfl ?_
      dsimp only
      refine am_Rq.getf (v := .int (nI ((c_eg t hr i) 81))) (show decode (am_by 44) 38 = .ok (.getfield 42, 3) by decide +kernel) rfl (Led.lg h) rfl ?_
      have e81 : c_eg t hr i 81 = t 81 := by unfold c_eg; rw [if_neg (by omega)]
      rw [e81]
      have hB2 : ∀ q, q < 154 → c_eg t hr i q < 2 ^ 31 := fun q hq => by
        have hq0 := hB q hq
        unfold c_eg
        split
        · rename_i z
          split
          · have y1 := g_v_le (t (83 + 7 * ((q - 83) / 7) + 1)) (t (83 + 7 * ((q - 83) / 7) + 2)) (t (83 + 7 * ((q - 83) / 7) + 3)) (t (83 + 7 * ((q - 83) / 7) + 5)) (t 81 - t (83 + 7 * ((q - 83) / 7) + 4))
            have y2 := hB (83 + 7 * ((q - 83) / 7) + 1) (by omega)
            unfold c_vg
            omega
          · split
            · decide
            · exact hq0
        · exact hq0
      have hV := g_v_le (t (83 + 7 * i + 1)) (t (83 + 7 * i + 2)) (t (83 + 7 * i + 3)) (t (83 + 7 * i + 5)) (t 81 - t (83 + 7 * i + 4))
      refine am_Rq.callV (show decode (am_by 44) 41 = .ok (.invokevirtual 66, 3) by decide +kernel) rfl [.int (nI (t 81))] [] rfl rfl (Nat.le_of_ble_eq_true rfl) rfl (Led.gr h (by omega)) rfl (c_endIn h (by omega) hB2 (hB 81 (by omega)) (by rw [e4]; exact g4) (by rw [e1]; exact g1) (by rw [e3]; exact g3) (by rw [e1, e2, e3, e5, e4]; omega)) ?_
      rintro hp9 _ ⟨rfl, hL9, hf9⟩
      rw [e1, e2, e3, e5, e4] at hL9
      rw [e1, e2, e3, e5, e4]
      have hL8 : Led hp9 b (c_eg t hr (i + 1)) := hL9.congr (fun q _ => (c_eg_yes (by omega) q).symm)
      show am_Rq _ 44 44 [some (.ref b), some (.int (nI hr)), some (.int (nI (sp_sm (fun g => if t (83 + 7 * g) = hr ∧ c_vg t g < t (83 + 7 * g + 1) then 1 else 0) i))), some (.int (nI i))] [.int (nI (am_b (decide (c_vg t i < t (83 + 7 * i + 1)))))] _ _
      refine am_Rq.if1 (t := 50) (show decode (am_by 44) 44 = .ok (.ifCond .eq 6, 3) by decide +kernel) (by decide) (fun hv => ?_) (fun hv => ?_)
      ·
        rw [am_b_eq] at hv
        refine am_Rq.blk (is := [(.iinc 3 1, 3)]) (q := (53, [some (.ref b), some (.int (nI hr)), some (.int (nI (sp_sm (fun g => if t (83 + 7 * g) = hr ∧ c_vg t g < t (83 + 7 * g + 1) then 1 else 0) i))), some (.int ((nI i) + (nI 1)))], [])) (by decide +kernel) rfl ?_
        dsimp only
        rw [show (nI i) + (nI 1) = nI (i + 1) from nI_add _ _]
        refine am_Rq.blk (is := [(.goto (-49), 3)]) (q := (4, [some (.ref b), some (.int (nI hr)), some (.int (nI (sp_sm (fun g => if t (83 + 7 * g) = hr ∧ c_vg t g < t (83 + 7 * g + 1) then 1 else 0) i))), some (.int (nI (i + 1)))], [])) (by decide +kernel) rfl ?_
        dsimp only
        refine ih _ _ ⟨?_, hL8, (hf0.trans hf9)⟩
        simp only [sp_sm]
        rw [if_neg (fun z => by rw [decide_eq_true z.2] at hv; cases hv)]
        rfl
      ·
        rw [am_b_eq] at hv
        refine am_Rq.blk (is := [(.iinc 2 1, 3)]) (q := (50, [some (.ref b), some (.int (nI hr)), some (.int ((nI (sp_sm (fun g => if t (83 + 7 * g) = hr ∧ c_vg t g < t (83 + 7 * g + 1) then 1 else 0) i)) + (nI 1))), some (.int (nI i))], [])) (by decide +kernel) rfl ?_
        dsimp only
        rw [show (nI (sp_sm (fun g => if t (83 + 7 * g) = hr ∧ c_vg t g < t (83 + 7 * g + 1) then 1 else 0) i)) + (nI 1) = nI ((sp_sm (fun g => if t (83 + 7 * g) = hr ∧ c_vg t g < t (83 + 7 * g + 1) then 1 else 0) i) + 1) from nI_add _ _]
        refine am_Rq.blk (is := [(.iinc 3 1, 3)]) (q := (53, [some (.ref b), some (.int (nI hr)), some (.int (nI ((sp_sm (fun g => if t (83 + 7 * g) = hr ∧ c_vg t g < t (83 + 7 * g + 1) then 1 else 0) i) + 1))), some (.int ((nI i) + (nI 1)))], [])) (by decide +kernel) rfl ?_
        dsimp only
        rw [show (nI i) + (nI 1) = nI (i + 1) from nI_add _ _]
        refine am_Rq.blk (is := [(.goto (-49), 3)]) (q := (4, [some (.ref b), some (.int (nI hr)), some (.int (nI ((sp_sm (fun g => if t (83 + 7 * g) = hr ∧ c_vg t g < t (83 + 7 * g + 1) then 1 else 0) i) + 1))), some (.int (nI (i + 1)))], [])) (by decide +kernel) rfl ?_
        dsimp only
        refine ih _ _ ⟨?_, hL8, (hf0.trans hf9)⟩
        simp only [sp_sm]
        rw [if_pos ⟨by omega, by cases hq : decide (c_vg t i < t (83 + 7 * i + 1)) <;> rw [hq] at hv; cases hv; exact of_decide_eq_true hq⟩]
  · rintro lo hp ⟨rfl, h, hf0⟩
    have e82 : c_eg t hr (t 82) 82 = t 82 := by unfold c_eg; rw [if_neg (by omega)]
    refine am_Rq.blk (is := [(.iload_n 3, 1), (.aload_n 0, 1)]) (q := (6, [some (.ref b), some (.int (nI hr)), some (.int (nI (sp_sm (fun g => if t (83 + 7 * g) = hr ∧ c_vg t g < t (83 + 7 * g + 1) then 1 else 0) (t 82)))), some (.int (nI (t 82)))], [.ref b, .int (nI (t 82))])) (by decide +kernel) rfl ?_
    dsimp only
    refine am_Rq.getf (v := .int (nI ((c_eg t hr (t 82)) 82))) (show decode (am_by 44) 6 = .ok (.getfield 36, 3) by decide +kernel) rfl (Led.lg h) rfl ?_
    rw [e82]
    refine am_Rq.if2T (t := 56) (show decode (am_by 44) 9 = .ok (.if_icmp .ge 47, 3) by decide +kernel) (by decide) (by rw [nm_ge (by omega) (by omega)]; exact decide_eq_true (by omega)) ?_
    refine am_Rq.blk (is := [(.iload_n 2, 1)]) (q := (57, [some (.ref b), some (.int (nI hr)), some (.int (nI (sp_sm (fun g => if t (83 + 7 * g) = hr ∧ c_vg t g < t (83 + 7 * g + 1) then 1 else 0) (t 82)))), some (.int (nI (t 82)))], [.int (nI (sp_sm (fun g => if t (83 + 7 * g) = hr ∧ c_vg t g < t (83 + 7 * g + 1) then 1 else 0) (t 82)))])) (by decide +kernel) rfl ?_
    dsimp only
    refine am_Rq.ret (v := some (.int (nI (sp_sm (fun g => if t (83 + 7 * g) = hr ∧ c_vg t g < t (83 + 7 * g + 1) then 1 else 0) (t 82))))) (show decode (am_by 44) 57 = .ok (.ireturn, 1) by decide +kernel) rfl rfl ?_
    exact ⟨_, rfl, rfl, h, hf0⟩
theorem c_canConvert {b K : Nat} {t : Nat → Nat} (h : Led hp b t) (ok : c_ok K t) (hK : K ≤ 1000) (x : Int32) : am_Rq (d + 1) 63 0 (am_en [.ref b, .int x] 3) [] hp (am_Ret fun hp1 v => hp1 = hp ∧ v = some (.int (nI (am_b (decide (0 ≤ x) && (decide (x ≤ nI 15) && c_cv t x.toNatClampNeg 5)))))) := by
  show am_Rq _ 63 0 [some (.ref b), some (.int x), none] [] _ _
  refine am_Rq.blk (is := [(.iload_n 1, 1), (.iconst 0, 1), (.bipush 15, 2)]) (q := (4, [some (.ref b), some (.int x), none], [.int (nI 15), .int (nI 0), .int x])) (by decide +kernel) rfl ?_
  dsimp only
  refine am_Rq.callS (show decode (am_by 63) 4 = .ok (.invokestatic 70, 3) by decide +kernel) rfl [.int x, .int (nI 0), .int (nI 15)] [] rfl rfl (Nat.le_of_ble_eq_true rfl) rfl rfl (c_within x (nI 0) (nI 15)) ?_
  rintro hq _ ⟨e1, rfl⟩
  rw [e1]
  clear e1 hq
  show am_Rq _ 63 7 [some (.ref b), some (.int x), none] [.int (nI (am_b (decide (nI 0 ≤ x) && decide (x ≤ nI 15))))] _ _
  refine am_Rq.if1 (t := 12) (show decode (am_by 63) 7 = .ok (.ifCond .ne 5, 3) by decide +kernel) (by decide) (fun h1 => ?_) (fun h1 => ?_)
  ·
    rw [am_b_ne] at h1
    refine am_Rq.blk (is := [(.iconst 1, 1), (.istore_n 2, 1)]) (q := (14, [some (.ref b), some (.int x), some (.int (nI 1))], [])) (by decide +kernel) rfl ?_
    dsimp only
    obtain ⟨s, -, hs, rfl⟩ := nm_in h1 (by decide) (by decide)
    have hB := ok.b hK
    have hres : (decide ((0 : Int32) ≤ nI s) && (decide (nI s ≤ nI 15) && c_cv t (nI s).toNatClampNeg 5)) = c_cv t s 5 := by
      rw [← Bool.and_assoc, show (decide ((0 : Int32) ≤ nI s) && decide (nI s ≤ nI 15)) = true from h1, Bool.true_and, nI_clamp (by omega)]
    rw [hres]
    have key : ∀ hz, hz = hp → am_Rq (d + 1) 63 14 [some (.ref b), some (.int (nI s)), some (.int (nI 1))] [] hz (am_Ret fun hp1 v => hp1 = hp ∧ v = some (.int (nI (am_b (c_cv t s 5))))) := ?_
    · exact key hp rfl
    intro hz hze
    subst hze
    refine am_for (n := 5) (fun i lo hp => lo = [some (.ref b), some (.int (nI s)), some (.int (nI i))] ∧ hp = hz ∧ 1 ≤ i ∧ c_cv t s i = true) ?_ ?_ (i := 1) (by omega) ⟨rfl, rfl, by omega, by unfold c_cv; simp⟩
    · rintro i lo hp hi ⟨rfl, rfl, h9, hcv⟩ ih
      refine am_Rq.blk (is := [(.iload_n 2, 1), (.iconst 5, 1)]) (q := (16, [some (.ref b), some (.int (nI s)), some (.int (nI i))], [.int (nI 5), .int (nI i)])) (by decide +kernel) rfl ?_
      dsimp only
      refine am_Rq.if2F (show decode (am_by 63) 16 = .ok (.if_icmp .ge 31, 3) by decide +kernel) (by decide) (by rw [nm_ge (by omega) (by omega)]; exact decide_eq_false (by omega)) ?_
      refine am_Rq.blk (is := [(.iload_n 1, 1), (.iload_n 2, 1)]) (q := (21, [some (.ref b), some (.int (nI s)), some (.int (nI i))], [.int (nI i), .int (nI s)])) (by decide +kernel) rfl ?_
      dsimp only
      refine am_Rq.callS (show decode (am_by 63) 21 = .ok (.invokestatic 74, 3) by decide +kernel) rfl [.int (nI s), .int (nI i)] [] rfl rfl (Nat.le_of_ble_eq_true rfl) rfl rfl (c_contains (by omega) hi h9) ?_
      rintro hq _ ⟨e1, rfl⟩
      rw [e1]
      clear e1 hq
      show am_Rq _ 63 24 [some (.ref b), some (.int (nI s)), some (.int (nI i))] [.int (nI (am_b (Nat.testBit s (i - 1))))] _ _
      refine am_Rq.if1 (t := 41) (show decode (am_by 63) 24 = .ok (.ifCond .eq 17, 3) by decide +kernel) (by decide) (fun h2 => ?_) (fun h2 => ?_)
      ·
        rw [am_b_eq] at h2
        refine am_Rq.blk (is := [(.iinc 2 1, 3)]) (q := (44, [some (.ref b), some (.int (nI s)), some (.int ((nI i) + (nI 1)))], [])) (by decide +kernel) rfl ?_
        dsimp only
        rw [show (nI i) + (nI 1) = nI (i + 1) from nI_add _ _]
        refine am_Rq.blk (is := [(.goto (-30), 3)]) (q := (14, [some (.ref b), some (.int (nI s)), some (.int (nI (i + 1)))], [])) (by decide +kernel) rfl ?_
        dsimp only
        exact ih _ _ ⟨rfl, rfl, by omega, by rw [c_cv_succ, hcv]; cases hb : Nat.testBit s (i - 1) <;> rw [hb] at h2 <;> first | rfl | cases h2⟩
      ·
        rw [am_b_eq] at h2
        refine am_Rq.blk (is := [(.aload_n 0, 1)]) (q := (28, [some (.ref b), some (.int (nI s)), some (.int (nI i))], [.ref b])) (by decide +kernel) rfl ?_
        dsimp only
        refine am_Rq.getf (v := .ref (b + 1)) (show decode (am_by 63) 28 = .ok (.getfield 11, 3) by decide +kernel) rfl (Led.lg h) rfl ?_
        refine am_Rq.blk (is := [(.iload_n 2, 1)]) (q := (32, [some (.ref b), some (.int (nI s)), some (.int (nI i))], [.int (nI i), .ref (b + 1)])) (by decide +kernel) rfl ?_
        dsimp only
        refine am_Rq.ral (k := i) (show decode (am_by 63) 32 = .ok (.aaload, 1) by decide +kernel) (Led.ca h) rfl (by omega) (by omega) ?_
        refine am_Rq.getf (v := .int (nI (t (8 * i + 7)))) (show decode (am_by 63) 33 = .ok (.getfield 45, 3) by decide +kernel) rfl (Led.sc h (by omega)) rfl ?_
        refine am_Rq.if1 (t := 41) (show decode (am_by 63) 36 = .ok (.ifCond .ne 5, 3) by decide +kernel) (by decide) (fun h3 => ?_) (fun h3 => ?_)
        ·
          rw [nm_ne0 (hB _ (by omega))] at h3
          have h3 := of_decide_eq_true h3
          refine am_Rq.blk (is := [(.iinc 2 1, 3)]) (q := (44, [some (.ref b), some (.int (nI s)), some (.int ((nI i) + (nI 1)))], [])) (by decide +kernel) rfl ?_
          dsimp only
          rw [show (nI i) + (nI 1) = nI (i + 1) from nI_add _ _]
          refine am_Rq.blk (is := [(.goto (-30), 3)]) (q := (14, [some (.ref b), some (.int (nI s)), some (.int (nI (i + 1)))], [])) (by decide +kernel) rfl ?_
          dsimp only
          exact ih _ _ ⟨rfl, rfl, by omega, by rw [c_cv_succ, hcv, decide_eq_false (show ¬ t (8 * i + 7) = 0 by omega), Bool.and_false, Bool.and_false]; rfl⟩
        ·
          rw [nm_ne0 (hB _ (by omega))] at h3
          have h3 := of_decide_eq_false h3
          refine am_Rq.blk (is := [(.iconst 0, 1)]) (q := (40, [some (.ref b), some (.int (nI s)), some (.int (nI i))], [.int (nI 0)])) (by decide +kernel) rfl ?_
          dsimp only
          refine am_Rq.ret (v := some (.int (nI 0))) (show decode (am_by 63) 40 = .ok (.ireturn, 1) by decide +kernel) rfl rfl ?_
          refine ⟨_, rfl, rfl, ?_⟩
          rw [c_cv_false (c := i) hi]
          · rfl
          · rw [decide_eq_true (show t (8 * i + 7) = 0 by omega), decide_eq_true h9]
            cases hb : Nat.testBit s (i - 1) <;> rw [hb] at h2 <;> first | rfl | cases h2
    · rintro lo hp ⟨rfl, rfl, h9, hcv⟩
      refine am_Rq.blk (is := [(.iload_n 2, 1), (.iconst 5, 1)]) (q := (16, [some (.ref b), some (.int (nI s)), some (.int (nI 5))], [.int (nI 5), .int (nI 5)])) (by decide +kernel) rfl ?_
      dsimp only
      refine am_Rq.if2T (t := 47) (show decode (am_by 63) 16 = .ok (.if_icmp .ge 31, 3) by decide +kernel) (by decide) (by rw [nm_ge (by omega) (by omega)]; exact decide_eq_true (by omega)) ?_
      refine am_Rq.blk (is := [(.iconst 1, 1)]) (q := (48, [some (.ref b), some (.int (nI s)), some (.int (nI 5))], [.int (nI 1)])) (by decide +kernel) rfl ?_
      dsimp only
      refine am_Rq.ret (v := some (.int (nI 1))) (show decode (am_by 63) 48 = .ok (.ireturn, 1) by decide +kernel) rfl rfl ?_
      exact ⟨_, rfl, rfl, by rw [hcv]; rfl⟩
  ·
    rw [am_b_ne] at h1
    refine am_Rq.blk (is := [(.iconst 0, 1)]) (q := (11, [some (.ref b), some (.int x), none], [.int (nI 0)])) (by decide +kernel) rfl ?_
    dsimp only
    refine am_Rq.ret (v := some (.int (nI 0))) (show decode (am_by 63) 11 = .ok (.ireturn, 1) by decide +kernel) rfl rfl ?_
    refine ⟨_, rfl, rfl, ?_⟩
    rw [← Bool.and_assoc, show (decide ((0 : Int32) ≤ x) && decide (x ≤ nI 15)) = false from h1]
    rfl
end C5
