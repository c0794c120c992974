/-! The class: the ledger (rows by prog/c4.py). -/
section C4
variable {d : Nat} {hp : am_H}
theorem c_ledCopy {b b2 : Nat} {t t2 : Nat → Nat} (h : Led hp b t) (h2 : Led hp b2 t2) (hdis : b + 23 ≤ b2 ∨ b2 + 23 ≤ b) (hE : ∀ g, g < 10 → t2 (83 + 7 * g + 5) ≤ 1) : am_Rq (d + 1) 17 0 (am_en [.ref b, .ref b2] 3) [] hp (am_Ret fun hp1 v => v = none ∧ Led hp1 b t2 ∧ am_fr (c_in b) hp hp1) := by
  show am_Rq _ 17 0 [some (.ref b), some (.ref b2), none] [] _ _
  refine am_Rq.blk (is := [(.iconst 0, 1), (.istore_n 2, 1)]) (q := (2, [some (.ref b), some (.ref b2), some (.int (nI 0))], [])) (by decide +kernel) rfl ?_
  dsimp only
  have hfr0 : am_fr (c_in b) hp hp := am_fr.rf
  have key : ∀ hz, hz = hp → am_Rq (d + 1) 17 2 [some (.ref b), some (.ref b2), some (.int (nI 0))] [] hz (am_Ret fun hp1 v => v = none ∧ Led hp1 b t2 ∧ am_fr (c_in b) hp hp1) := ?_
  · exact key hp rfl
  intro hz hze
  subst hze
  refine am_for (n := 5) (fun i lo hp => lo = [some (.ref b), some (.ref b2), some (.int (nI i))] ∧ (∃ t1, Led hp b t1 ∧ ∀ q, (q < 8 * i ∨ (40 ≤ q ∧ q < 40 + 8 * i)) → t1 q = t2 q) ∧ Led hp b2 t2 ∧ am_fr (c_in b) hz hp) ?_ ?_ (i := 0) (by omega) ⟨rfl, ⟨t, h, fun q hq => by omega⟩, h2, am_fr.rf⟩
  · rintro i lo hp hi ⟨rfl, ⟨t1, h, ht⟩, h2, hf0⟩ ih
    refine am_Rq.blk (is := [(.iload_n 2, 1), (.iconst 5, 1)]) (q := (4, [some (.ref b), some (.ref b2), some (.int (nI i))], [.int (nI 5), .int (nI i)])) (by decide +kernel) rfl ?_
    dsimp only
    refine am_Rq.if2F (show decode (am_by 17) 4 = .ok (.if_icmp .ge 24, 3) by decide +kernel) (by decide) (by rw [nm_ge (by omega) (by omega)]; exact decide_eq_false (by omega)) ?_
    refine am_Rq.blk (is := [(.aload_n 0, 1)]) (q := (8, [some (.ref b), some (.ref b2), some (.int (nI i))], [.ref b])) (by decide +kernel) rfl ?_
    dsimp only
    refine am_Rq.getf (v := .ref (b + 1)) (show decode (am_by 17) 8 = .ok (.getfield 11, 3) by decide +kernel) rfl (Led.lg h) rfl ?_
    refine am_Rq.blk (is := [(.iload_n 2, 1)]) (q := (12, [some (.ref b), some (.ref b2), some (.int (nI i))], [.int (nI i), .ref (b + 1)])) (by decide +kernel) rfl ?_
    dsimp only
    refine am_Rq.ral (k := i) (show decode (am_by 17) 12 = .ok (.aaload, 1) by decide +kernel) (Led.ca h) rfl (by omega) (by omega) ?_
    refine am_Rq.blk (is := [(.aload_n 1, 1)]) (q := (14, [some (.ref b), some (.ref b2), some (.int (nI i))], [.ref b2, .ref (b + 2 + 2 * i)])) (by decide +kernel) rfl ?_
    dsimp only
    refine am_Rq.getf (v := .ref (b2 + 1)) (show decode (am_by 17) 14 = .ok (.getfield 11, 3) by decide +kernel) rfl (Led.lg h2) rfl ?_
    refine am_Rq.blk (is := [(.iload_n 2, 1)]) (q := (18, [some (.ref b), some (.ref b2), some (.int (nI i))], [.int (nI i), .ref (b2 + 1), .ref (b + 2 + 2 * i)])) (by decide +kernel) rfl ?_
    dsimp only
    refine am_Rq.ral (k := i) (show decode (am_by 17) 18 = .ok (.aaload, 1) by decide +kernel) (Led.ca h2) rfl (by omega) (by omega) ?_
    refine am_Rq.callV (show decode (am_by 17) 19 = .ok (.invokevirtual 29, 3) by decide +kernel) rfl [.ref (b2 + 2 + 2 * i)] [] rfl rfl (Nat.le_of_ble_eq_true rfl) rfl (Led.sc h (by omega)) rfl (c_scCopy h (by omega) h2 hdis) ?_
    rintro hp1 _ ⟨rfl, hL1, hf1⟩
    have hL1y := Led.kept h2 (fun a ha => hf1.2.2 a (fun q => by obtain ⟨_, _⟩ := q; obtain ⟨_, _⟩ := ha; omega))
    show am_Rq _ 17 22 [some (.ref b), some (.ref b2), some (.int (nI i))] [] _ _
    refine am_Rq.blk (is := [(.iinc 2 1, 3)]) (q := (25, [some (.ref b), some (.ref b2), some (.int ((nI i) + (nI 1)))], [])) (by decide +kernel) rfl ?_
    dsimp only
    rw [show (nI i) + (nI 1) = nI (i + 1) from nI_add _ _]
    refine am_Rq.blk (is := [(.goto (-23), 3)]) (q := (2, [some (.ref b), some (.ref b2), some (.int (nI (i + 1)))], [])) (by decide +kernel) rfl ?_
    dsimp only
    exact ih _ _ ⟨rfl, ⟨_, hL1, fun q hq => by
      by_cases e : c_row i q = true
      · rw [c_mix_t e]
      · rw [c_mix_f e]
        rw [c_row_iff] at e
        exact ht q (by omega)⟩, hL1y, (hf0.trans hf1)⟩
  · rintro lo hp ⟨rfl, ⟨t1, h, ht⟩, h2, hf0⟩
    refine am_Rq.blk (is := [(.iload_n 2, 1), (.iconst 5, 1)]) (q := (4, [some (.ref b), some (.ref b2), some (.int (nI 5))], [.int (nI 5), .int (nI 5)])) (by decide +kernel) rfl ?_
    dsimp only
    refine am_Rq.if2T (t := 28) (show decode (am_by 17) 4 = .ok (.if_icmp .ge 24, 3) by decide +kernel) (by decide) (by rw [nm_ge (by omega) (by omega)]; exact decide_eq_true (by omega)) ?_
    refine am_Rq.blk (is := [(.iconst 0, 1), (.istore_n 2, 1)]) (q := (30, [some (.ref b), some (.ref b2), some (.int (nI 0))], [])) (by decide +kernel) rfl ?_
    dsimp only
    refine am_for (n := 10) (fun i lo hp => lo = [some (.ref b), some (.ref b2), some (.int (nI i))] ∧ (∃ t1, Led hp b t1 ∧ ∀ q, (q < 80 ∨ (83 ≤ q ∧ q < 83 + 7 * i)) → t1 q = t2 q) ∧ Led hp b2 t2 ∧ am_fr (c_in b) hz hp) ?_ ?_ (i := 0) (by omega) ⟨rfl, ⟨t1, h, fun q hq => ht q (by omega)⟩, h2, hf0⟩
    · rintro i lo hp hi ⟨rfl, ⟨t1, h, ht⟩, h2, hf0⟩ ih
      refine am_Rq.blk (is := [(.iload_n 2, 1), (.bipush 10, 2)]) (q := (33, [some (.ref b), some (.ref b2), some (.int (nI i))], [.int (nI 10), .int (nI i)])) (by decide +kernel) rfl ?_
      dsimp only
      refine am_Rq.if2F (show decode (am_by 17) 33 = .ok (.if_icmp .ge 24, 3) by decide +kernel) (by decide) (by rw [nm_ge (by omega) (by omega)]; exact decide_eq_false (by omega)) ?_
      refine am_Rq.blk (is := [(.aload_n 0, 1)]) (q := (37, [some (.ref b), some (.ref b2), some (.int (nI i))], [.ref b])) (by decide +kernel) rfl ?_
      dsimp only
      refine am_Rq.getf (v := .ref (b + 12)) (show decode (am_by 17) 37 = .ok (.getfield 20, 3) by decide +kernel) rfl (Led.lg h) rfl ?_
      refine am_Rq.blk (is := [(.iload_n 2, 1)]) (q := (41, [some (.ref b), some (.ref b2), some (.int (nI i))], [.int (nI i), .ref (b + 12)])) (by decide +kernel) rfl ?_
      dsimp only
      refine am_Rq.ral (k := i) (show decode (am_by 17) 41 = .ok (.aaload, 1) by decide +kernel) (Led.ga h) rfl (by omega) (by omega) ?_
      refine am_Rq.blk (is := [(.aload_n 1, 1)]) (q := (43, [some (.ref b), some (.ref b2), some (.int (nI i))], [.ref b2, .ref (b + 13 + 1 * i)])) (by decide +kernel) rfl ?_
      dsimp only
      refine am_Rq.getf (v := .ref (b2 + 12)) (show decode (am_by 17) 43 = .ok (.getfield 20, 3) by decide +kernel) rfl (Led.lg h2) rfl ?_
      refine am_Rq.blk (is := [(.iload_n 2, 1)]) (q := (47, [some (.ref b), some (.ref b2), some (.int (nI i))], [.int (nI i), .ref (b2 + 12), .ref (b + 13 + 1 * i)])) (by decide +kernel) rfl ?_
      dsimp only
      refine am_Rq.ral (k := i) (show decode (am_by 17) 47 = .ok (.aaload, 1) by decide +kernel) (Led.ga h2) rfl (by omega) (by omega) ?_
      refine am_Rq.callV (show decode (am_by 17) 48 = .ok (.invokevirtual 33, 3) by decide +kernel) rfl [.ref (b2 + 13 + 1 * i)] [] rfl rfl (Nat.le_of_ble_eq_true rfl) rfl (Led.gr h (by omega)) rfl (c_grCopy h (by omega) h2 hdis (hE i (by omega))) ?_
      rintro hp2 _ ⟨rfl, hL2, hf2⟩
      have hL2y := Led.kept h2 (fun a ha => hf2.2.2 a (fun q => by obtain ⟨_, _⟩ := q; obtain ⟨_, _⟩ := ha; omega))
      show am_Rq _ 17 51 [some (.ref b), some (.ref b2), some (.int (nI i))] [] _ _
      refine am_Rq.blk (is := [(.iinc 2 1, 3)]) (q := (54, [some (.ref b), some (.ref b2), some (.int ((nI i) + (nI 1)))], [])) (by decide +kernel) rfl ?_
      dsimp only
      rw [show (nI i) + (nI 1) = nI (i + 1) from nI_add _ _]
      refine am_Rq.blk (is := [(.goto (-24), 3)]) (q := (30, [some (.ref b), some (.ref b2), some (.int (nI (i + 1)))], [])) (by decide +kernel) rfl ?_
      dsimp only
      exact ih _ _ ⟨rfl, ⟨_, hL2, fun q hq => by
        by_cases e : c_grow i q = true
        · rw [c_mix_t e]
        · rw [c_mix_f e]
          rw [c_grow_iff] at e
          exact ht q (by omega)⟩, hL2y, (hf0.trans hf2)⟩
    · rintro lo hp ⟨rfl, ⟨t1, h, ht⟩, h2, hf0⟩
      refine am_Rq.blk (is := [(.iload_n 2, 1), (.bipush 10, 2)]) (q := (33, [some (.ref b), some (.ref b2), some (.int (nI 10))], [.int (nI 10), .int (nI 10)])) (by decide +kernel) rfl ?_
      dsimp only
      refine am_Rq.if2T (t := 57) (show decode (am_by 17) 33 = .ok (.if_icmp .ge 24, 3) by decide +kernel) (by decide) (by rw [nm_ge (by omega) (by omega)]; exact decide_eq_true (by omega)) ?_
      refine am_Rq.blk (is := [(.aload_n 0, 1), (.aload_n 1, 1)]) (q := (59, [some (.ref b), some (.ref b2), some (.int (nI 10))], [.ref b2, .ref b])) (by decide +kernel) rfl ?_
      dsimp only
      refine am_Rq.getf (v := .int (nI (t2 153))) (show decode (am_by 17) 59 = .ok (.getfield 25, 3) by decide +kernel) rfl (Led.lg h2) rfl ?_
      refine Led.pLg (k := 2) (p := 153) (v := t2 153) h (show decode (am_by 17) 62 = .ok (.putfield 25, 3) by decide +kernel) rfl (by decide) (by first | rfl | exact rfl) rfl ?_
      intro hp3 hL3 hf3
      have hL3y := Led.kept h2 (fun a ha => hf3.2.2 a (fun q => by obtain ⟨_, _⟩ := q; obtain ⟨_, _⟩ := ha; omega))
      refine am_Rq.blk (is := [(.aload_n 0, 1), (.aload_n 1, 1)]) (q := (67, [some (.ref b), some (.ref b2), some (.int (nI 10))], [.ref b2, .ref b])) (by decide +kernel) rfl ?_
      dsimp only
      refine am_Rq.getf (v := .int (nI (t2 82))) (show decode (am_by 17) 67 = .ok (.getfield 36, 3) by decide +kernel) rfl (Led.lg hL3y) rfl ?_
      refine Led.pLg (k := 3) (p := 82) (v := t2 82) hL3 (show decode (am_by 17) 70 = .ok (.putfield 36, 3) by decide +kernel) rfl (by decide) (by first | rfl | exact rfl) rfl ?_
      intro hp4 hL4 hf4
      have hL4y := Led.kept hL3y (fun a ha => hf4.2.2 a (fun q => by obtain ⟨_, _⟩ := q; obtain ⟨_, _⟩ := ha; omega))
      refine am_Rq.blk (is := [(.aload_n 0, 1), (.aload_n 1, 1)]) (q := (75, [some (.ref b), some (.ref b2), some (.int (nI 10))], [.ref b2, .ref b])) (by decide +kernel) rfl ?_
      dsimp only
      refine am_Rq.getf (v := .int (nI (t2 80))) (show decode (am_by 17) 75 = .ok (.getfield 39, 3) by decide +kernel) rfl (Led.lg hL4y) rfl ?_
      refine Led.pLg (k := 4) (p := 80) (v := t2 80) hL4 (show decode (am_by 17) 78 = .ok (.putfield 39, 3) by decide +kernel) rfl (by decide) (by first | rfl | exact rfl) rfl ?_
      intro hp5 hL5 hf5
      have hL5y := Led.kept hL4y (fun a ha => hf5.2.2 a (fun q => by obtain ⟨_, _⟩ := q; obtain ⟨_, _⟩ := ha; omega))
      refine am_Rq.blk (is := [(.aload_n 0, 1), (.aload_n 1, 1)]) (q := (83, [some (.ref b), some (.ref b2), some (.int (nI 10))], [.ref b2, .ref b])) (by decide +kernel) rfl ?_
      dsimp only
      refine am_Rq.getf (v := .int (nI (t2 81))) (show decode (am_by 17) 83 = .ok (.getfield 42, 3) by decide +kernel) rfl (Led.lg hL5y) rfl ?_
      refine Led.pLg (k := 5) (p := 81) (v := t2 81) hL5 (show decode (am_by 17) 86 = .ok (.putfield 42, 3) by decide +kernel) rfl (by decide) (by first | rfl | exact rfl) rfl ?_
      intro hp6 hL6 hf6
      have hL6y := Led.kept hL5y (fun a ha => hf6.2.2 a (fun q => by obtain ⟨_, _⟩ := q; obtain ⟨_, _⟩ := ha; omega))
      refine am_Rq.ret (v := none) (show decode (am_by 17) 89 = .ok (.return_, 1) by decide +kernel) rfl rfl ?_
      refine ⟨_, rfl, rfl, hL6.congr (fun i hi => ?_), ((((hf0.trans hf3).trans hf4).trans hf5).trans hf6)⟩
      unfold va_up
      repeat (split; (· subst_vars; rfl))
      exact ht i (by omega)
theorem c_allIc {b K : Nat} {t : Nat → Nat} (h : Led hp b t) (ok : c_ok K t) (hK : K ≤ 1000) : am_Rq (d + 1) 11 0 (am_en [.ref b] 3) [] hp (am_Ret fun hp1 v => hp1 = hp ∧ v = some (.int (nI (sp_sm (c_ic t) 5)))) := by
  show am_Rq _ 11 0 [some (.ref b), none, none] [] _ _
  refine am_Rq.blk (is := [(.iconst 0, 1), (.istore_n 1, 1), (.iconst 0, 1), (.istore_n 2, 1)]) (q := (4, [some (.ref b), some (.int (nI 0)), some (.int (nI 0))], [])) (by decide +kernel) rfl ?_
  dsimp only
  have hB := ok.b hK
  have key : ∀ hz, hz = hp → am_Rq (d + 1) 11 4 [some (.ref b), some (.int (nI 0)), some (.int (nI 0))] [] hz (am_Ret fun hp1 v => hp1 = hp ∧ v = some (.int (nI (sp_sm (c_ic t) 5)))) := ?_
  · exact key hp rfl
  intro hz hze
  subst hze
  refine am_for (n := 5) (fun i lo hp => lo = [some (.ref b), some (.int (nI (sp_sm (c_ic t) i))), some (.int (nI i))] ∧ hp = hz) ?_ ?_ (i := 0) (by omega) ⟨rfl, rfl⟩
  · rintro i lo hp hi ⟨rfl, rfl⟩ ih
    refine am_Rq.blk (is := [(.iload_n 2, 1), (.iconst 5, 1)]) (q := (6, [some (.ref b), some (.int (nI (sp_sm (c_ic t) i))), some (.int (nI i))], [.int (nI 5), .int (nI i)])) (by decide +kernel) rfl ?_
    dsimp only
    refine am_Rq.if2F (show decode (am_by 11) 6 = .ok (.if_icmp .ge 30, 3) by decide +kernel) (by decide) (by rw [nm_ge (by omega) (by omega)]; exact decide_eq_false (by omega)) ?_
    refine am_Rq.blk (is := [(.iload_n 1, 1), (.aload_n 0, 1)]) (q := (11, [some (.ref b), some (.int (nI (sp_sm (c_ic t) i))), some (.int (nI i))], [.ref b, .int (nI (sp_sm (c_ic t) i))])) (by decide +kernel) rfl ?_
    dsimp only
    refine am_Rq.getf (v := .ref (b + 1)) (show decode (am_by 11) 11 = .ok (.getfield 11, 3) by decide +kernel) rfl (Led.lg h) rfl ?_
    refine am_Rq.blk (is := [(.iload_n 2, 1)]) (q := (15, [some (.ref b), some (.int (nI (sp_sm (c_ic t) i))), some (.int (nI i))], [.int (nI i), .ref (b + 1), .int (nI (sp_sm (c_ic t) i))])) (by decide +kernel) rfl ?_
    dsimp only
    refine am_Rq.ral (k := i) (show decode (am_by 11) 15 = .ok (.aaload, 1) by decide +kernel) (Led.ca h) rfl (by omega) (by omega) ?_
    refine am_Rq.blk (is := [(.aload_n 0, 1)]) (q := (17, [some (.ref b), some (.int (nI (sp_sm (c_ic t) i))), some (.int (nI i))], [.ref b, .ref (b + 2 + 2 * i), .int (nI (sp_sm (c_ic t) i))])) (by decide +kernel) rfl ?_
    dsimp only
    refine am_Rq.getf (v := .ref (b + 1)) (show decode (am_by 11) 17 = .ok (.getfield 11, 3) by decide +kernel) rfl (Led.lg h) rfl ?_
    refine am_Rq.blk (is := [(.iload_n 2, 1)]) (q := (21, [some (.ref b), some (.int (nI (sp_sm (c_ic t) i))), some (.int (nI i))], [.int (nI i), .ref (b + 1), .ref (b + 2 + 2 * i), .int (nI (sp_sm (c_ic t) i))])) (by decide +kernel) rfl ?_
    dsimp only
    refine am_Rq.ral (k := i) (show decode (am_by 11) 21 = .ok (.aaload, 1) by decide +kernel) (Led.ca h) rfl (by omega) (by omega) ?_
    refine am_Rq.getf (v := .int (nI (t (8 * i + 7)))) (show decode (am_by 11) 22 = .ok (.getfield 45, 3) by decide +kernel) rfl (Led.sc h (by omega)) rfl ?_
    obtain ⟨a0, a1, a2, a3, a4, a5, a6, a7, a8, a9, -⟩ := ok.1 i hi
    refine am_Rq.callV (show decode (am_by 11) 25 = .ok (.invokevirtual 48, 3) by decide +kernel) rfl [.int (nI (t (8 * i + 7)))] [.int (nI (sp_sm (c_ic t) i))] rfl rfl (Nat.le_of_ble_eq_true rfl) rfl (Led.sc h (by omega)) rfl (c_inCommon h hi (hB _ (by omega)) (by omega) (hB _ (by omega)) (hB _ (by omega)) (by have := ok.pr hi a9; omega)) ?_
    rintro _ _ ⟨rfl, rfl⟩
    show am_Rq _ 11 28 [some (.ref b), some (.int (nI (sp_sm (c_ic t) i))), some (.int (nI i))] [.int (nI (c_ic t i)), .int (nI (sp_sm (c_ic t) i))] _ _
    refine am_Rq.blk (is := [(.iadd, 1)]) (q := (29, [some (.ref b), some (.int (nI (sp_sm (c_ic t) i))), some (.int (nI i))], [.int ((nI (sp_sm (c_ic t) i)) + (nI (c_ic t i)))])) (by decide +kernel) rfl ?_
    dsimp only
    rw [show (nI (sp_sm (c_ic t) i)) + (nI (c_ic t i)) = nI ((sp_sm (c_ic t) i) + (c_ic t i)) from nI_add _ _]
    refine am_Rq.blk (is := [(.istore_n 1, 1), (.iinc 2 1, 3)]) (q := (33, [some (.ref b), some (.int (nI ((sp_sm (c_ic t) i) + (c_ic t i)))), some (.int ((nI i) + (nI 1)))], [])) (by decide +kernel) rfl ?_
    dsimp only
    rw [show (nI i) + (nI 1) = nI (i + 1) from nI_add _ _]
    refine am_Rq.blk (is := [(.goto (-29), 3)]) (q := (4, [some (.ref b), some (.int (nI ((sp_sm (c_ic t) i) + (c_ic t i)))), some (.int (nI (i + 1)))], [])) (by decide +kernel) rfl ?_
    dsimp only
    exact ih _ _ ⟨rfl, rfl⟩
  · rintro lo hp ⟨rfl, rfl⟩
    refine am_Rq.blk (is := [(.iload_n 2, 1), (.iconst 5, 1)]) (q := (6, [some (.ref b), some (.int (nI (sp_sm (c_ic t) 5))), some (.int (nI 5))], [.int (nI 5), .int (nI 5)])) (by decide +kernel) rfl ?_
    dsimp only
    refine am_Rq.if2T (t := 36) (show decode (am_by 11) 6 = .ok (.if_icmp .ge 30, 3) by decide +kernel) (by decide) (by rw [nm_ge (by omega) (by omega)]; exact decide_eq_true (by omega)) ?_
    refine am_Rq.blk (is := [(.iload_n 1, 1)]) (q := (37, [some (.ref b), some (.int (nI (sp_sm (c_ic t) 5))), some (.int (nI 5))], [.int (nI (sp_sm (c_ic t) 5))])) (by decide +kernel) rfl ?_
    dsimp only
    refine am_Rq.ret (v := some (.int (nI (sp_sm (c_ic t) 5)))) (show decode (am_by 11) 37 = .ok (.ireturn, 1) by decide +kernel) rfl rfl ?_
    exact ⟨_, rfl, rfl, rfl⟩
end C4
