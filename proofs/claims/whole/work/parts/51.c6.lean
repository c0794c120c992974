/-! The class: the history (rows by prog/c6.py). -/
section C6
variable {d : Nat} {hp : am_H}
theorem c_keep {b hh nx ct : Nat} {t : Nat → Nat} {ks : Nat → Nat → Nat} (hL : Led hp b t) (hH : c_H hp hh nx ct ks) (hd : b + 23 ≤ hh) (hE : ∀ g, g < 10 → t (83 + 7 * g + 5) ≤ 1) : am_Rq (d + 2) 16 0 (am_en [.ref hh, .ref b] 2) [] hp (am_Ret fun hp1 v => v = none ∧ Led hp1 b t ∧ c_H hp1 hh ((nx + 1) % 8) (min (ct + 1) 8) (va_up ks nx t) ∧ am_fr (c_hin hh) hp hp1) := by
  show am_Rq _ 16 0 [some (.ref hh), some (.ref b)] [] _ _
  obtain ⟨h2, hnx, hct, hO, hA, hks⟩ := hH
  refine am_Rq.blk (is := [(.aload_n 0, 1)]) (q := (1, [some (.ref hh), some (.ref b)], [.ref hh])) (by decide +kernel) rfl ?_
  dsimp only
  refine am_Rq.getf (v := .ref (hh + 1)) (show decode (am_by 16) 1 = .ok (.getfield 11, 3) by decide +kernel) rfl hO rfl ?_
  refine am_Rq.blk (is := [(.aload_n 0, 1)]) (q := (5, [some (.ref hh), some (.ref b)], [.ref hh, .ref (hh + 1)])) (by decide +kernel) rfl ?_
  dsimp only
  refine am_Rq.getf (v := .int (nI nx)) (show decode (am_by 16) 5 = .ok (.getfield 18, 3) by decide +kernel) rfl hO rfl ?_
  refine am_Rq.ral (k := nx) (show decode (am_by 16) 8 = .ok (.aaload, 1) by decide +kernel) hA rfl (by omega) (by omega) ?_
  refine am_Rq.blk (is := [(.aload_n 1, 1)]) (q := (10, [some (.ref hh), some (.ref b)], [.ref b, .ref ((hh + 2) + 23 * nx)])) (by decide +kernel) rfl ?_
  dsimp only
  refine am_Rq.callV (show decode (am_by 16) 10 = .ok (.invokevirtual 22, 3) by decide +kernel) rfl [.ref b] [] rfl rfl (Nat.le_of_ble_eq_true rfl) rfl (Led.lg (hks nx hnx)) rfl (c_ledCopy (hks nx hnx) hL (by omega) hE) ?_
  rintro hp1 _ ⟨rfl, hL1, hf1⟩
  have hL1y := Led.kept hL (fun a ha => hf1.2.2 a (fun q => by obtain ⟨_, _⟩ := q; obtain ⟨_, _⟩ := ha; omega))
  have hc1_hh := (hf1.2.2 (hh) (fun q => by obtain ⟨_, _⟩ := q; omega)).trans hO
  have hc1_hh1 := (hf1.2.2 (hh + 1) (fun q => by obtain ⟨_, _⟩ := q; omega)).trans hA
  show am_Rq _ 16 13 [some (.ref hh), some (.ref b)] [] _ _
  refine am_Rq.blk (is := [(.aload_n 0, 1), (.aload_n 0, 1)]) (q := (15, [some (.ref hh), some (.ref b)], [.ref hh, .ref hh])) (by decide +kernel) rfl ?_
  dsimp only
  refine am_Rq.getf (v := .int (nI nx)) (show decode (am_by 16) 15 = .ok (.getfield 18, 3) by decide +kernel) rfl hc1_hh rfl ?_
  refine am_Rq.blk (is := [(.iconst 1, 1), (.iadd, 1)]) (q := (20, [some (.ref hh), some (.ref b)], [.int ((nI nx) + (nI 1)), .ref hh])) (by decide +kernel) rfl ?_
  dsimp only
  rw [show (nI nx) + (nI 1) = nI (nx + 1) from nI_add _ _]
  refine am_Rq.blk (is := [(.bipush 8, 2)]) (q := (22, [some (.ref hh), some (.ref b)], [.int (nI 8), .int (nI (nx + 1)), .ref hh])) (by decide +kernel) rfl ?_
  dsimp only
  refine am_Rq.iremN (a := nx + 1) (b := 8) (show decode (am_by 16) 22 = .ok (.irem, 1) by decide +kernel) (by omega) (by omega) (by omega) ?_
  refine am_Rq.putf (show decode (am_by 16) 23 = .ok (.putfield 18, 3) by decide +kernel) rfl hc1_hh (Nat.le_of_ble_eq_true rfl) rfl (Or.inl rfl) (by omega) ?_
  have hc2_hh := am_ss (c' := (4, [.ref (hh + 1), .int (nI ((nx + 1) % 8)), .int (nI ct)])) hc1_hh
  have hc2_hh1 := (am_sn (c' := (4, [.ref (hh + 1), .int (nI ((nx + 1) % 8)), .int (nI ct)])) (show hh ≠ hh + 1 by omega)).trans hc1_hh1
  have hL2y := Led.kept hL1y (fun q hq => am_sn (c' := (4, [.ref (hh + 1), .int (nI ((nx + 1) % 8)), .int (nI ct)])) (show hh ≠ q by obtain ⟨_, _⟩ := hq; omega))
  have hL2k := Led.kept hL1 (fun q hq => am_sn (c' := (4, [.ref (hh + 1), .int (nI ((nx + 1) % 8)), .int (nI ct)])) (show hh ≠ q by obtain ⟨_, _⟩ := hq; omega))
  have hf2 := (am_fr.rf (A := fun q => q = hh)).set (c' := (4, [.ref (hh + 1), .int (nI ((nx + 1) % 8)), .int (nI ct)])) rfl hc1_hh rfl
  refine am_Rq.blk (is := [(.aload_n 0, 1), (.aload_n 0, 1)]) (q := (28, [some (.ref hh), some (.ref b)], [.ref hh, .ref hh])) (by decide +kernel) rfl ?_
  dsimp only
  refine am_Rq.getf (v := .int (nI ct)) (show decode (am_by 16) 28 = .ok (.getfield 26, 3) by decide +kernel) rfl hc2_hh rfl ?_
  refine am_Rq.blk (is := [(.iconst 1, 1), (.iadd, 1)]) (q := (33, [some (.ref hh), some (.ref b)], [.int ((nI ct) + (nI 1)), .ref hh])) (by decide +kernel) rfl ?_
  dsimp only
  rw [show (nI ct) + (nI 1) = nI (ct + 1) from nI_add _ _]
  refine am_Rq.blk (is := [(.bipush 8, 2)]) (q := (35, [some (.ref hh), some (.ref b)], [.int (nI 8), .int (nI (ct + 1)), .ref hh])) (by decide +kernel) rfl ?_
  dsimp only
  refine am_Rq.callS (show decode (am_by 16) 35 = .ok (.invokestatic 29, 3) by decide +kernel) rfl [.int (nI (ct + 1)), .int (nI 8)] [.ref hh] rfl rfl (Nat.le_of_ble_eq_true rfl) rfl rfl (c_min (by omega) (by omega)) ?_
  rintro hq _ ⟨e1, rfl⟩
  rw [e1]
  clear e1 hq
  show am_Rq _ 16 38 [some (.ref hh), some (.ref b)] [.int (nI (min (ct + 1) 8)), .ref hh] _ _
  refine am_Rq.putf (show decode (am_by 16) 38 = .ok (.putfield 26, 3) by decide +kernel) rfl hc2_hh (Nat.le_of_ble_eq_true rfl) rfl (Or.inl rfl) (by omega) ?_
  have hc3_hh := am_ss (c' := (4, [.ref (hh + 1), .int (nI ((nx + 1) % 8)), .int (nI (min (ct + 1) 8))])) hc2_hh
  have hc3_hh1 := (am_sn (c' := (4, [.ref (hh + 1), .int (nI ((nx + 1) % 8)), .int (nI (min (ct + 1) 8))])) (show hh ≠ hh + 1 by omega)).trans hc2_hh1
  have hL3y := Led.kept hL2y (fun q hq => am_sn (c' := (4, [.ref (hh + 1), .int (nI ((nx + 1) % 8)), .int (nI (min (ct + 1) 8))])) (show hh ≠ q by obtain ⟨_, _⟩ := hq; omega))
  have hL3k := Led.kept hL2k (fun q hq => am_sn (c' := (4, [.ref (hh + 1), .int (nI ((nx + 1) % 8)), .int (nI (min (ct + 1) 8))])) (show hh ≠ q by obtain ⟨_, _⟩ := hq; omega))
  have hf3 := (am_fr.rf (A := fun q => q = hh)).set (c' := (4, [.ref (hh + 1), .int (nI ((nx + 1) % 8)), .int (nI (min (ct + 1) 8))])) rfl hc2_hh rfl
  have F : am_fr (fun q => c_in (hh + 2 + 23 * nx) q ∨ q = hh) hp _ := (((hf1.mono (fun a q => Or.inl q)).trans (hf2.mono (fun a q => Or.inr q))).trans (hf3.mono (fun a q => Or.inr q)))
  refine am_Rq.ret (v := none) (show decode (am_by 16) 41 = .ok (.return_, 1) by decide +kernel) rfl rfl ?_
  refine ⟨_, rfl, rfl, hL3y, ⟨h2, by omega, by omega, hc3_hh, hc3_hh1, fun i hi => ?_⟩, F.mono (fun a q => by
    rcases q with q | q
    · obtain ⟨_, _⟩ := q
      exact ⟨by omega, by omega⟩
    · subst q
      exact ⟨by omega, by omega⟩)⟩
  by_cases e : i = nx
  · subst e
    rw [va_up_self]
    exact hL3k
  · rw [va_up_ne _ _ e]
    refine (hks i hi).kept (fun a ha => F.2.2 a (fun q => ?_))
    obtain ⟨_, _⟩ := ha
    rcases q with ⟨_, _⟩ | q
    · omega
    · omega
theorem c_back {b hh nx ct : Nat} {t : Nat → Nat} {ks : Nat → Nat → Nat} (hL : Led hp b t) (hH : c_H hp hh nx ct ks) (hd : b + 23 ≤ hh) (h1 : 1 ≤ ct) (hE : ∀ g, g < 10 → ks ((nx + 7) % 8) (83 + 7 * g + 5) ≤ 1) : am_Rq (d + 2) 88 0 (am_en [.ref hh, .ref b] 2) [] hp (am_Ret fun hp1 v => v = none ∧ Led hp1 b (ks ((nx + 7) % 8)) ∧ c_H hp1 hh ((nx + 7) % 8) (ct - 1) ks ∧ am_fr (fun a => c_in b a ∨ c_hin hh a) hp hp1) := by
  show am_Rq _ 88 0 [some (.ref hh), some (.ref b)] [] _ _
  obtain ⟨h2, hnx, hct, hO, hA, hks⟩ := hH
  refine am_Rq.blk (is := [(.aload_n 0, 1), (.aload_n 0, 1)]) (q := (2, [some (.ref hh), some (.ref b)], [.ref hh, .ref hh])) (by decide +kernel) rfl ?_
  dsimp only
  refine am_Rq.getf (v := .int (nI nx)) (show decode (am_by 88) 2 = .ok (.getfield 18, 3) by decide +kernel) rfl hO rfl ?_
  refine am_Rq.blk (is := [(.bipush 8, 2), (.iadd, 1)]) (q := (8, [some (.ref hh), some (.ref b)], [.int ((nI nx) + (nI 8)), .ref hh])) (by decide +kernel) rfl ?_
  dsimp only
  rw [show (nI nx) + (nI 8) = nI (nx + 8) from nI_add _ _]
  refine am_Rq.blk (is := [(.iconst 1, 1), (.isub, 1)]) (q := (10, [some (.ref hh), some (.ref b)], [.int ((nI (nx + 8)) - (nI 1)), .ref hh])) (by decide +kernel) rfl ?_
  dsimp only
  rw [show (nI (nx + 8)) - (nI 1) = nI ((nx + 8) - 1) from nm_isub (by omega)]
  refine am_Rq.blk (is := [(.bipush 8, 2)]) (q := (12, [some (.ref hh), some (.ref b)], [.int (nI 8), .int (nI ((nx + 8) - 1)), .ref hh])) (by decide +kernel) rfl ?_
  dsimp only
  refine am_Rq.iremN (a := (nx + 8) - 1) (b := 8) (show decode (am_by 88) 12 = .ok (.irem, 1) by decide +kernel) (by omega) (by omega) (by omega) ?_
  refine am_Rq.putf (show decode (am_by 88) 13 = .ok (.putfield 18, 3) by decide +kernel) rfl hO (Nat.le_of_ble_eq_true rfl) rfl (Or.inl rfl) (by omega) ?_
  have hc1_hh := am_ss (c' := (4, [.ref (hh + 1), .int (nI (((nx + 8) - 1) % 8)), .int (nI ct)])) hO
  have hc1_hh1 := (am_sn (c' := (4, [.ref (hh + 1), .int (nI (((nx + 8) - 1) % 8)), .int (nI ct)])) (show hh ≠ hh + 1 by omega)).trans hA
  have hL1x := Led.kept hL (fun q hq => am_sn (c' := (4, [.ref (hh + 1), .int (nI (((nx + 8) - 1) % 8)), .int (nI ct)])) (show hh ≠ q by obtain ⟨_, _⟩ := hq; omega))
  have hL1k := Led.kept (hks (((nx + 8) - 1) % 8) (by omega)) (fun q hq => am_sn (c' := (4, [.ref (hh + 1), .int (nI (((nx + 8) - 1) % 8)), .int (nI ct)])) (show hh ≠ q by obtain ⟨_, _⟩ := hq; omega))
  have hf1 := (am_fr.rf (A := fun q => q = hh)).set (c' := (4, [.ref (hh + 1), .int (nI (((nx + 8) - 1) % 8)), .int (nI ct)])) rfl hO rfl
  refine am_Rq.blk (is := [(.aload_n 0, 1), (.dup, 1)]) (q := (18, [some (.ref hh), some (.ref b)], [.ref hh, .ref hh])) (by decide +kernel) rfl ?_
  dsimp only
  refine am_Rq.getf (v := .int (nI ct)) (show decode (am_by 88) 18 = .ok (.getfield 26, 3) by decide +kernel) rfl hc1_hh rfl ?_
  refine am_Rq.blk (is := [(.iconst 1, 1), (.isub, 1)]) (q := (23, [some (.ref hh), some (.ref b)], [.int ((nI ct) - (nI 1)), .ref hh])) (by decide +kernel) rfl ?_
  dsimp only
  rw [show (nI ct) - (nI 1) = nI (ct - 1) from nm_isub (by omega)]
  refine am_Rq.putf (show decode (am_by 88) 23 = .ok (.putfield 26, 3) by decide +kernel) rfl hc1_hh (Nat.le_of_ble_eq_true rfl) rfl (Or.inl rfl) (by omega) ?_
  have hc2_hh := am_ss (c' := (4, [.ref (hh + 1), .int (nI (((nx + 8) - 1) % 8)), .int (nI (ct - 1))])) hc1_hh
  have hc2_hh1 := (am_sn (c' := (4, [.ref (hh + 1), .int (nI (((nx + 8) - 1) % 8)), .int (nI (ct - 1))])) (show hh ≠ hh + 1 by omega)).trans hc1_hh1
  have hL2x := Led.kept hL1x (fun q hq => am_sn (c' := (4, [.ref (hh + 1), .int (nI (((nx + 8) - 1) % 8)), .int (nI (ct - 1))])) (show hh ≠ q by obtain ⟨_, _⟩ := hq; omega))
  have hL2k := Led.kept hL1k (fun q hq => am_sn (c' := (4, [.ref (hh + 1), .int (nI (((nx + 8) - 1) % 8)), .int (nI (ct - 1))])) (show hh ≠ q by obtain ⟨_, _⟩ := hq; omega))
  have hf2 := (am_fr.rf (A := fun q => q = hh)).set (c' := (4, [.ref (hh + 1), .int (nI (((nx + 8) - 1) % 8)), .int (nI (ct - 1))])) rfl hc1_hh rfl
  refine am_Rq.blk (is := [(.aload_n 1, 1), (.aload_n 0, 1)]) (q := (28, [some (.ref hh), some (.ref b)], [.ref hh, .ref b])) (by decide +kernel) rfl ?_
  dsimp only
  refine am_Rq.getf (v := .ref (hh + 1)) (show decode (am_by 88) 28 = .ok (.getfield 11, 3) by decide +kernel) rfl hc2_hh rfl ?_
  refine am_Rq.blk (is := [(.aload_n 0, 1)]) (q := (32, [some (.ref hh), some (.ref b)], [.ref hh, .ref (hh + 1), .ref b])) (by decide +kernel) rfl ?_
  dsimp only
  refine am_Rq.getf (v := .int (nI (((nx + 8) - 1) % 8))) (show decode (am_by 88) 32 = .ok (.getfield 18, 3) by decide +kernel) rfl hc2_hh rfl ?_
  refine am_Rq.ral (k := ((nx + 8) - 1) % 8) (show decode (am_by 88) 35 = .ok (.aaload, 1) by decide +kernel) hc2_hh1 rfl (by omega) (by omega) ?_
  have hE2 : ∀ g, g < 10 → ks (((nx + 8) - 1) % 8) (83 + 7 * g + 5) ≤ 1 := hE
  refine am_Rq.callV (show decode (am_by 88) 36 = .ok (.invokevirtual 22, 3) by decide +kernel) rfl [.ref ((hh + 2) + 23 * (((nx + 8) - 1) % 8))] [] rfl rfl (Nat.le_of_ble_eq_true rfl) rfl (Led.lg hL2x) rfl (c_ledCopy hL2x hL2k (by omega) hE2) ?_
  rintro hp3 _ ⟨rfl, hL3, hf3⟩
  have hL3k := Led.kept hL2k (fun a ha => hf3.2.2 a (fun q => by obtain ⟨_, _⟩ := q; obtain ⟨_, _⟩ := ha; omega))
  have hc3_hh := (hf3.2.2 (hh) (fun q => by obtain ⟨_, _⟩ := q; omega)).trans hc2_hh
  have hc3_hh1 := (hf3.2.2 (hh + 1) (fun q => by obtain ⟨_, _⟩ := q; omega)).trans hc2_hh1
  show am_Rq _ 88 39 [some (.ref hh), some (.ref b)] [] _ _
  have F : am_fr (fun q => c_in b q ∨ q = hh) hp _ := (((hf1.mono (fun a q => Or.inr q)).trans (hf2.mono (fun a q => Or.inr q))).trans (hf3.mono (fun a q => Or.inl q)))
  refine am_Rq.ret (v := none) (show decode (am_by 88) 39 = .ok (.return_, 1) by decide +kernel) rfl rfl ?_
  refine ⟨_, rfl, rfl, hL3, ⟨h2, by omega, by omega, hc3_hh, hc3_hh1, fun i hi => ?_⟩, F.mono (fun a q => ?_)⟩
  · refine (hks i hi).kept (fun a ha => F.2.2 a (fun q => ?_))
    obtain ⟨_, _⟩ := ha
    rcases q with ⟨_, _⟩ | q
    · omega
    · omega
  · rcases q with q | q
    · exact Or.inl q
    · subst q
      exact Or.inr ⟨by omega, by omega⟩
end C6
