/-! The constructors of history, sale and the class (rows by prog/ctor2.py). -/
theorem am_ra_len {b q n : Nat} : (am_ra b q n).length = n := by simp [am_ra]
section ND
variable {d : Nat} {hp : am_H}
theorem n_hi (h : hp[26]? = some (4, [.null, .int (nI 0), .int (nI 0)])) (hN : hp.length = 27) : am_Rq (d + 2) 5 0 (am_en [.ref 26] 2) [] hp (am_Ret fun hp1 v => v = none ∧ c_H hp1 26 0 0 (fun _ => t00) ∧ hp1.length = 212 ∧ ex (fun x => x = 26) hp hp1 185 1416) := by
  show am_Rq _ 5 0 [some (.ref 26), none] [] _ _
  have hx0 : ex (fun x => x = 26) hp hp 0 0 := ex.rf
  refine am_Rq.blk (is := [(.aload_n 0, 1)]) (q := (1, [some (.ref 26), none], [.ref 26])) (by decide +kernel) rfl ?_
  dsimp only
  refine am_Rq.oi (show decode (am_by 5) 1 = .ok (.invokespecial 3, 3) by decide +kernel) rfl rfl (Nat.le_of_ble_eq_true rfl) ?_
  refine am_Rq.blk (is := [(.aload_n 0, 1), (.bipush 8, 2)]) (q := (7, [some (.ref 26), none], [.int (nI 8), .ref 26])) (by decide +kernel) rfl ?_
  dsimp only
  refine am_Rq.ana (ci := 3) (n := 8) (28) 23 (show decode (am_by 5) 7 = .ok (.anewarray 9, 3) by decide +kernel) rfl (by omega) (by omega) ?_
  skip
  show am_Rq _ _ _ _ (.ref (List.length _) :: _) (_ ++ [(113, (am_rn (28) 23 8 0))]) _
  rw [hN]
  have hc1_26 := ap_old (x := (113, (am_rn (28) 23 8 0))) h
  have hn1 := ap_new (c := (113, (am_rn (28) 23 8 0))) hN
  have hx1 := hx0.push (113, (am_rn (28) 23 8 0))
  have hl1 : List.length _ = 28 := ap_len (c := (113, (am_rn (28) 23 8 0))) hN
  generalize hze1 : (_ ++ [_] : am_H) = hz1 at hn1 hx1 hl1 hc1_26 ⊢
  clear hze1
  refine am_Rq.putf (show decode (am_by 5) 10 = .ok (.putfield 11, 3) by decide +kernel) rfl hc1_26 (Nat.le_of_ble_eq_true rfl) rfl (by first | exact Or.inl rfl | exact Or.inr ⟨rfl, rfl⟩) (by omega) ?_
  show am_Rq _ _ _ _ _ (List.set _ 26 (4, [.ref 27, .int (nI 0), .int (nI 0)])) _
  have hc2_26 := am_ss (c' := (4, [.ref 27, .int (nI 0), .int (nI 0)])) hc1_26
  have hc2_27 := (am_sn (c' := (4, [.ref 27, .int (nI 0), .int (nI 0)])) (show 26 ≠ 27 by omega)).trans hn1
  have hf2 := (am_fr.rf (A := fun q => q = 26)).set (c' := (4, [.ref 27, .int (nI 0), .int (nI 0)])) rfl hc1_26 rfl
  generalize hze2 : (List.set _ 26 _ : am_H) = hz2 at hf2 hc2_26 hc2_27 ⊢
  clear hze2
  refine am_Rq.blk (is := [(.iconst 0, 1), (.istore_n 1, 1)]) (q := (15, [some (.ref 26), some (.int (nI 0))], [])) (by decide +kernel) rfl ?_
  dsimp only
  have hx3 := hx1.fr hf2 (fun q q1 q2 => by have q1 : q = _ := q1; first | omega | exact q1 | (have hxl := hx1.1; omega))
  have hl3 := hf2.1.trans hl1
  obtain ⟨hp0, hpe⟩ : ∃ x, x = hp := ⟨_, rfl⟩
  rw [← hpe] at hx3 ⊢
  refine am_for (n := 8) (fun i lo hp => lo = [some (.ref 26), some (.int (nI i))] ∧ hp.length = 28 + 23 * i ∧ hp[26]? = some (4, [.ref 27, .int (nI 0), .int (nI 0)]) ∧ hp[27]? = some (113, am_rn 28 23 8 i) ∧ (∀ k, k < i → Led hp (28 + 23 * k) t00) ∧ ex (fun x => x = 26) hp0 hp (1 + 23 * i) (8 + 176 * i)) ?_ ?_ (i := 0) (by omega) ⟨rfl, hl3, hc2_26, hc2_27, fun k hk => by omega, by simpa [am_rn_len] using hx3⟩
  · rintro i lo hp hi ⟨rfl, hN, h, hA, hK, hx⟩ ih
    refine am_Rq.blk (is := [(.iload_n 1, 1), (.bipush 8, 2)]) (q := (18, [some (.ref 26), some (.int (nI i))], [.int (nI 8), .int (nI i)])) (by decide +kernel) rfl ?_
    dsimp only
    refine am_Rq.if2F (show decode (am_by 5) 18 = .ok (.if_icmp .ge 22, 3) by decide +kernel) (by decide) (by rw [nm_ge (by omega) (by omega)]; exact decide_eq_false (by omega)) ?_
    refine am_Rq.blk (is := [(.aload_n 0, 1)]) (q := (22, [some (.ref 26), some (.int (nI i))], [.ref 26])) (by decide +kernel) rfl ?_
    dsimp only
    refine am_Rq.getf (v := .ref 27) (show decode (am_by 5) 22 = .ok (.getfield 11, 3) by decide +kernel) rfl h rfl ?_
    refine am_Rq.blk (is := [(.iload_n 1, 1)]) (q := (26, [some (.ref 26), some (.int (nI i))], [.int (nI i), .ref 27])) (by decide +kernel) rfl ?_
    dsimp only
    refine am_Rq.new (ci := 3) (show decode (am_by 5) 26 = .ok (.new 9, 3) by decide +kernel) rfl rfl ?_
    skip
    show am_Rq _ _ _ _ (.ref (List.length _) :: _) (_ ++ [(3, [.null, .null, .int (nI 0), .int (nI 0), .int (nI 0), .int (nI 0)])]) _
    rw [hN]
    have hc4_26 := ap_old (x := (3, [.null, .null, .int (nI 0), .int (nI 0), .int (nI 0), .int (nI 0)])) h
    have hc4_27 := ap_old (x := (3, [.null, .null, .int (nI 0), .int (nI 0), .int (nI 0), .int (nI 0)])) hA
    have hK4 := fun (k : Nat) (hk : k < i) => (hK k hk).ap (x := (3, [.null, .null, .int (nI 0), .int (nI 0), .int (nI 0), .int (nI 0)]))
    have hn4 := ap_new (c := (3, [.null, .null, .int (nI 0), .int (nI 0), .int (nI 0), .int (nI 0)])) hN
    have hx4 := hx.push (3, [.null, .null, .int (nI 0), .int (nI 0), .int (nI 0), .int (nI 0)])
    have hl4 : List.length _ = 28 + 23 * i + 1 := ap_len (c := (3, [.null, .null, .int (nI 0), .int (nI 0), .int (nI 0), .int (nI 0)])) hN
    generalize hze4 : (_ ++ [_] : am_H) = hz4 at hn4 hx4 hl4 hc4_26 hc4_27 hK4 ⊢
    clear hze4
    refine am_Rq.blk (is := [(.dup, 1)]) (q := (30, [some (.ref 26), some (.int (nI i))], [.ref (28 + 23 * i), .ref (28 + 23 * i), .int (nI i), .ref 27])) (by decide +kernel) rfl ?_
    dsimp only
    refine am_Rq.callI (show decode (am_by 5) 30 = .ok (.invokespecial 17, 3) by decide +kernel) rfl [.ref (28 + 23 * i), .int (nI i), .ref 27] rfl rfl (Nat.le_of_ble_eq_true rfl) rfl rfl (n_led hn4 (by omega) hl4) ?_
    rintro hpn _ ⟨rfl, m1, m2, m3⟩
    have n1 := (m3.2.2 26 (by rw [hl4]; omega) (by omega)).trans hc4_26
    have n2 := (m3.2.2 27 (by rw [hl4]; omega) (by omega)).trans hc4_27
    have n3 := fun (k : Nat) (hk : k < i) => (hK4 k hk).exk m3 (fun a ha => by obtain ⟨_, _⟩ := ha; omega)
    have n4 := hx4.trans m3 (fun q q1 q2 => by have hxl := hx4.1; omega)
    show am_Rq _ 5 33 [some (.ref 26), some (.int (nI i))] [.ref (28 + 23 * i), .int (nI i), .ref 27] _ _
    refine am_Rq.aas (ci := 3) (show decode (am_by 5) 33 = .ok (.aastore, 1) by decide +kernel) n2 (by omega) m1.lg hi (by omega) (by omega) ?_
    have hc5_26 := (am_sn (c' := (113, (am_rn 28 23 8 (i + 1)))) (show 27 ≠ 26 by omega)).trans n1
    have hc5_27 := am_ss (c' := (113, (am_rn 28 23 8 (i + 1)))) n2
    have hL5m := Led.kept m1 (fun q hq => am_sn (c' := (113, (am_rn 28 23 8 (i + 1)))) (show 27 ≠ q by obtain ⟨_, _⟩ := hq; omega))
    have hf5 := (am_fr.rf (A := fun q => q = 27)).set (c' := (113, (am_rn 28 23 8 (i + 1)))) rfl n2 (by simp [am_rn_len])
    generalize hze5 : (List.set _ 27 _ : am_H) = hz5 at hf5 hc5_26 hc5_27 hL5m ⊢
    clear hze5
    have hx6 := n4.fr hf5 (fun q q1 q2 => by have q1 : q = _ := q1; first | omega | exact q1 | (have hxl := n4.1; omega))
    have hl6 := hf5.1.trans m2
    have hK6 := fun (k : Nat) (hk : k < i) => (n3 k hk).kept (fun a ha => hf5.2.2 a (fun q => by obtain ⟨_, _⟩ := ha; omega))
    refine am_Rq.blk (is := [(.iinc 1 1, 3)]) (q := (37, [some (.ref 26), some (.int ((nI i) + (nI 1)))], [])) (by decide +kernel) rfl ?_
    dsimp only
    rw [show (nI i) + (nI 1) = nI (i + 1) from nI_add _ _]
    refine am_Rq.blk (is := [(.goto (-22), 3)]) (q := (15, [some (.ref 26), some (.int (nI (i + 1)))], [])) (by decide +kernel) rfl ?_
    dsimp only
    refine ih _ _ ⟨rfl, hl6.trans (by omega), hc5_26, hc5_27, fun k hk => ?_, ?_⟩
    · by_cases ek : k = i
      · subst ek
        exact hL5m
      · exact hK6 k (by omega)
    · have z : ex (fun x => x = 26) hp0 _ (1 + 23 * i + 1 + 22) (8 + 176 * i + 6 + 170) := hx6
      rw [show 1 + 23 * (i + 1) = 1 + 23 * i + 1 + 22 by omega, show 8 + 176 * (i + 1) = 8 + 176 * i + 6 + 170 by omega]
      exact z
  · rintro lo hp ⟨rfl, hN, h, hA, hK, hx⟩
    refine am_Rq.blk (is := [(.iload_n 1, 1), (.bipush 8, 2)]) (q := (18, [some (.ref 26), some (.int (nI 8))], [.int (nI 8), .int (nI 8)])) (by decide +kernel) rfl ?_
    dsimp only
    refine am_Rq.if2T (t := 40) (show decode (am_by 5) 18 = .ok (.if_icmp .ge 22, 3) by decide +kernel) (by decide) (by rw [nm_ge (by omega) (by omega)]; exact decide_eq_true (by omega)) ?_
    refine am_Rq.ret (v := none) (show decode (am_by 5) 40 = .ok (.return_, 1) by decide +kernel) rfl rfl ?_
    exact ⟨_, rfl, rfl, ⟨by omega, by omega, by omega, h, by rw [← am_rnN]; exact hA, hK⟩, hN, hx⟩
theorem n_sa (h : hp[212]? = some (6, [.null, .null, .null, .null, .null, .null, .null, .int (nI 0)])) (hN : hp.length = 213) : am_Rq (d + 1) 6 0 (am_en [.ref 212] 1) [] hp (am_Ret fun hp1 v => v = none ∧ Sal hp1 t00 0 ∧ hp1.length = 238 ∧ ex (fun x => x = 212) hp hp1 25 166) := by
  show am_Rq _ 6 0 [some (.ref 212)] [] _ _
  have hx0 : ex (fun x => x = 212) hp hp 0 0 := ex.rf
  refine am_Rq.blk (is := [(.aload_n 0, 1)]) (q := (1, [some (.ref 212)], [.ref 212])) (by decide +kernel) rfl ?_
  dsimp only
  refine am_Rq.oi (show decode (am_by 6) 1 = .ok (.invokespecial 3, 3) by decide +kernel) rfl rfl (Nat.le_of_ble_eq_true rfl) ?_
  refine am_Rq.blk (is := [(.aload_n 0, 1)]) (q := (5, [some (.ref 212)], [.ref 212])) (by decide +kernel) rfl ?_
  dsimp only
  refine am_Rq.new (ci := 5) (show decode (am_by 6) 5 = .ok (.new 9, 3) by decide +kernel) rfl rfl ?_
  skip
  show am_Rq _ _ _ _ (.ref (List.length _) :: _) (_ ++ [(5, [.null, .null])]) _
  rw [hN]
  have hc1_212 := ap_old (x := (5, [.null, .null])) h
  have hn1 := ap_new (c := (5, [.null, .null])) hN
  have hx1 := hx0.push (5, [.null, .null])
  have hl1 : List.length _ = 214 := ap_len (c := (5, [.null, .null])) hN
  generalize hze1 : (_ ++ [_] : am_H) = hz1 at hn1 hx1 hl1 hc1_212 ⊢
  clear hze1
  refine am_Rq.blk (is := [(.dup, 1)]) (q := (9, [some (.ref 212)], [.ref 213, .ref 213, .ref 212])) (by decide +kernel) rfl ?_
  dsimp only
  refine am_Rq.callI (show decode (am_by 6) 9 = .ok (.invokespecial 11, 3) by decide +kernel) rfl [.ref 213, .ref 212] rfl rfl (Nat.le_of_ble_eq_true rfl) rfl rfl (n_sh hn1 (by omega) (by omega) hl1) ?_
  rintro hpn _ ⟨rfl, m1, m2, m3, m4, m5⟩
  have n1 := (m5.2.2 212 (by rw [hl1]; omega) (by omega)).trans hc1_212
  have n4 := hx1.trans m5 (fun q q1 q2 => by have hxl := hx1.1; omega)
  show am_Rq _ 6 12 [some (.ref 212)] [.ref 213, .ref 212] _ _
  refine am_Rq.putf (show decode (am_by 6) 12 = .ok (.putfield 12, 3) by decide +kernel) rfl n1 (Nat.le_of_ble_eq_true rfl) rfl (by first | exact Or.inl rfl | exact Or.inr ⟨rfl, rfl⟩) (by omega) ?_
  show am_Rq _ _ _ _ _ (List.set _ 212 (6, [.ref 213, .null, .null, .null, .null, .null, .null, .int (nI 0)])) _
  have hc2_212 := am_ss (c' := (6, [.ref 213, .null, .null, .null, .null, .null, .null, .int (nI 0)])) n1
  have hc2_213 := (am_sn (c' := (6, [.ref 213, .null, .null, .null, .null, .null, .null, .int (nI 0)])) (show 212 ≠ 213 by omega)).trans m1
  have hc2_214 := (am_sn (c' := (6, [.ref 213, .null, .null, .null, .null, .null, .null, .int (nI 0)])) (show 212 ≠ 214 by omega)).trans m2
  have hc2_215 := (am_sn (c' := (6, [.ref 213, .null, .null, .null, .null, .null, .null, .int (nI 0)])) (show 212 ≠ 215 by omega)).trans m3
  have hf2 := (am_fr.rf (A := fun q => q = 212)).set (c' := (6, [.ref 213, .null, .null, .null, .null, .null, .null, .int (nI 0)])) rfl n1 rfl
  generalize hze2 : (List.set _ 212 _ : am_H) = hz2 at hf2 hc2_212 hc2_213 hc2_214 hc2_215 ⊢
  clear hze2
  refine am_Rq.blk (is := [(.aload_n 0, 1), (.bipush 16, 2), (.bipush 6, 2)]) (q := (20, [some (.ref 212)], [.int (nI 6), .int (nI 16), .ref 212])) (by decide +kernel) rfl ?_
  dsimp only
  have hx3 := n4.fr hf2 (fun q q1 q2 => by have q1 : q = _ := q1; first | omega | exact q1 | (have hxl := n4.1; omega))
  have hl3 := hf2.1.trans m4
  refine am_Rq.mna (show decode (am_by 6) 20 = .ok (.multianewarray 18 2, 4) by decide +kernel) rfl ?_
  rw [hl3]
  show am_Rq _ _ _ _ _ (_ ++ ((103, am_ra 217 1 16) :: List.replicate 16 (100, am_ia (fun _ => nI 0) 6))) _
  have hm_212 := mn_old (c := (103, am_ra 217 1 16)) (x := (100, am_ia (fun _ => nI 0) 6)) hc2_212
  have hm_213 := mn_old (c := (103, am_ra 217 1 16)) (x := (100, am_ia (fun _ => nI 0) 6)) hc2_213
  have hm_214 := mn_old (c := (103, am_ra 217 1 16)) (x := (100, am_ia (fun _ => nI 0) 6)) hc2_214
  have hm_215 := mn_old (c := (103, am_ra 217 1 16)) (x := (100, am_ia (fun _ => nI 0) 6)) hc2_215
  obtain ⟨hq1, hq2, hq3⟩ := mn_new (c := (103, am_ra 217 1 16)) (x := (100, am_ia (fun _ => nI 0) 6)) hl3
  have hx9 := hx3.mn (103, am_ra 217 1 16) (100, am_ia (fun _ => nI 0) 6)
  generalize hze9 : (_ ++ (_ :: List.replicate 16 _) : am_H) = hz99 at hq1 hq2 hq3 hx9 hm_212 hm_213 hm_214 hm_215 ⊢
  clear hze9
  have hq3 : List.length hz99 = 233 := hq3
  show am_Rq _ 6 24 [some (.ref 212)] [.ref 216, .ref 212] _ _
  refine am_Rq.putf (show decode (am_by 6) 24 = .ok (.putfield 20, 3) by decide +kernel) rfl hm_212 (Nat.le_of_ble_eq_true rfl) rfl (by first | exact Or.inl rfl | exact Or.inr ⟨rfl, rfl⟩) (by omega) ?_
  show am_Rq _ _ _ _ _ (List.set _ 212 (6, [.ref 213, .ref 216, .null, .null, .null, .null, .null, .int (nI 0)])) _
  have hc4_212 := am_ss (c' := (6, [.ref 213, .ref 216, .null, .null, .null, .null, .null, .int (nI 0)])) hm_212
  have hc4_213 := (am_sn (c' := (6, [.ref 213, .ref 216, .null, .null, .null, .null, .null, .int (nI 0)])) (show 212 ≠ 213 by omega)).trans hm_213
  have hc4_214 := (am_sn (c' := (6, [.ref 213, .ref 216, .null, .null, .null, .null, .null, .int (nI 0)])) (show 212 ≠ 214 by omega)).trans hm_214
  have hc4_215 := (am_sn (c' := (6, [.ref 213, .ref 216, .null, .null, .null, .null, .null, .int (nI 0)])) (show 212 ≠ 215 by omega)).trans hm_215
  have hc4_216 := (am_sn (c' := (6, [.ref 213, .ref 216, .null, .null, .null, .null, .null, .int (nI 0)])) (show 212 ≠ 216 by omega)).trans hq1
  have hf4 := (am_fr.rf (A := fun q => q = 212)).set (c' := (6, [.ref 213, .ref 216, .null, .null, .null, .null, .null, .int (nI 0)])) rfl hm_212 rfl
  generalize hze4 : (List.set _ 212 _ : am_H) = hz4 at hf4 hc4_212 hc4_213 hc4_214 hc4_215 hc4_216 ⊢
  clear hze4
  refine am_Rq.blk (is := [(.aload_n 0, 1), (.bipush 16, 2)]) (q := (30, [some (.ref 212)], [.int (nI 16), .ref 212])) (by decide +kernel) rfl ?_
  dsimp only
  have hx5 := hx9.fr hf4 (fun q q1 q2 => by have q1 : q = _ := q1; first | omega | exact q1 | (have hxl := hx9.1; omega))
  have hl5 := hf4.1.trans hq3
  have hR5 := fun (e : Nat) (he : e < 16) => (hf4.2.2 _ (fun q => by omega)).trans (hq2 e he)
  refine am_Rq.nwZ (n := 16) (show decode (am_by 6) 30 = .ok (.newarray .boolean, 2) by decide +kernel) (by omega) ?_
  skip
  show am_Rq _ _ _ _ (.ref (List.length _) :: _) (_ ++ [(102, (am_ia (fun _ => nI 0) 16))]) _
  rw [hl5]
  have hc6_212 := ap_old (x := (102, (am_ia (fun _ => nI 0) 16))) hc4_212
  have hc6_213 := ap_old (x := (102, (am_ia (fun _ => nI 0) 16))) hc4_213
  have hc6_214 := ap_old (x := (102, (am_ia (fun _ => nI 0) 16))) hc4_214
  have hc6_215 := ap_old (x := (102, (am_ia (fun _ => nI 0) 16))) hc4_215
  have hc6_216 := ap_old (x := (102, (am_ia (fun _ => nI 0) 16))) hc4_216
  have hR6 := fun (e : Nat) (he : e < 16) => ap_old (x := (102, (am_ia (fun _ => nI 0) 16))) (hR5 e he)
  have hn6 := ap_new (c := (102, (am_ia (fun _ => nI 0) 16))) hl5
  have hx6 := hx5.push (102, (am_ia (fun _ => nI 0) 16))
  have hl6 : List.length _ = 234 := ap_len (c := (102, (am_ia (fun _ => nI 0) 16))) hl5
  generalize hze6 : (_ ++ [_] : am_H) = hz6 at hn6 hx6 hl6 hc6_212 hc6_213 hc6_214 hc6_215 hc6_216 hR6 ⊢
  clear hze6
  refine am_Rq.putf (show decode (am_by 6) 32 = .ok (.putfield 23, 3) by decide +kernel) rfl hc6_212 (Nat.le_of_ble_eq_true rfl) rfl (by first | exact Or.inl rfl | exact Or.inr ⟨rfl, rfl⟩) (by omega) ?_
  show am_Rq _ _ _ _ _ (List.set _ 212 (6, [.ref 213, .ref 216, .ref 233, .null, .null, .null, .null, .int (nI 0)])) _
  have hc7_212 := am_ss (c' := (6, [.ref 213, .ref 216, .ref 233, .null, .null, .null, .null, .int (nI 0)])) hc6_212
  have hc7_213 := (am_sn (c' := (6, [.ref 213, .ref 216, .ref 233, .null, .null, .null, .null, .int (nI 0)])) (show 212 ≠ 213 by omega)).trans hc6_213
  have hc7_214 := (am_sn (c' := (6, [.ref 213, .ref 216, .ref 233, .null, .null, .null, .null, .int (nI 0)])) (show 212 ≠ 214 by omega)).trans hc6_214
  have hc7_215 := (am_sn (c' := (6, [.ref 213, .ref 216, .ref 233, .null, .null, .null, .null, .int (nI 0)])) (show 212 ≠ 215 by omega)).trans hc6_215
  have hc7_216 := (am_sn (c' := (6, [.ref 213, .ref 216, .ref 233, .null, .null, .null, .null, .int (nI 0)])) (show 212 ≠ 216 by omega)).trans hc6_216
  have hc7_233 := (am_sn (c' := (6, [.ref 213, .ref 216, .ref 233, .null, .null, .null, .null, .int (nI 0)])) (show 212 ≠ 233 by omega)).trans hn6
  have hf7 := (am_fr.rf (A := fun q => q = 212)).set (c' := (6, [.ref 213, .ref 216, .ref 233, .null, .null, .null, .null, .int (nI 0)])) rfl hc6_212 rfl
  generalize hze7 : (List.set _ 212 _ : am_H) = hz7 at hf7 hc7_212 hc7_213 hc7_214 hc7_215 hc7_216 hc7_233 ⊢
  clear hze7
  refine am_Rq.blk (is := [(.aload_n 0, 1), (.iconst 5, 1)]) (q := (37, [some (.ref 212)], [.int (nI 5), .ref 212])) (by decide +kernel) rfl ?_
  dsimp only
  have hx8 := hx6.fr hf7 (fun q q1 q2 => by have q1 : q = _ := q1; first | omega | exact q1 | (have hxl := hx6.1; omega))
  have hl8 := hf7.1.trans hl6
  have hR8 := fun (e : Nat) (he : e < 16) => (hf7.2.2 _ (fun q => by omega)).trans (hR6 e he)
  refine am_Rq.nwI (n := 5) (show decode (am_by 6) 37 = .ok (.newarray .int, 2) by decide +kernel) (by omega) ?_
  skip
  show am_Rq _ _ _ _ (.ref (List.length _) :: _) (_ ++ [(100, (am_ia (fun _ => nI 0) 5))]) _
  rw [hl8]
  have hc9_212 := ap_old (x := (100, (am_ia (fun _ => nI 0) 5))) hc7_212
  have hc9_213 := ap_old (x := (100, (am_ia (fun _ => nI 0) 5))) hc7_213
  have hc9_214 := ap_old (x := (100, (am_ia (fun _ => nI 0) 5))) hc7_214
  have hc9_215 := ap_old (x := (100, (am_ia (fun _ => nI 0) 5))) hc7_215
  have hc9_216 := ap_old (x := (100, (am_ia (fun _ => nI 0) 5))) hc7_216
  have hc9_233 := ap_old (x := (100, (am_ia (fun _ => nI 0) 5))) hc7_233
  have hR9 := fun (e : Nat) (he : e < 16) => ap_old (x := (100, (am_ia (fun _ => nI 0) 5))) (hR8 e he)
  have hn9 := ap_new (c := (100, (am_ia (fun _ => nI 0) 5))) hl8
  have hx9 := hx8.push (100, (am_ia (fun _ => nI 0) 5))
  have hl9 : List.length _ = 235 := ap_len (c := (100, (am_ia (fun _ => nI 0) 5))) hl8
  generalize hze9 : (_ ++ [_] : am_H) = hz9 at hn9 hx9 hl9 hc9_212 hc9_213 hc9_214 hc9_215 hc9_216 hc9_233 hR9 ⊢
  clear hze9
  refine am_Rq.putf (show decode (am_by 6) 39 = .ok (.putfield 27, 3) by decide +kernel) rfl hc9_212 (Nat.le_of_ble_eq_true rfl) rfl (by first | exact Or.inl rfl | exact Or.inr ⟨rfl, rfl⟩) (by omega) ?_
  show am_Rq _ _ _ _ _ (List.set _ 212 (6, [.ref 213, .ref 216, .ref 233, .ref 234, .null, .null, .null, .int (nI 0)])) _
  have hc10_212 := am_ss (c' := (6, [.ref 213, .ref 216, .ref 233, .ref 234, .null, .null, .null, .int (nI 0)])) hc9_212
  have hc10_213 := (am_sn (c' := (6, [.ref 213, .ref 216, .ref 233, .ref 234, .null, .null, .null, .int (nI 0)])) (show 212 ≠ 213 by omega)).trans hc9_213
  have hc10_214 := (am_sn (c' := (6, [.ref 213, .ref 216, .ref 233, .ref 234, .null, .null, .null, .int (nI 0)])) (show 212 ≠ 214 by omega)).trans hc9_214
  have hc10_215 := (am_sn (c' := (6, [.ref 213, .ref 216, .ref 233, .ref 234, .null, .null, .null, .int (nI 0)])) (show 212 ≠ 215 by omega)).trans hc9_215
  have hc10_216 := (am_sn (c' := (6, [.ref 213, .ref 216, .ref 233, .ref 234, .null, .null, .null, .int (nI 0)])) (show 212 ≠ 216 by omega)).trans hc9_216
  have hc10_233 := (am_sn (c' := (6, [.ref 213, .ref 216, .ref 233, .ref 234, .null, .null, .null, .int (nI 0)])) (show 212 ≠ 233 by omega)).trans hc9_233
  have hc10_234 := (am_sn (c' := (6, [.ref 213, .ref 216, .ref 233, .ref 234, .null, .null, .null, .int (nI 0)])) (show 212 ≠ 234 by omega)).trans hn9
  have hf10 := (am_fr.rf (A := fun q => q = 212)).set (c' := (6, [.ref 213, .ref 216, .ref 233, .ref 234, .null, .null, .null, .int (nI 0)])) rfl hc9_212 rfl
  generalize hze10 : (List.set _ 212 _ : am_H) = hz10 at hf10 hc10_212 hc10_213 hc10_214 hc10_215 hc10_216 hc10_233 hc10_234 ⊢
  clear hze10
  refine am_Rq.blk (is := [(.aload_n 0, 1), (.iconst 5, 1)]) (q := (44, [some (.ref 212)], [.int (nI 5), .ref 212])) (by decide +kernel) rfl ?_
  dsimp only
  have hx11 := hx9.fr hf10 (fun q q1 q2 => by have q1 : q = _ := q1; first | omega | exact q1 | (have hxl := hx9.1; omega))
  have hl11 := hf10.1.trans hl9
  have hR11 := fun (e : Nat) (he : e < 16) => (hf10.2.2 _ (fun q => by omega)).trans (hR9 e he)
  refine am_Rq.nwI (n := 5) (show decode (am_by 6) 44 = .ok (.newarray .int, 2) by decide +kernel) (by omega) ?_
  skip
  show am_Rq _ _ _ _ (.ref (List.length _) :: _) (_ ++ [(100, (am_ia (fun _ => nI 0) 5))]) _
  rw [hl11]
  have hc12_212 := ap_old (x := (100, (am_ia (fun _ => nI 0) 5))) hc10_212
  have hc12_213 := ap_old (x := (100, (am_ia (fun _ => nI 0) 5))) hc10_213
  have hc12_214 := ap_old (x := (100, (am_ia (fun _ => nI 0) 5))) hc10_214
  have hc12_215 := ap_old (x := (100, (am_ia (fun _ => nI 0) 5))) hc10_215
  have hc12_216 := ap_old (x := (100, (am_ia (fun _ => nI 0) 5))) hc10_216
  have hc12_233 := ap_old (x := (100, (am_ia (fun _ => nI 0) 5))) hc10_233
  have hc12_234 := ap_old (x := (100, (am_ia (fun _ => nI 0) 5))) hc10_234
  have hR12 := fun (e : Nat) (he : e < 16) => ap_old (x := (100, (am_ia (fun _ => nI 0) 5))) (hR11 e he)
  have hn12 := ap_new (c := (100, (am_ia (fun _ => nI 0) 5))) hl11
  have hx12 := hx11.push (100, (am_ia (fun _ => nI 0) 5))
  have hl12 : List.length _ = 236 := ap_len (c := (100, (am_ia (fun _ => nI 0) 5))) hl11
  generalize hze12 : (_ ++ [_] : am_H) = hz12 at hn12 hx12 hl12 hc12_212 hc12_213 hc12_214 hc12_215 hc12_216 hc12_233 hc12_234 hR12 ⊢
  clear hze12
  refine am_Rq.putf (show decode (am_by 6) 46 = .ok (.putfield 31, 3) by decide +kernel) rfl hc12_212 (Nat.le_of_ble_eq_true rfl) rfl (by first | exact Or.inl rfl | exact Or.inr ⟨rfl, rfl⟩) (by omega) ?_
  show am_Rq _ _ _ _ _ (List.set _ 212 (6, [.ref 213, .ref 216, .ref 233, .ref 234, .ref 235, .null, .null, .int (nI 0)])) _
  have hc13_212 := am_ss (c' := (6, [.ref 213, .ref 216, .ref 233, .ref 234, .ref 235, .null, .null, .int (nI 0)])) hc12_212
  have hc13_213 := (am_sn (c' := (6, [.ref 213, .ref 216, .ref 233, .ref 234, .ref 235, .null, .null, .int (nI 0)])) (show 212 ≠ 213 by omega)).trans hc12_213
  have hc13_214 := (am_sn (c' := (6, [.ref 213, .ref 216, .ref 233, .ref 234, .ref 235, .null, .null, .int (nI 0)])) (show 212 ≠ 214 by omega)).trans hc12_214
  have hc13_215 := (am_sn (c' := (6, [.ref 213, .ref 216, .ref 233, .ref 234, .ref 235, .null, .null, .int (nI 0)])) (show 212 ≠ 215 by omega)).trans hc12_215
  have hc13_216 := (am_sn (c' := (6, [.ref 213, .ref 216, .ref 233, .ref 234, .ref 235, .null, .null, .int (nI 0)])) (show 212 ≠ 216 by omega)).trans hc12_216
  have hc13_233 := (am_sn (c' := (6, [.ref 213, .ref 216, .ref 233, .ref 234, .ref 235, .null, .null, .int (nI 0)])) (show 212 ≠ 233 by omega)).trans hc12_233
  have hc13_234 := (am_sn (c' := (6, [.ref 213, .ref 216, .ref 233, .ref 234, .ref 235, .null, .null, .int (nI 0)])) (show 212 ≠ 234 by omega)).trans hc12_234
  have hc13_235 := (am_sn (c' := (6, [.ref 213, .ref 216, .ref 233, .ref 234, .ref 235, .null, .null, .int (nI 0)])) (show 212 ≠ 235 by omega)).trans hn12
  have hf13 := (am_fr.rf (A := fun q => q = 212)).set (c' := (6, [.ref 213, .ref 216, .ref 233, .ref 234, .ref 235, .null, .null, .int (nI 0)])) rfl hc12_212 rfl
  generalize hze13 : (List.set _ 212 _ : am_H) = hz13 at hf13 hc13_212 hc13_213 hc13_214 hc13_215 hc13_216 hc13_233 hc13_234 hc13_235 ⊢
  clear hze13
  refine am_Rq.blk (is := [(.aload_n 0, 1), (.iconst 5, 1)]) (q := (51, [some (.ref 212)], [.int (nI 5), .ref 212])) (by decide +kernel) rfl ?_
  dsimp only
  have hx14 := hx12.fr hf13 (fun q q1 q2 => by have q1 : q = _ := q1; first | omega | exact q1 | (have hxl := hx12.1; omega))
  have hl14 := hf13.1.trans hl12
  have hR14 := fun (e : Nat) (he : e < 16) => (hf13.2.2 _ (fun q => by omega)).trans (hR12 e he)
  refine am_Rq.nwL (n := 5) (show decode (am_by 6) 51 = .ok (.newarray .long, 2) by decide +kernel) (by omega) ?_
  skip
  show am_Rq _ _ _ _ (.ref (List.length _) :: _) (_ ++ [(101, (am_la (fun _ => lN 0) 5))]) _
  rw [hl14]
  have hc15_212 := ap_old (x := (101, (am_la (fun _ => lN 0) 5))) hc13_212
  have hc15_213 := ap_old (x := (101, (am_la (fun _ => lN 0) 5))) hc13_213
  have hc15_214 := ap_old (x := (101, (am_la (fun _ => lN 0) 5))) hc13_214
  have hc15_215 := ap_old (x := (101, (am_la (fun _ => lN 0) 5))) hc13_215
  have hc15_216 := ap_old (x := (101, (am_la (fun _ => lN 0) 5))) hc13_216
  have hc15_233 := ap_old (x := (101, (am_la (fun _ => lN 0) 5))) hc13_233
  have hc15_234 := ap_old (x := (101, (am_la (fun _ => lN 0) 5))) hc13_234
  have hc15_235 := ap_old (x := (101, (am_la (fun _ => lN 0) 5))) hc13_235
  have hR15 := fun (e : Nat) (he : e < 16) => ap_old (x := (101, (am_la (fun _ => lN 0) 5))) (hR14 e he)
  have hn15 := ap_new (c := (101, (am_la (fun _ => lN 0) 5))) hl14
  have hx15 := hx14.push (101, (am_la (fun _ => lN 0) 5))
  have hl15 : List.length _ = 237 := ap_len (c := (101, (am_la (fun _ => lN 0) 5))) hl14
  generalize hze15 : (_ ++ [_] : am_H) = hz15 at hn15 hx15 hl15 hc15_212 hc15_213 hc15_214 hc15_215 hc15_216 hc15_233 hc15_234 hc15_235 hR15 ⊢
  clear hze15
  refine am_Rq.putf (show decode (am_by 6) 53 = .ok (.putfield 34, 3) by decide +kernel) rfl hc15_212 (Nat.le_of_ble_eq_true rfl) rfl (by first | exact Or.inl rfl | exact Or.inr ⟨rfl, rfl⟩) (by omega) ?_
  show am_Rq _ _ _ _ _ (List.set _ 212 (6, [.ref 213, .ref 216, .ref 233, .ref 234, .ref 235, .ref 236, .null, .int (nI 0)])) _
  have hc16_212 := am_ss (c' := (6, [.ref 213, .ref 216, .ref 233, .ref 234, .ref 235, .ref 236, .null, .int (nI 0)])) hc15_212
  have hc16_213 := (am_sn (c' := (6, [.ref 213, .ref 216, .ref 233, .ref 234, .ref 235, .ref 236, .null, .int (nI 0)])) (show 212 ≠ 213 by omega)).trans hc15_213
  have hc16_214 := (am_sn (c' := (6, [.ref 213, .ref 216, .ref 233, .ref 234, .ref 235, .ref 236, .null, .int (nI 0)])) (show 212 ≠ 214 by omega)).trans hc15_214
  have hc16_215 := (am_sn (c' := (6, [.ref 213, .ref 216, .ref 233, .ref 234, .ref 235, .ref 236, .null, .int (nI 0)])) (show 212 ≠ 215 by omega)).trans hc15_215
  have hc16_216 := (am_sn (c' := (6, [.ref 213, .ref 216, .ref 233, .ref 234, .ref 235, .ref 236, .null, .int (nI 0)])) (show 212 ≠ 216 by omega)).trans hc15_216
  have hc16_233 := (am_sn (c' := (6, [.ref 213, .ref 216, .ref 233, .ref 234, .ref 235, .ref 236, .null, .int (nI 0)])) (show 212 ≠ 233 by omega)).trans hc15_233
  have hc16_234 := (am_sn (c' := (6, [.ref 213, .ref 216, .ref 233, .ref 234, .ref 235, .ref 236, .null, .int (nI 0)])) (show 212 ≠ 234 by omega)).trans hc15_234
  have hc16_235 := (am_sn (c' := (6, [.ref 213, .ref 216, .ref 233, .ref 234, .ref 235, .ref 236, .null, .int (nI 0)])) (show 212 ≠ 235 by omega)).trans hc15_235
  have hc16_236 := (am_sn (c' := (6, [.ref 213, .ref 216, .ref 233, .ref 234, .ref 235, .ref 236, .null, .int (nI 0)])) (show 212 ≠ 236 by omega)).trans hn15
  have hf16 := (am_fr.rf (A := fun q => q = 212)).set (c' := (6, [.ref 213, .ref 216, .ref 233, .ref 234, .ref 235, .ref 236, .null, .int (nI 0)])) rfl hc15_212 rfl
  generalize hze16 : (List.set _ 212 _ : am_H) = hz16 at hf16 hc16_212 hc16_213 hc16_214 hc16_215 hc16_216 hc16_233 hc16_234 hc16_235 hc16_236 ⊢
  clear hze16
  refine am_Rq.blk (is := [(.aload_n 0, 1), (.iconst 5, 1)]) (q := (58, [some (.ref 212)], [.int (nI 5), .ref 212])) (by decide +kernel) rfl ?_
  dsimp only
  have hx17 := hx15.fr hf16 (fun q q1 q2 => by have q1 : q = _ := q1; first | omega | exact q1 | (have hxl := hx15.1; omega))
  have hl17 := hf16.1.trans hl15
  have hR17 := fun (e : Nat) (he : e < 16) => (hf16.2.2 _ (fun q => by omega)).trans (hR15 e he)
  refine am_Rq.nwI (n := 5) (show decode (am_by 6) 58 = .ok (.newarray .int, 2) by decide +kernel) (by omega) ?_
  skip
  show am_Rq _ _ _ _ (.ref (List.length _) :: _) (_ ++ [(100, (am_ia (fun _ => nI 0) 5))]) _
  rw [hl17]
  have hc18_212 := ap_old (x := (100, (am_ia (fun _ => nI 0) 5))) hc16_212
  have hc18_213 := ap_old (x := (100, (am_ia (fun _ => nI 0) 5))) hc16_213
  have hc18_214 := ap_old (x := (100, (am_ia (fun _ => nI 0) 5))) hc16_214
  have hc18_215 := ap_old (x := (100, (am_ia (fun _ => nI 0) 5))) hc16_215
  have hc18_216 := ap_old (x := (100, (am_ia (fun _ => nI 0) 5))) hc16_216
  have hc18_233 := ap_old (x := (100, (am_ia (fun _ => nI 0) 5))) hc16_233
  have hc18_234 := ap_old (x := (100, (am_ia (fun _ => nI 0) 5))) hc16_234
  have hc18_235 := ap_old (x := (100, (am_ia (fun _ => nI 0) 5))) hc16_235
  have hc18_236 := ap_old (x := (100, (am_ia (fun _ => nI 0) 5))) hc16_236
  have hR18 := fun (e : Nat) (he : e < 16) => ap_old (x := (100, (am_ia (fun _ => nI 0) 5))) (hR17 e he)
  have hn18 := ap_new (c := (100, (am_ia (fun _ => nI 0) 5))) hl17
  have hx18 := hx17.push (100, (am_ia (fun _ => nI 0) 5))
  have hl18 : List.length _ = 238 := ap_len (c := (100, (am_ia (fun _ => nI 0) 5))) hl17
  generalize hze18 : (_ ++ [_] : am_H) = hz18 at hn18 hx18 hl18 hc18_212 hc18_213 hc18_214 hc18_215 hc18_216 hc18_233 hc18_234 hc18_235 hc18_236 hR18 ⊢
  clear hze18
  refine am_Rq.putf (show decode (am_by 6) 60 = .ok (.putfield 38, 3) by decide +kernel) rfl hc18_212 (Nat.le_of_ble_eq_true rfl) rfl (by first | exact Or.inl rfl | exact Or.inr ⟨rfl, rfl⟩) (by omega) ?_
  show am_Rq _ _ _ _ _ (List.set _ 212 (6, [.ref 213, .ref 216, .ref 233, .ref 234, .ref 235, .ref 236, .ref 237, .int (nI 0)])) _
  have hc19_212 := am_ss (c' := (6, [.ref 213, .ref 216, .ref 233, .ref 234, .ref 235, .ref 236, .ref 237, .int (nI 0)])) hc18_212
  have hc19_213 := (am_sn (c' := (6, [.ref 213, .ref 216, .ref 233, .ref 234, .ref 235, .ref 236, .ref 237, .int (nI 0)])) (show 212 ≠ 213 by omega)).trans hc18_213
  have hc19_214 := (am_sn (c' := (6, [.ref 213, .ref 216, .ref 233, .ref 234, .ref 235, .ref 236, .ref 237, .int (nI 0)])) (show 212 ≠ 214 by omega)).trans hc18_214
  have hc19_215 := (am_sn (c' := (6, [.ref 213, .ref 216, .ref 233, .ref 234, .ref 235, .ref 236, .ref 237, .int (nI 0)])) (show 212 ≠ 215 by omega)).trans hc18_215
  have hc19_216 := (am_sn (c' := (6, [.ref 213, .ref 216, .ref 233, .ref 234, .ref 235, .ref 236, .ref 237, .int (nI 0)])) (show 212 ≠ 216 by omega)).trans hc18_216
  have hc19_233 := (am_sn (c' := (6, [.ref 213, .ref 216, .ref 233, .ref 234, .ref 235, .ref 236, .ref 237, .int (nI 0)])) (show 212 ≠ 233 by omega)).trans hc18_233
  have hc19_234 := (am_sn (c' := (6, [.ref 213, .ref 216, .ref 233, .ref 234, .ref 235, .ref 236, .ref 237, .int (nI 0)])) (show 212 ≠ 234 by omega)).trans hc18_234
  have hc19_235 := (am_sn (c' := (6, [.ref 213, .ref 216, .ref 233, .ref 234, .ref 235, .ref 236, .ref 237, .int (nI 0)])) (show 212 ≠ 235 by omega)).trans hc18_235
  have hc19_236 := (am_sn (c' := (6, [.ref 213, .ref 216, .ref 233, .ref 234, .ref 235, .ref 236, .ref 237, .int (nI 0)])) (show 212 ≠ 236 by omega)).trans hc18_236
  have hc19_237 := (am_sn (c' := (6, [.ref 213, .ref 216, .ref 233, .ref 234, .ref 235, .ref 236, .ref 237, .int (nI 0)])) (show 212 ≠ 237 by omega)).trans hn18
  have hf19 := (am_fr.rf (A := fun q => q = 212)).set (c' := (6, [.ref 213, .ref 216, .ref 233, .ref 234, .ref 235, .ref 236, .ref 237, .int (nI 0)])) rfl hc18_212 rfl
  generalize hze19 : (List.set _ 212 _ : am_H) = hz19 at hf19 hc19_212 hc19_213 hc19_214 hc19_215 hc19_216 hc19_233 hc19_234 hc19_235 hc19_236 hc19_237 ⊢
  clear hze19
  have hx20 := hx18.fr hf19 (fun q q1 q2 => by have q1 : q = _ := q1; first | omega | exact q1 | (have hxl := hx18.1; omega))
  have hl20 := hf19.1.trans hl18
  have hR20 := fun (e : Nat) (he : e < 16) => (hf19.2.2 _ (fun q => by omega)).trans (hR18 e he)
  refine am_Rq.ret (v := none) (show decode (am_by 6) 63 = .ok (.return_, 1) by decide +kernel) rfl rfl ?_
  refine ⟨_, rfl, rfl, ⟨hc19_212, hc19_213, ⟨_, hc19_214⟩, ⟨_, hc19_215⟩, hc19_216, ⟨_, hc19_234⟩, ⟨_, hc19_235⟩, ⟨_, hc19_236⟩, ⟨_, hc19_237⟩, fun _ => 0, hc19_233, fun e he => ⟨Nat.zero_le 1, _, hR20 e he, Or.inl rfl⟩⟩, hl20, by simpa [am_ia_len, am_la_len, am_ra_len] using hx20⟩
theorem n_ss (hT : hp[1]? = some (100, am_ia (fun k => nI (sl_ord k)) 16)) (h : hp[2]? = some (0, [.null, .null, .null])) (hN : hp.length = 3) : am_Rq (d + 3) 1 0 (am_en [.ref 2] 1) [] hp (am_Ret fun hp1 v => v = none ∧ CS hp1 (mt (fun _ => 0)) 0 0 (fun _ => t00) ∧ hp1.length = 238 ∧ ex (fun x => x = 2) hp hp1 235 1769) := by
  show am_Rq _ 1 0 [some (.ref 2)] [] _ _
  have hx0 : ex (fun x => x = 2) hp hp 0 0 := ex.rf
  refine am_Rq.blk (is := [(.aload_n 0, 1)]) (q := (1, [some (.ref 2)], [.ref 2])) (by decide +kernel) rfl ?_
  dsimp only
  refine am_Rq.oi (show decode (am_by 1) 1 = .ok (.invokespecial 3, 3) by decide +kernel) rfl rfl (Nat.le_of_ble_eq_true rfl) ?_
  refine am_Rq.blk (is := [(.aload_n 0, 1)]) (q := (5, [some (.ref 2)], [.ref 2])) (by decide +kernel) rfl ?_
  dsimp only
  refine am_Rq.new (ci := 3) (show decode (am_by 1) 5 = .ok (.new 9, 3) by decide +kernel) rfl rfl ?_
  skip
  show am_Rq _ _ _ _ (.ref (List.length _) :: _) (_ ++ [(3, [.null, .null, .int (nI 0), .int (nI 0), .int (nI 0), .int (nI 0)])]) _
  rw [hN]
  have hc1_1 := ap_old (x := (3, [.null, .null, .int (nI 0), .int (nI 0), .int (nI 0), .int (nI 0)])) hT
  have hc1_2 := ap_old (x := (3, [.null, .null, .int (nI 0), .int (nI 0), .int (nI 0), .int (nI 0)])) h
  have hn1 := ap_new (c := (3, [.null, .null, .int (nI 0), .int (nI 0), .int (nI 0), .int (nI 0)])) hN
  have hx1 := hx0.push (3, [.null, .null, .int (nI 0), .int (nI 0), .int (nI 0), .int (nI 0)])
  have hl1 : List.length _ = 4 := ap_len (c := (3, [.null, .null, .int (nI 0), .int (nI 0), .int (nI 0), .int (nI 0)])) hN
  generalize hze1 : (_ ++ [_] : am_H) = hz1 at hn1 hx1 hl1 hc1_1 hc1_2 ⊢
  clear hze1
  refine am_Rq.blk (is := [(.dup, 1)]) (q := (9, [some (.ref 2)], [.ref 3, .ref 3, .ref 2])) (by decide +kernel) rfl ?_
  dsimp only
  refine am_Rq.callI (show decode (am_by 1) 9 = .ok (.invokespecial 11, 3) by decide +kernel) rfl [.ref 3, .ref 2] rfl rfl (Nat.le_of_ble_eq_true rfl) rfl rfl (n_led hn1 (by omega) hl1) ?_
  rintro hpa _ ⟨rfl, aL, al, aax⟩
  have aa_1 := (aax.2.2 1 (by rw [hl1]; omega) (by omega)).trans hc1_1
  have aa_2 := (aax.2.2 2 (by rw [hl1]; omega) (by omega)).trans hc1_2
  have aay := hx1.trans aax (fun q q1 q2 => by have hxl := hx1.1; omega)
  show am_Rq _ 1 12 [some (.ref 2)] [.ref 3, .ref 2] _ _
  refine am_Rq.putf (show decode (am_by 1) 12 = .ok (.putfield 12, 3) by decide +kernel) rfl aa_2 (Nat.le_of_ble_eq_true rfl) rfl (by first | exact Or.inl rfl | exact Or.inr ⟨rfl, rfl⟩) (by omega) ?_
  show am_Rq _ _ _ _ _ (List.set _ 2 (0, [.ref 3, .null, .null])) _
  have hc2_1 := (am_sn (c' := (0, [.ref 3, .null, .null])) (show 2 ≠ 1 by omega)).trans aa_1
  have hc2_2 := am_ss (c' := (0, [.ref 3, .null, .null])) aa_2
  have hf2 := (am_fr.rf (A := fun q => q = 2)).set (c' := (0, [.ref 3, .null, .null])) rfl aa_2 rfl
  generalize hze2 : (List.set _ 2 _ : am_H) = hz2 at hf2 hc2_1 hc2_2 ⊢
  clear hze2
  refine am_Rq.blk (is := [(.aload_n 0, 1)]) (q := (16, [some (.ref 2)], [.ref 2])) (by decide +kernel) rfl ?_
  dsimp only
  have hx3 := aay.fr hf2 (fun q q1 q2 => by have q1 : q = _ := q1; first | omega | exact q1 | (have hxl := aay.1; omega))
  have hl3 := hf2.1.trans al
  have aL3 := aL.kept (fun a ha => hf2.2.2 a (fun q => by obtain ⟨_, _⟩ := ha; omega))
  refine am_Rq.new (ci := 4) (show decode (am_by 1) 16 = .ok (.new 16, 3) by decide +kernel) rfl rfl ?_
  skip
  show am_Rq _ _ _ _ (.ref (List.length _) :: _) (_ ++ [(4, [.null, .int (nI 0), .int (nI 0)])]) _
  rw [hl3]
  have hc4_1 := ap_old (x := (4, [.null, .int (nI 0), .int (nI 0)])) hc2_1
  have hc4_2 := ap_old (x := (4, [.null, .int (nI 0), .int (nI 0)])) hc2_2
  have aL4 := aL3.ap (x := (4, [.null, .int (nI 0), .int (nI 0)]))
  have hn4 := ap_new (c := (4, [.null, .int (nI 0), .int (nI 0)])) hl3
  have hx4 := hx3.push (4, [.null, .int (nI 0), .int (nI 0)])
  have hl4 : List.length _ = 27 := ap_len (c := (4, [.null, .int (nI 0), .int (nI 0)])) hl3
  generalize hze4 : (_ ++ [_] : am_H) = hz4 at hn4 hx4 hl4 hc4_1 hc4_2 aL4 ⊢
  clear hze4
  refine am_Rq.blk (is := [(.dup, 1)]) (q := (20, [some (.ref 2)], [.ref 26, .ref 26, .ref 2])) (by decide +kernel) rfl ?_
  dsimp only
  refine am_Rq.callI (show decode (am_by 1) 20 = .ok (.invokespecial 18, 3) by decide +kernel) rfl [.ref 26, .ref 2] rfl rfl (Nat.le_of_ble_eq_true rfl) rfl rfl (n_hi hn4 hl4) ?_
  rintro hpb _ ⟨rfl, bH, bl, bbx⟩
  have bb_1 := (bbx.2.2 1 (by rw [hl4]; omega) (by omega)).trans hc4_1
  have bb_2 := (bbx.2.2 2 (by rw [hl4]; omega) (by omega)).trans hc4_2
  have bby := hx4.trans bbx (fun q q1 q2 => by have hxl := hx4.1; omega)
  have bL := aL4.exk bbx (fun a ha => by obtain ⟨_, _⟩ := ha; omega)
  show am_Rq _ 1 23 [some (.ref 2)] [.ref 26, .ref 2] _ _
  refine am_Rq.putf (show decode (am_by 1) 23 = .ok (.putfield 19, 3) by decide +kernel) rfl bb_2 (Nat.le_of_ble_eq_true rfl) rfl (by first | exact Or.inl rfl | exact Or.inr ⟨rfl, rfl⟩) (by omega) ?_
  show am_Rq _ _ _ _ _ (List.set _ 2 (0, [.ref 3, .ref 26, .null])) _
  have hc5_1 := (am_sn (c' := (0, [.ref 3, .ref 26, .null])) (show 2 ≠ 1 by omega)).trans bb_1
  have hc5_2 := am_ss (c' := (0, [.ref 3, .ref 26, .null])) bb_2
  have hf5 := (am_fr.rf (A := fun q => q = 2)).set (c' := (0, [.ref 3, .ref 26, .null])) rfl bb_2 rfl
  generalize hze5 : (List.set _ 2 _ : am_H) = hz5 at hf5 hc5_1 hc5_2 ⊢
  clear hze5
  refine am_Rq.blk (is := [(.aload_n 0, 1)]) (q := (27, [some (.ref 2)], [.ref 2])) (by decide +kernel) rfl ?_
  dsimp only
  have hx6 := bby.fr hf5 (fun q q1 q2 => by have q1 : q = _ := q1; first | omega | exact q1 | (have hxl := bby.1; omega))
  have hl6 := hf5.1.trans bl
  have bL6 := bL.kept (fun a ha => hf5.2.2 a (fun q => by obtain ⟨_, _⟩ := ha; omega))
  have bH6 := bH.kept (fun a ha => hf5.2.2 a (fun q => by obtain ⟨_, _⟩ := ha; omega))
  refine am_Rq.new (ci := 6) (show decode (am_by 1) 27 = .ok (.new 23, 3) by decide +kernel) rfl rfl ?_
  skip
  show am_Rq _ _ _ _ (.ref (List.length _) :: _) (_ ++ [(6, [.null, .null, .null, .null, .null, .null, .null, .int (nI 0)])]) _
  rw [hl6]
  have hc7_1 := ap_old (x := (6, [.null, .null, .null, .null, .null, .null, .null, .int (nI 0)])) hc5_1
  have hc7_2 := ap_old (x := (6, [.null, .null, .null, .null, .null, .null, .null, .int (nI 0)])) hc5_2
  have bL7 := bL6.ap (x := (6, [.null, .null, .null, .null, .null, .null, .null, .int (nI 0)]))
  have bH7 := bH6.ap (x := (6, [.null, .null, .null, .null, .null, .null, .null, .int (nI 0)]))
  have hn7 := ap_new (c := (6, [.null, .null, .null, .null, .null, .null, .null, .int (nI 0)])) hl6
  have hx7 := hx6.push (6, [.null, .null, .null, .null, .null, .null, .null, .int (nI 0)])
  have hl7 : List.length _ = 213 := ap_len (c := (6, [.null, .null, .null, .null, .null, .null, .null, .int (nI 0)])) hl6
  generalize hze7 : (_ ++ [_] : am_H) = hz7 at hn7 hx7 hl7 hc7_1 hc7_2 bL7 bH7 ⊢
  clear hze7
  refine am_Rq.blk (is := [(.dup, 1)]) (q := (31, [some (.ref 2)], [.ref 212, .ref 212, .ref 2])) (by decide +kernel) rfl ?_
  dsimp only
  refine am_Rq.callI (show decode (am_by 1) 31 = .ok (.invokespecial 25, 3) by decide +kernel) rfl [.ref 212, .ref 2] rfl rfl (Nat.le_of_ble_eq_true rfl) rfl rfl (n_sa hn7 hl7) ?_
  rintro hpc _ ⟨rfl, cS, cl, ccx⟩
  have cc_1 := (ccx.2.2 1 (by rw [hl7]; omega) (by omega)).trans hc7_1
  have cc_2 := (ccx.2.2 2 (by rw [hl7]; omega) (by omega)).trans hc7_2
  have ccy := hx7.trans ccx (fun q q1 q2 => by have hxl := hx7.1; omega)
  have cL := bL7.exk ccx (fun a ha => by obtain ⟨_, _⟩ := ha; omega)
  have cH := bH7.exk ccx (fun a ha => by obtain ⟨_, _⟩ := ha; omega)
  show am_Rq _ 1 34 [some (.ref 2)] [.ref 212, .ref 2] _ _
  refine am_Rq.putf (show decode (am_by 1) 34 = .ok (.putfield 26, 3) by decide +kernel) rfl cc_2 (Nat.le_of_ble_eq_true rfl) rfl (by first | exact Or.inl rfl | exact Or.inr ⟨rfl, rfl⟩) (by omega) ?_
  show am_Rq _ _ _ _ _ (List.set _ 2 (0, [.ref 3, .ref 26, .ref 212])) _
  have hc8_1 := (am_sn (c' := (0, [.ref 3, .ref 26, .ref 212])) (show 2 ≠ 1 by omega)).trans cc_1
  have hc8_2 := am_ss (c' := (0, [.ref 3, .ref 26, .ref 212])) cc_2
  have hf8 := (am_fr.rf (A := fun q => q = 2)).set (c' := (0, [.ref 3, .ref 26, .ref 212])) rfl cc_2 rfl
  generalize hze8 : (List.set _ 2 _ : am_H) = hz8 at hf8 hc8_1 hc8_2 ⊢
  clear hze8
  have hx9 := ccy.fr hf8 (fun q q1 q2 => by have q1 : q = _ := q1; first | omega | exact q1 | (have hxl := ccy.1; omega))
  have hl9 := hf8.1.trans cl
  have cL9 := cL.kept (fun a ha => hf8.2.2 a (fun q => by obtain ⟨_, _⟩ := ha; omega))
  have cH9 := cH.kept (fun a ha => hf8.2.2 a (fun q => by obtain ⟨_, _⟩ := ha; omega))
  have cS9 := cS.kept (fun a a1 a2 => hf8.2.2 a (fun q => by omega))
  refine am_Rq.ret (v := none) (show decode (am_by 1) 37 = .ok (.return_, 1) by decide +kernel) rfl rfl ?_
  exact ⟨_, rfl, rfl, ⟨hc8_1, hc8_2, cL9, cH9, _, _, cS9⟩, hl9, by simpa using hx9⟩
end ND
