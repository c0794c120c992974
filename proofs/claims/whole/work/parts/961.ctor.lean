/-! The constructors (rows by prog/ctor.py). -/
/-- the row of a new ledger -/
def t00 : Nat → Nat := mt (fun _ => 0)
theorem t00_c : ∀ c, c < 5 → t00 (8 * c) = 1 ∧ t00 (8 * c + 1) = 0 ∧ t00 (8 * c + 2) = 0 ∧ t00 (8 * c + 3) = 0 ∧ t00 (8 * c + 4) = 0 ∧ t00 (8 * c + 5) = 0 ∧ t00 (8 * c + 6) = 1000 ∧ t00 (8 * c + 7) = 0 := by decide
theorem t00_h {q : Nat} (h1 : 40 ≤ q) (h2 : q < 153) : t00 q = 0 := mt_h h1 h2
theorem t00_n : t00 153 = 1 := mt_n
theorem n_scE {b c : Nat} (hc : c < 5) : c_sc t00 b c = [.int (nI 1), .int (nI 0), .int (nI 0), .int (nI 0), .int (nI 0), .int (nI 0), .int (nI 1000), .int (nI 0), .ref (b + 3 + 2 * c)] := by
  obtain ⟨e0, e1, e2, e3, e4, e5, e6, e7⟩ := t00_c c hc
  unfold c_sc
  rw [e0, e1, e2, e3, e4, e5, e6, e7]
theorem n_hdE {c : Nat} (hc : c < 5) : c_hd t00 c = am_ia (fun _ => nI 0) 8 := c_ia_congr (fun k hk => by rw [t00_h (by omega) (by omega)])
theorem n_grE {g : Nat} (hg : g < 10) : c_gr t00 g = [.int (nI 0), .int (nI 0), .int (nI 0), .int (nI 0), .int (nI 0), .int (nI 0), .int (nI 0)] := by
  unfold c_gr
  rw [t00_h (by omega) (by omega), t00_h (by omega) (by omega), t00_h (by omega) (by omega), t00_h (by omega) (by omega), t00_h (by omega) (by omega), t00_h (by omega) (by omega), t00_h (by omega) (by omega)]
theorem n_lgE {b : Nat} : c_lg t00 b = [.ref (b + 1), .ref (b + 12), .int (nI 1), .int (nI 0), .int (nI 0), .int (nI 0)] := by
  unfold c_lg
  rw [t00_n, t00_h (by omega) (by omega), t00_h (by omega) (by omega), t00_h (by omega) (by omega)]
section NC
variable {d : Nat} {hp : am_H}
theorem n_gr {a : Nat} : am_Rq d 4 0 (am_en [.ref a] 1) [] hp (am_Ret fun hp1 v => v = none ∧ hp1 = hp) := by
  show am_Rq _ 4 0 [some (.ref a)] [] _ _
  have hx0 : ex (fun x => x = a) hp hp 0 0 := ex.rf
  refine am_Rq.blk (is := [(.aload_n 0, 1)]) (q := (1, [some (.ref a)], [.ref a])) (by decide +kernel) rfl ?_
  dsimp only
  refine am_Rq.oi (show decode (am_by 4) 1 = .ok (.invokespecial 1, 3) by decide +kernel) rfl rfl (Nat.le_of_ble_eq_true rfl) ?_
  refine am_Rq.ret (v := none) (show decode (am_by 4) 4 = .ok (.return_, 1) by decide +kernel) rfl rfl ?_
  exact ⟨_, rfl, rfl, rfl⟩
theorem n_sc {a N : Nat} (h : hp[a]? = some (1, [.int (nI 0), .int (nI 0), .int (nI 0), .int (nI 0), .int (nI 0), .int (nI 0), .int (nI 0), .int (nI 0), .null])) (ha : 2 ≤ a) (haN : a < N) (hN : hp.length = N) : am_Rq d 3 0 (am_en [.ref a] 1) [] hp (am_Ret fun hp1 v => v = none ∧ hp1[a]? = some (1, [.int (nI 1), .int (nI 0), .int (nI 0), .int (nI 0), .int (nI 0), .int (nI 0), .int (nI 1000), .int (nI 0), .ref N]) ∧ hp1[N]? = some (100, am_ia (fun _ => nI 0) 8) ∧ hp1.length = N + 1 ∧ ex (fun x => x = a) hp hp1 1 8) := by
  show am_Rq _ 3 0 [some (.ref a)] [] _ _
  have hx0 : ex (fun x => x = a) hp hp 0 0 := ex.rf
  refine am_Rq.blk (is := [(.aload_n 0, 1)]) (q := (1, [some (.ref a)], [.ref a])) (by decide +kernel) rfl ?_
  dsimp only
  refine am_Rq.oi (show decode (am_by 3) 1 = .ok (.invokespecial 3, 3) by decide +kernel) rfl rfl (Nat.le_of_ble_eq_true rfl) ?_
  refine am_Rq.blk (is := [(.aload_n 0, 1), (.iconst 1, 1)]) (q := (6, [some (.ref a)], [.int (nI 1), .ref a])) (by decide +kernel) rfl ?_
  dsimp only
  refine am_Rq.putf (show decode (am_by 3) 6 = .ok (.putfield 9, 3) by decide +kernel) rfl h (Nat.le_of_ble_eq_true rfl) rfl (by first | exact Or.inl rfl | exact Or.inr ⟨rfl, rfl⟩) (by omega) ?_
  show am_Rq _ _ _ _ _ (List.set _ a (1, [.int (nI 1), .int (nI 0), .int (nI 0), .int (nI 0), .int (nI 0), .int (nI 0), .int (nI 0), .int (nI 0), .null])) _
  have hc1_a := am_ss (c' := (1, [.int (nI 1), .int (nI 0), .int (nI 0), .int (nI 0), .int (nI 0), .int (nI 0), .int (nI 0), .int (nI 0), .null])) h
  have hf1 := (am_fr.rf (A := fun q => q = a)).set (c' := (1, [.int (nI 1), .int (nI 0), .int (nI 0), .int (nI 0), .int (nI 0), .int (nI 0), .int (nI 0), .int (nI 0), .null])) rfl h rfl
  generalize hze1 : (List.set _ a _ : am_H) = hz1 at hf1 hc1_a ⊢
  clear hze1
  refine am_Rq.blk (is := [(.aload_n 0, 1), (.sipush 1000, 3)]) (q := (13, [some (.ref a)], [.int (nI 1000), .ref a])) (by decide +kernel) rfl ?_
  dsimp only
  refine am_Rq.putf (show decode (am_by 3) 13 = .ok (.putfield 15, 3) by decide +kernel) rfl hc1_a (Nat.le_of_ble_eq_true rfl) rfl (by first | exact Or.inl rfl | exact Or.inr ⟨rfl, rfl⟩) (by omega) ?_
  show am_Rq _ _ _ _ _ (List.set _ a (1, [.int (nI 1), .int (nI 0), .int (nI 0), .int (nI 0), .int (nI 0), .int (nI 0), .int (nI 1000), .int (nI 0), .null])) _
  have hc2_a := am_ss (c' := (1, [.int (nI 1), .int (nI 0), .int (nI 0), .int (nI 0), .int (nI 0), .int (nI 0), .int (nI 1000), .int (nI 0), .null])) hc1_a
  have hf2 := (am_fr.rf (A := fun q => q = a)).set (c' := (1, [.int (nI 1), .int (nI 0), .int (nI 0), .int (nI 0), .int (nI 0), .int (nI 0), .int (nI 1000), .int (nI 0), .null])) rfl hc1_a rfl
  generalize hze2 : (List.set _ a _ : am_H) = hz2 at hf2 hc2_a ⊢
  clear hze2
  refine am_Rq.blk (is := [(.aload_n 0, 1), (.bipush 8, 2)]) (q := (19, [some (.ref a)], [.int (nI 8), .ref a])) (by decide +kernel) rfl ?_
  dsimp only
  have hx3 := hx0.fr hf1 (fun q q1 q2 => by have q1 : q = _ := q1; first | omega | exact q1 | (have hxl := hx0.1; omega))
  have hl3 := hf1.1.trans hN
  have hx4 := hx3.fr hf2 (fun q q1 q2 => by have q1 : q = _ := q1; first | omega | exact q1 | (have hxl := hx3.1; omega))
  have hl4 := hf2.1.trans hl3
  refine am_Rq.nwI (n := 8) (show decode (am_by 3) 19 = .ok (.newarray .int, 2) by decide +kernel) (by omega) ?_
  skip
  show am_Rq _ _ _ _ (.ref (List.length _) :: _) (_ ++ [(100, (am_ia (fun _ => nI 0) 8))]) _
  rw [hl4]
  have hc5_a := ap_old (x := (100, (am_ia (fun _ => nI 0) 8))) hc2_a
  have hn5 := ap_new (c := (100, (am_ia (fun _ => nI 0) 8))) hl4
  have hx5 := hx4.push (100, (am_ia (fun _ => nI 0) 8))
  have hl5 : List.length _ = N + 1 := ap_len (c := (100, (am_ia (fun _ => nI 0) 8))) hl4
  generalize hze5 : (_ ++ [_] : am_H) = hz5 at hn5 hx5 hl5 hc5_a ⊢
  clear hze5
  refine am_Rq.putf (show decode (am_by 3) 21 = .ok (.putfield 18, 3) by decide +kernel) rfl hc5_a (Nat.le_of_ble_eq_true rfl) rfl (by first | exact Or.inl rfl | exact Or.inr ⟨rfl, rfl⟩) (by omega) ?_
  show am_Rq _ _ _ _ _ (List.set _ a (1, [.int (nI 1), .int (nI 0), .int (nI 0), .int (nI 0), .int (nI 0), .int (nI 0), .int (nI 1000), .int (nI 0), .ref N])) _
  have hc6_a := am_ss (c' := (1, [.int (nI 1), .int (nI 0), .int (nI 0), .int (nI 0), .int (nI 0), .int (nI 0), .int (nI 1000), .int (nI 0), .ref N])) hc5_a
  have hc6_N := (am_sn (c' := (1, [.int (nI 1), .int (nI 0), .int (nI 0), .int (nI 0), .int (nI 0), .int (nI 0), .int (nI 1000), .int (nI 0), .ref N])) (show a ≠ N by omega)).trans hn5
  have hf6 := (am_fr.rf (A := fun q => q = a)).set (c' := (1, [.int (nI 1), .int (nI 0), .int (nI 0), .int (nI 0), .int (nI 0), .int (nI 0), .int (nI 1000), .int (nI 0), .ref N])) rfl hc5_a rfl
  generalize hze6 : (List.set _ a _ : am_H) = hz6 at hf6 hc6_a hc6_N ⊢
  clear hze6
  have hx7 := hx5.fr hf6 (fun q q1 q2 => by have q1 : q = _ := q1; first | omega | exact q1 | (have hxl := hx5.1; omega))
  have hl7 := hf6.1.trans hl5
  refine am_Rq.ret (v := none) (show decode (am_by 3) 24 = .ok (.return_, 1) by decide +kernel) rfl rfl ?_
  exact ⟨_, rfl, rfl, hc6_a, hc6_N, hl7, hx7⟩
theorem n_sh {a N : Nat} (h : hp[a]? = some (5, [.null, .null])) (ha : 2 ≤ a) (haN : a < N) (hN : hp.length = N) : am_Rq d 7 0 (am_en [.ref a] 1) [] hp (am_Ret fun hp1 v => v = none ∧ hp1[a]? = some (5, [.ref N, .ref (N + 1)]) ∧ hp1[N]? = some (100, am_ia (fun _ => nI 0) 8) ∧ hp1[N + 1]? = some (101, am_la (fun _ => lN 0) 8) ∧ hp1.length = N + 2 ∧ ex (fun x => x = a) hp hp1 2 16) := by
  show am_Rq _ 7 0 [some (.ref a)] [] _ _
  have hx0 : ex (fun x => x = a) hp hp 0 0 := ex.rf
  refine am_Rq.blk (is := [(.aload_n 0, 1)]) (q := (1, [some (.ref a)], [.ref a])) (by decide +kernel) rfl ?_
  dsimp only
  refine am_Rq.oi (show decode (am_by 7) 1 = .ok (.invokespecial 3, 3) by decide +kernel) rfl rfl (Nat.le_of_ble_eq_true rfl) ?_
  refine am_Rq.blk (is := [(.aload_n 0, 1), (.bipush 8, 2)]) (q := (7, [some (.ref a)], [.int (nI 8), .ref a])) (by decide +kernel) rfl ?_
  dsimp only
  refine am_Rq.nwI (n := 8) (show decode (am_by 7) 7 = .ok (.newarray .int, 2) by decide +kernel) (by omega) ?_
  skip
  show am_Rq _ _ _ _ (.ref (List.length _) :: _) (_ ++ [(100, (am_ia (fun _ => nI 0) 8))]) _
  rw [hN]
  have hc1_a := ap_old (x := (100, (am_ia (fun _ => nI 0) 8))) h
  have hn1 := ap_new (c := (100, (am_ia (fun _ => nI 0) 8))) hN
  have hx1 := hx0.push (100, (am_ia (fun _ => nI 0) 8))
  have hl1 : List.length _ = N + 1 := ap_len (c := (100, (am_ia (fun _ => nI 0) 8))) hN
  generalize hze1 : (_ ++ [_] : am_H) = hz1 at hn1 hx1 hl1 hc1_a ⊢
  clear hze1
  refine am_Rq.putf (show decode (am_by 7) 9 = .ok (.putfield 9, 3) by decide +kernel) rfl hc1_a (Nat.le_of_ble_eq_true rfl) rfl (by first | exact Or.inl rfl | exact Or.inr ⟨rfl, rfl⟩) (by omega) ?_
  show am_Rq _ _ _ _ _ (List.set _ a (5, [.ref N, .null])) _
  have hc2_a := am_ss (c' := (5, [.ref N, .null])) hc1_a
  have hc2_N := (am_sn (c' := (5, [.ref N, .null])) (show a ≠ N by omega)).trans hn1
  have hf2 := (am_fr.rf (A := fun q => q = a)).set (c' := (5, [.ref N, .null])) rfl hc1_a rfl
  generalize hze2 : (List.set _ a _ : am_H) = hz2 at hf2 hc2_a hc2_N ⊢
  clear hze2
  refine am_Rq.blk (is := [(.aload_n 0, 1), (.bipush 8, 2)]) (q := (15, [some (.ref a)], [.int (nI 8), .ref a])) (by decide +kernel) rfl ?_
  dsimp only
  have hx3 := hx1.fr hf2 (fun q q1 q2 => by have q1 : q = _ := q1; first | omega | exact q1 | (have hxl := hx1.1; omega))
  have hl3 := hf2.1.trans hl1
  refine am_Rq.nwL (n := 8) (show decode (am_by 7) 15 = .ok (.newarray .long, 2) by decide +kernel) (by omega) ?_
  skip
  show am_Rq _ _ _ _ (.ref (List.length _) :: _) (_ ++ [(101, (am_la (fun _ => lN 0) 8))]) _
  rw [hl3]
  have hc4_a := ap_old (x := (101, (am_la (fun _ => lN 0) 8))) hc2_a
  have hc4_N := ap_old (x := (101, (am_la (fun _ => lN 0) 8))) hc2_N
  have hn4 := ap_new (c := (101, (am_la (fun _ => lN 0) 8))) hl3
  have hx4 := hx3.push (101, (am_la (fun _ => lN 0) 8))
  have hl4 : List.length _ = N + 2 := ap_len (c := (101, (am_la (fun _ => lN 0) 8))) hl3
  generalize hze4 : (_ ++ [_] : am_H) = hz4 at hn4 hx4 hl4 hc4_a hc4_N ⊢
  clear hze4
  refine am_Rq.putf (show decode (am_by 7) 17 = .ok (.putfield 15, 3) by decide +kernel) rfl hc4_a (Nat.le_of_ble_eq_true rfl) rfl (by first | exact Or.inl rfl | exact Or.inr ⟨rfl, rfl⟩) (by omega) ?_
  show am_Rq _ _ _ _ _ (List.set _ a (5, [.ref N, .ref (N + 1)])) _
  have hc5_a := am_ss (c' := (5, [.ref N, .ref (N + 1)])) hc4_a
  have hc5_N := (am_sn (c' := (5, [.ref N, .ref (N + 1)])) (show a ≠ N by omega)).trans hc4_N
  have hc5_N1 := (am_sn (c' := (5, [.ref N, .ref (N + 1)])) (show a ≠ N + 1 by omega)).trans hn4
  have hf5 := (am_fr.rf (A := fun q => q = a)).set (c' := (5, [.ref N, .ref (N + 1)])) rfl hc4_a rfl
  generalize hze5 : (List.set _ a _ : am_H) = hz5 at hf5 hc5_a hc5_N hc5_N1 ⊢
  clear hze5
  have hx6 := hx4.fr hf5 (fun q q1 q2 => by have q1 : q = _ := q1; first | omega | exact q1 | (have hxl := hx4.1; omega))
  have hl6 := hf5.1.trans hl4
  refine am_Rq.ret (v := none) (show decode (am_by 7) 20 = .ok (.return_, 1) by decide +kernel) rfl rfl ?_
  exact ⟨_, rfl, rfl, hc5_a, hc5_N, hc5_N1, hl6, hx6⟩
theorem n_mo (h : hp[238]? = some (7, [.int (nI 0), .null, .null, .int (nI 0), .null, .null, .null, .null, .long (lN 0), .null])) (hN : hp.length = 239) : am_Rq d 89 0 (am_en [.ref 238] 1) [] hp (am_Ret fun hp1 v => v = none ∧ MS hp1 (fun _ => 0) (fun _ => nI 0) 0 0 ∧ hp1.length = 246 ∧ ex (fun x => x = 238) hp hp1 7 1474) := by
  show am_Rq _ 89 0 [some (.ref 238)] [] _ _
  have hx0 : ex (fun x => x = 238) hp hp 0 0 := ex.rf
  refine am_Rq.blk (is := [(.aload_n 0, 1)]) (q := (1, [some (.ref 238)], [.ref 238])) (by decide +kernel) rfl ?_
  dsimp only
  refine am_Rq.oi (show decode (am_by 89) 1 = .ok (.invokespecial 1, 3) by decide +kernel) rfl rfl (Nat.le_of_ble_eq_true rfl) ?_
  refine am_Rq.blk (is := [(.aload_n 0, 1), (.sipush 160, 3)]) (q := (8, [some (.ref 238)], [.int (nI 160), .ref 238])) (by decide +kernel) rfl ?_
  dsimp only
  refine am_Rq.nwI (n := 160) (show decode (am_by 89) 8 = .ok (.newarray .int, 2) by decide +kernel) (by omega) ?_
  skip
  show am_Rq _ _ _ _ (.ref (List.length _) :: _) (_ ++ [(100, (am_ia (fun _ => nI 0) 160))]) _
  rw [hN]
  have hc1_238 := ap_old (x := (100, (am_ia (fun _ => nI 0) 160))) h
  have hn1 := ap_new (c := (100, (am_ia (fun _ => nI 0) 160))) hN
  have hx1 := hx0.push (100, (am_ia (fun _ => nI 0) 160))
  have hl1 : List.length _ = 240 := ap_len (c := (100, (am_ia (fun _ => nI 0) 160))) hN
  generalize hze1 : (_ ++ [_] : am_H) = hz1 at hn1 hx1 hl1 hc1_238 ⊢
  clear hze1
  refine am_Rq.putf (show decode (am_by 89) 10 = .ok (.putfield 7, 3) by decide +kernel) rfl hc1_238 (Nat.le_of_ble_eq_true rfl) rfl (by first | exact Or.inl rfl | exact Or.inr ⟨rfl, rfl⟩) (by omega) ?_
  show am_Rq _ _ _ _ _ (List.set _ 238 (7, [.int (nI 0), .ref 239, .null, .int (nI 0), .null, .null, .null, .null, .long (lN 0), .null])) _
  have hc2_238 := am_ss (c' := (7, [.int (nI 0), .ref 239, .null, .int (nI 0), .null, .null, .null, .null, .long (lN 0), .null])) hc1_238
  have hc2_239 := (am_sn (c' := (7, [.int (nI 0), .ref 239, .null, .int (nI 0), .null, .null, .null, .null, .long (lN 0), .null])) (show 238 ≠ 239 by omega)).trans hn1
  have hf2 := (am_fr.rf (A := fun q => q = 238)).set (c' := (7, [.int (nI 0), .ref 239, .null, .int (nI 0), .null, .null, .null, .null, .long (lN 0), .null])) rfl hc1_238 rfl
  generalize hze2 : (List.set _ 238 _ : am_H) = hz2 at hf2 hc2_238 hc2_239 ⊢
  clear hze2
  refine am_Rq.blk (is := [(.aload_n 0, 1), (.sipush 1280, 3)]) (q := (17, [some (.ref 238)], [.int (nI 1280), .ref 238])) (by decide +kernel) rfl ?_
  dsimp only
  have hx3 := hx1.fr hf2 (fun q q1 q2 => by have q1 : q = _ := q1; first | omega | exact q1 | (have hxl := hx1.1; omega))
  have hl3 := hf2.1.trans hl1
  refine am_Rq.nwI (n := 1280) (show decode (am_by 89) 17 = .ok (.newarray .int, 2) by decide +kernel) (by omega) ?_
  skip
  show am_Rq _ _ _ _ (.ref (List.length _) :: _) (_ ++ [(100, (am_ia (fun _ => nI 0) 1280))]) _
  rw [hl3]
  have hc4_238 := ap_old (x := (100, (am_ia (fun _ => nI 0) 1280))) hc2_238
  have hc4_239 := ap_old (x := (100, (am_ia (fun _ => nI 0) 1280))) hc2_239
  have hn4 := ap_new (c := (100, (am_ia (fun _ => nI 0) 1280))) hl3
  have hx4 := hx3.push (100, (am_ia (fun _ => nI 0) 1280))
  have hl4 : List.length _ = 241 := ap_len (c := (100, (am_ia (fun _ => nI 0) 1280))) hl3
  generalize hze4 : (_ ++ [_] : am_H) = hz4 at hn4 hx4 hl4 hc4_238 hc4_239 ⊢
  clear hze4
  refine am_Rq.putf (show decode (am_by 89) 19 = .ok (.putfield 13, 3) by decide +kernel) rfl hc4_238 (Nat.le_of_ble_eq_true rfl) rfl (by first | exact Or.inl rfl | exact Or.inr ⟨rfl, rfl⟩) (by omega) ?_
  show am_Rq _ _ _ _ _ (List.set _ 238 (7, [.int (nI 0), .ref 239, .ref 240, .int (nI 0), .null, .null, .null, .null, .long (lN 0), .null])) _
  have hc5_238 := am_ss (c' := (7, [.int (nI 0), .ref 239, .ref 240, .int (nI 0), .null, .null, .null, .null, .long (lN 0), .null])) hc4_238
  have hc5_239 := (am_sn (c' := (7, [.int (nI 0), .ref 239, .ref 240, .int (nI 0), .null, .null, .null, .null, .long (lN 0), .null])) (show 238 ≠ 239 by omega)).trans hc4_239
  have hc5_240 := (am_sn (c' := (7, [.int (nI 0), .ref 239, .ref 240, .int (nI 0), .null, .null, .null, .null, .long (lN 0), .null])) (show 238 ≠ 240 by omega)).trans hn4
  have hf5 := (am_fr.rf (A := fun q => q = 238)).set (c' := (7, [.int (nI 0), .ref 239, .ref 240, .int (nI 0), .null, .null, .null, .null, .long (lN 0), .null])) rfl hc4_238 rfl
  generalize hze5 : (List.set _ 238 _ : am_H) = hz5 at hf5 hc5_238 hc5_239 hc5_240 ⊢
  clear hze5
  refine am_Rq.blk (is := [(.aload_n 0, 1), (.bipush 8, 2)]) (q := (25, [some (.ref 238)], [.int (nI 8), .ref 238])) (by decide +kernel) rfl ?_
  dsimp only
  have hx6 := hx4.fr hf5 (fun q q1 q2 => by have q1 : q = _ := q1; first | omega | exact q1 | (have hxl := hx4.1; omega))
  have hl6 := hf5.1.trans hl4
  refine am_Rq.nwL (n := 8) (show decode (am_by 89) 25 = .ok (.newarray .long, 2) by decide +kernel) (by omega) ?_
  skip
  show am_Rq _ _ _ _ (.ref (List.length _) :: _) (_ ++ [(101, (am_la (fun _ => lN 0) 8))]) _
  rw [hl6]
  have hc7_238 := ap_old (x := (101, (am_la (fun _ => lN 0) 8))) hc5_238
  have hc7_239 := ap_old (x := (101, (am_la (fun _ => lN 0) 8))) hc5_239
  have hc7_240 := ap_old (x := (101, (am_la (fun _ => lN 0) 8))) hc5_240
  have hn7 := ap_new (c := (101, (am_la (fun _ => lN 0) 8))) hl6
  have hx7 := hx6.push (101, (am_la (fun _ => lN 0) 8))
  have hl7 : List.length _ = 242 := ap_len (c := (101, (am_la (fun _ => lN 0) 8))) hl6
  generalize hze7 : (_ ++ [_] : am_H) = hz7 at hn7 hx7 hl7 hc7_238 hc7_239 hc7_240 ⊢
  clear hze7
  refine am_Rq.putf (show decode (am_by 89) 27 = .ok (.putfield 16, 3) by decide +kernel) rfl hc7_238 (Nat.le_of_ble_eq_true rfl) rfl (by first | exact Or.inl rfl | exact Or.inr ⟨rfl, rfl⟩) (by omega) ?_
  show am_Rq _ _ _ _ _ (List.set _ 238 (7, [.int (nI 0), .ref 239, .ref 240, .int (nI 0), .ref 241, .null, .null, .null, .long (lN 0), .null])) _
  have hc8_238 := am_ss (c' := (7, [.int (nI 0), .ref 239, .ref 240, .int (nI 0), .ref 241, .null, .null, .null, .long (lN 0), .null])) hc7_238
  have hc8_239 := (am_sn (c' := (7, [.int (nI 0), .ref 239, .ref 240, .int (nI 0), .ref 241, .null, .null, .null, .long (lN 0), .null])) (show 238 ≠ 239 by omega)).trans hc7_239
  have hc8_240 := (am_sn (c' := (7, [.int (nI 0), .ref 239, .ref 240, .int (nI 0), .ref 241, .null, .null, .null, .long (lN 0), .null])) (show 238 ≠ 240 by omega)).trans hc7_240
  have hc8_241 := (am_sn (c' := (7, [.int (nI 0), .ref 239, .ref 240, .int (nI 0), .ref 241, .null, .null, .null, .long (lN 0), .null])) (show 238 ≠ 241 by omega)).trans hn7
  have hf8 := (am_fr.rf (A := fun q => q = 238)).set (c' := (7, [.int (nI 0), .ref 239, .ref 240, .int (nI 0), .ref 241, .null, .null, .null, .long (lN 0), .null])) rfl hc7_238 rfl
  generalize hze8 : (List.set _ 238 _ : am_H) = hz8 at hf8 hc8_238 hc8_239 hc8_240 hc8_241 ⊢
  clear hze8
  refine am_Rq.blk (is := [(.aload_n 0, 1), (.bipush 8, 2)]) (q := (33, [some (.ref 238)], [.int (nI 8), .ref 238])) (by decide +kernel) rfl ?_
  dsimp only
  have hx9 := hx7.fr hf8 (fun q q1 q2 => by have q1 : q = _ := q1; first | omega | exact q1 | (have hxl := hx7.1; omega))
  have hl9 := hf8.1.trans hl7
  refine am_Rq.nwL (n := 8) (show decode (am_by 89) 33 = .ok (.newarray .long, 2) by decide +kernel) (by omega) ?_
  skip
  show am_Rq _ _ _ _ (.ref (List.length _) :: _) (_ ++ [(101, (am_la (fun _ => lN 0) 8))]) _
  rw [hl9]
  have hc10_238 := ap_old (x := (101, (am_la (fun _ => lN 0) 8))) hc8_238
  have hc10_239 := ap_old (x := (101, (am_la (fun _ => lN 0) 8))) hc8_239
  have hc10_240 := ap_old (x := (101, (am_la (fun _ => lN 0) 8))) hc8_240
  have hc10_241 := ap_old (x := (101, (am_la (fun _ => lN 0) 8))) hc8_241
  have hn10 := ap_new (c := (101, (am_la (fun _ => lN 0) 8))) hl9
  have hx10 := hx9.push (101, (am_la (fun _ => lN 0) 8))
  have hl10 : List.length _ = 243 := ap_len (c := (101, (am_la (fun _ => lN 0) 8))) hl9
  generalize hze10 : (_ ++ [_] : am_H) = hz10 at hn10 hx10 hl10 hc10_238 hc10_239 hc10_240 hc10_241 ⊢
  clear hze10
  refine am_Rq.putf (show decode (am_by 89) 35 = .ok (.putfield 20, 3) by decide +kernel) rfl hc10_238 (Nat.le_of_ble_eq_true rfl) rfl (by first | exact Or.inl rfl | exact Or.inr ⟨rfl, rfl⟩) (by omega) ?_
  show am_Rq _ _ _ _ _ (List.set _ 238 (7, [.int (nI 0), .ref 239, .ref 240, .int (nI 0), .ref 241, .ref 242, .null, .null, .long (lN 0), .null])) _
  have hc11_238 := am_ss (c' := (7, [.int (nI 0), .ref 239, .ref 240, .int (nI 0), .ref 241, .ref 242, .null, .null, .long (lN 0), .null])) hc10_238
  have hc11_239 := (am_sn (c' := (7, [.int (nI 0), .ref 239, .ref 240, .int (nI 0), .ref 241, .ref 242, .null, .null, .long (lN 0), .null])) (show 238 ≠ 239 by omega)).trans hc10_239
  have hc11_240 := (am_sn (c' := (7, [.int (nI 0), .ref 239, .ref 240, .int (nI 0), .ref 241, .ref 242, .null, .null, .long (lN 0), .null])) (show 238 ≠ 240 by omega)).trans hc10_240
  have hc11_241 := (am_sn (c' := (7, [.int (nI 0), .ref 239, .ref 240, .int (nI 0), .ref 241, .ref 242, .null, .null, .long (lN 0), .null])) (show 238 ≠ 241 by omega)).trans hc10_241
  have hc11_242 := (am_sn (c' := (7, [.int (nI 0), .ref 239, .ref 240, .int (nI 0), .ref 241, .ref 242, .null, .null, .long (lN 0), .null])) (show 238 ≠ 242 by omega)).trans hn10
  have hf11 := (am_fr.rf (A := fun q => q = 238)).set (c' := (7, [.int (nI 0), .ref 239, .ref 240, .int (nI 0), .ref 241, .ref 242, .null, .null, .long (lN 0), .null])) rfl hc10_238 rfl
  generalize hze11 : (List.set _ 238 _ : am_H) = hz11 at hf11 hc11_238 hc11_239 hc11_240 hc11_241 hc11_242 ⊢
  clear hze11
  refine am_Rq.blk (is := [(.aload_n 0, 1), (.bipush 8, 2)]) (q := (41, [some (.ref 238)], [.int (nI 8), .ref 238])) (by decide +kernel) rfl ?_
  dsimp only
  have hx12 := hx10.fr hf11 (fun q q1 q2 => by have q1 : q = _ := q1; first | omega | exact q1 | (have hxl := hx10.1; omega))
  have hl12 := hf11.1.trans hl10
  refine am_Rq.nwL (n := 8) (show decode (am_by 89) 41 = .ok (.newarray .long, 2) by decide +kernel) (by omega) ?_
  skip
  show am_Rq _ _ _ _ (.ref (List.length _) :: _) (_ ++ [(101, (am_la (fun _ => lN 0) 8))]) _
  rw [hl12]
  have hc13_238 := ap_old (x := (101, (am_la (fun _ => lN 0) 8))) hc11_238
  have hc13_239 := ap_old (x := (101, (am_la (fun _ => lN 0) 8))) hc11_239
  have hc13_240 := ap_old (x := (101, (am_la (fun _ => lN 0) 8))) hc11_240
  have hc13_241 := ap_old (x := (101, (am_la (fun _ => lN 0) 8))) hc11_241
  have hc13_242 := ap_old (x := (101, (am_la (fun _ => lN 0) 8))) hc11_242
  have hn13 := ap_new (c := (101, (am_la (fun _ => lN 0) 8))) hl12
  have hx13 := hx12.push (101, (am_la (fun _ => lN 0) 8))
  have hl13 : List.length _ = 244 := ap_len (c := (101, (am_la (fun _ => lN 0) 8))) hl12
  generalize hze13 : (_ ++ [_] : am_H) = hz13 at hn13 hx13 hl13 hc13_238 hc13_239 hc13_240 hc13_241 hc13_242 ⊢
  clear hze13
  refine am_Rq.putf (show decode (am_by 89) 43 = .ok (.putfield 23, 3) by decide +kernel) rfl hc13_238 (Nat.le_of_ble_eq_true rfl) rfl (by first | exact Or.inl rfl | exact Or.inr ⟨rfl, rfl⟩) (by omega) ?_
  show am_Rq _ _ _ _ _ (List.set _ 238 (7, [.int (nI 0), .ref 239, .ref 240, .int (nI 0), .ref 241, .ref 242, .ref 243, .null, .long (lN 0), .null])) _
  have hc14_238 := am_ss (c' := (7, [.int (nI 0), .ref 239, .ref 240, .int (nI 0), .ref 241, .ref 242, .ref 243, .null, .long (lN 0), .null])) hc13_238
  have hc14_239 := (am_sn (c' := (7, [.int (nI 0), .ref 239, .ref 240, .int (nI 0), .ref 241, .ref 242, .ref 243, .null, .long (lN 0), .null])) (show 238 ≠ 239 by omega)).trans hc13_239
  have hc14_240 := (am_sn (c' := (7, [.int (nI 0), .ref 239, .ref 240, .int (nI 0), .ref 241, .ref 242, .ref 243, .null, .long (lN 0), .null])) (show 238 ≠ 240 by omega)).trans hc13_240
  have hc14_241 := (am_sn (c' := (7, [.int (nI 0), .ref 239, .ref 240, .int (nI 0), .ref 241, .ref 242, .ref 243, .null, .long (lN 0), .null])) (show 238 ≠ 241 by omega)).trans hc13_241
  have hc14_242 := (am_sn (c' := (7, [.int (nI 0), .ref 239, .ref 240, .int (nI 0), .ref 241, .ref 242, .ref 243, .null, .long (lN 0), .null])) (show 238 ≠ 242 by omega)).trans hc13_242
  have hc14_243 := (am_sn (c' := (7, [.int (nI 0), .ref 239, .ref 240, .int (nI 0), .ref 241, .ref 242, .ref 243, .null, .long (lN 0), .null])) (show 238 ≠ 243 by omega)).trans hn13
  have hf14 := (am_fr.rf (A := fun q => q = 238)).set (c' := (7, [.int (nI 0), .ref 239, .ref 240, .int (nI 0), .ref 241, .ref 242, .ref 243, .null, .long (lN 0), .null])) rfl hc13_238 rfl
  generalize hze14 : (List.set _ 238 _ : am_H) = hz14 at hf14 hc14_238 hc14_239 hc14_240 hc14_241 hc14_242 hc14_243 ⊢
  clear hze14
  refine am_Rq.blk (is := [(.aload_n 0, 1), (.iconst 5, 1)]) (q := (48, [some (.ref 238)], [.int (nI 5), .ref 238])) (by decide +kernel) rfl ?_
  dsimp only
  have hx15 := hx13.fr hf14 (fun q q1 q2 => by have q1 : q = _ := q1; first | omega | exact q1 | (have hxl := hx13.1; omega))
  have hl15 := hf14.1.trans hl13
  refine am_Rq.nwL (n := 5) (show decode (am_by 89) 48 = .ok (.newarray .long, 2) by decide +kernel) (by omega) ?_
  skip
  show am_Rq _ _ _ _ (.ref (List.length _) :: _) (_ ++ [(101, (am_la (fun _ => lN 0) 5))]) _
  rw [hl15]
  have hc16_238 := ap_old (x := (101, (am_la (fun _ => lN 0) 5))) hc14_238
  have hc16_239 := ap_old (x := (101, (am_la (fun _ => lN 0) 5))) hc14_239
  have hc16_240 := ap_old (x := (101, (am_la (fun _ => lN 0) 5))) hc14_240
  have hc16_241 := ap_old (x := (101, (am_la (fun _ => lN 0) 5))) hc14_241
  have hc16_242 := ap_old (x := (101, (am_la (fun _ => lN 0) 5))) hc14_242
  have hc16_243 := ap_old (x := (101, (am_la (fun _ => lN 0) 5))) hc14_243
  have hn16 := ap_new (c := (101, (am_la (fun _ => lN 0) 5))) hl15
  have hx16 := hx15.push (101, (am_la (fun _ => lN 0) 5))
  have hl16 : List.length _ = 245 := ap_len (c := (101, (am_la (fun _ => lN 0) 5))) hl15
  generalize hze16 : (_ ++ [_] : am_H) = hz16 at hn16 hx16 hl16 hc16_238 hc16_239 hc16_240 hc16_241 hc16_242 hc16_243 ⊢
  clear hze16
  refine am_Rq.putf (show decode (am_by 89) 50 = .ok (.putfield 26, 3) by decide +kernel) rfl hc16_238 (Nat.le_of_ble_eq_true rfl) rfl (by first | exact Or.inl rfl | exact Or.inr ⟨rfl, rfl⟩) (by omega) ?_
  show am_Rq _ _ _ _ _ (List.set _ 238 (7, [.int (nI 0), .ref 239, .ref 240, .int (nI 0), .ref 241, .ref 242, .ref 243, .ref 244, .long (lN 0), .null])) _
  have hc17_238 := am_ss (c' := (7, [.int (nI 0), .ref 239, .ref 240, .int (nI 0), .ref 241, .ref 242, .ref 243, .ref 244, .long (lN 0), .null])) hc16_238
  have hc17_239 := (am_sn (c' := (7, [.int (nI 0), .ref 239, .ref 240, .int (nI 0), .ref 241, .ref 242, .ref 243, .ref 244, .long (lN 0), .null])) (show 238 ≠ 239 by omega)).trans hc16_239
  have hc17_240 := (am_sn (c' := (7, [.int (nI 0), .ref 239, .ref 240, .int (nI 0), .ref 241, .ref 242, .ref 243, .ref 244, .long (lN 0), .null])) (show 238 ≠ 240 by omega)).trans hc16_240
  have hc17_241 := (am_sn (c' := (7, [.int (nI 0), .ref 239, .ref 240, .int (nI 0), .ref 241, .ref 242, .ref 243, .ref 244, .long (lN 0), .null])) (show 238 ≠ 241 by omega)).trans hc16_241
  have hc17_242 := (am_sn (c' := (7, [.int (nI 0), .ref 239, .ref 240, .int (nI 0), .ref 241, .ref 242, .ref 243, .ref 244, .long (lN 0), .null])) (show 238 ≠ 242 by omega)).trans hc16_242
  have hc17_243 := (am_sn (c' := (7, [.int (nI 0), .ref 239, .ref 240, .int (nI 0), .ref 241, .ref 242, .ref 243, .ref 244, .long (lN 0), .null])) (show 238 ≠ 243 by omega)).trans hc16_243
  have hc17_244 := (am_sn (c' := (7, [.int (nI 0), .ref 239, .ref 240, .int (nI 0), .ref 241, .ref 242, .ref 243, .ref 244, .long (lN 0), .null])) (show 238 ≠ 244 by omega)).trans hn16
  have hf17 := (am_fr.rf (A := fun q => q = 238)).set (c' := (7, [.int (nI 0), .ref 239, .ref 240, .int (nI 0), .ref 241, .ref 242, .ref 243, .ref 244, .long (lN 0), .null])) rfl hc16_238 rfl
  generalize hze17 : (List.set _ 238 _ : am_H) = hz17 at hf17 hc17_238 hc17_239 hc17_240 hc17_241 hc17_242 hc17_243 hc17_244 ⊢
  clear hze17
  refine am_Rq.blk (is := [(.aload_n 0, 1), (.iconst 5, 1)]) (q := (55, [some (.ref 238)], [.int (nI 5), .ref 238])) (by decide +kernel) rfl ?_
  dsimp only
  have hx18 := hx16.fr hf17 (fun q q1 q2 => by have q1 : q = _ := q1; first | omega | exact q1 | (have hxl := hx16.1; omega))
  have hl18 := hf17.1.trans hl16
  refine am_Rq.nwI (n := 5) (show decode (am_by 89) 55 = .ok (.newarray .int, 2) by decide +kernel) (by omega) ?_
  skip
  show am_Rq _ _ _ _ (.ref (List.length _) :: _) (_ ++ [(100, (am_ia (fun _ => nI 0) 5))]) _
  rw [hl18]
  have hc19_238 := ap_old (x := (100, (am_ia (fun _ => nI 0) 5))) hc17_238
  have hc19_239 := ap_old (x := (100, (am_ia (fun _ => nI 0) 5))) hc17_239
  have hc19_240 := ap_old (x := (100, (am_ia (fun _ => nI 0) 5))) hc17_240
  have hc19_241 := ap_old (x := (100, (am_ia (fun _ => nI 0) 5))) hc17_241
  have hc19_242 := ap_old (x := (100, (am_ia (fun _ => nI 0) 5))) hc17_242
  have hc19_243 := ap_old (x := (100, (am_ia (fun _ => nI 0) 5))) hc17_243
  have hc19_244 := ap_old (x := (100, (am_ia (fun _ => nI 0) 5))) hc17_244
  have hn19 := ap_new (c := (100, (am_ia (fun _ => nI 0) 5))) hl18
  have hx19 := hx18.push (100, (am_ia (fun _ => nI 0) 5))
  have hl19 : List.length _ = 246 := ap_len (c := (100, (am_ia (fun _ => nI 0) 5))) hl18
  generalize hze19 : (_ ++ [_] : am_H) = hz19 at hn19 hx19 hl19 hc19_238 hc19_239 hc19_240 hc19_241 hc19_242 hc19_243 hc19_244 ⊢
  clear hze19
  refine am_Rq.putf (show decode (am_by 89) 57 = .ok (.putfield 29, 3) by decide +kernel) rfl hc19_238 (Nat.le_of_ble_eq_true rfl) rfl (by first | exact Or.inl rfl | exact Or.inr ⟨rfl, rfl⟩) (by omega) ?_
  show am_Rq _ _ _ _ _ (List.set _ 238 (7, [.int (nI 0), .ref 239, .ref 240, .int (nI 0), .ref 241, .ref 242, .ref 243, .ref 244, .long (lN 0), .ref 245])) _
  have hc20_238 := am_ss (c' := (7, [.int (nI 0), .ref 239, .ref 240, .int (nI 0), .ref 241, .ref 242, .ref 243, .ref 244, .long (lN 0), .ref 245])) hc19_238
  have hc20_239 := (am_sn (c' := (7, [.int (nI 0), .ref 239, .ref 240, .int (nI 0), .ref 241, .ref 242, .ref 243, .ref 244, .long (lN 0), .ref 245])) (show 238 ≠ 239 by omega)).trans hc19_239
  have hc20_240 := (am_sn (c' := (7, [.int (nI 0), .ref 239, .ref 240, .int (nI 0), .ref 241, .ref 242, .ref 243, .ref 244, .long (lN 0), .ref 245])) (show 238 ≠ 240 by omega)).trans hc19_240
  have hc20_241 := (am_sn (c' := (7, [.int (nI 0), .ref 239, .ref 240, .int (nI 0), .ref 241, .ref 242, .ref 243, .ref 244, .long (lN 0), .ref 245])) (show 238 ≠ 241 by omega)).trans hc19_241
  have hc20_242 := (am_sn (c' := (7, [.int (nI 0), .ref 239, .ref 240, .int (nI 0), .ref 241, .ref 242, .ref 243, .ref 244, .long (lN 0), .ref 245])) (show 238 ≠ 242 by omega)).trans hc19_242
  have hc20_243 := (am_sn (c' := (7, [.int (nI 0), .ref 239, .ref 240, .int (nI 0), .ref 241, .ref 242, .ref 243, .ref 244, .long (lN 0), .ref 245])) (show 238 ≠ 243 by omega)).trans hc19_243
  have hc20_244 := (am_sn (c' := (7, [.int (nI 0), .ref 239, .ref 240, .int (nI 0), .ref 241, .ref 242, .ref 243, .ref 244, .long (lN 0), .ref 245])) (show 238 ≠ 244 by omega)).trans hc19_244
  have hc20_245 := (am_sn (c' := (7, [.int (nI 0), .ref 239, .ref 240, .int (nI 0), .ref 241, .ref 242, .ref 243, .ref 244, .long (lN 0), .ref 245])) (show 238 ≠ 245 by omega)).trans hn19
  have hf20 := (am_fr.rf (A := fun q => q = 238)).set (c' := (7, [.int (nI 0), .ref 239, .ref 240, .int (nI 0), .ref 241, .ref 242, .ref 243, .ref 244, .long (lN 0), .ref 245])) rfl hc19_238 rfl
  generalize hze20 : (List.set _ 238 _ : am_H) = hz20 at hf20 hc20_238 hc20_239 hc20_240 hc20_241 hc20_242 hc20_243 hc20_244 hc20_245 ⊢
  clear hze20
  refine am_Rq.blk (is := [(.aload_n 0, 1), (.iconst 0, 1)]) (q := (62, [some (.ref 238)], [.int (nI 0), .ref 238])) (by decide +kernel) rfl ?_
  dsimp only
  refine am_Rq.putf (show decode (am_by 89) 62 = .ok (.putfield 32, 3) by decide +kernel) rfl hc20_238 (Nat.le_of_ble_eq_true rfl) rfl (by first | exact Or.inl rfl | exact Or.inr ⟨rfl, rfl⟩) (by omega) ?_
  show am_Rq _ _ _ _ _ (List.set _ 238 (7, [.int (nI 0), .ref 239, .ref 240, .int (nI 0), .ref 241, .ref 242, .ref 243, .ref 244, .long (lN 0), .ref 245])) _
  have hc21_238 := am_ss (c' := (7, [.int (nI 0), .ref 239, .ref 240, .int (nI 0), .ref 241, .ref 242, .ref 243, .ref 244, .long (lN 0), .ref 245])) hc20_238
  have hc21_239 := (am_sn (c' := (7, [.int (nI 0), .ref 239, .ref 240, .int (nI 0), .ref 241, .ref 242, .ref 243, .ref 244, .long (lN 0), .ref 245])) (show 238 ≠ 239 by omega)).trans hc20_239
  have hc21_240 := (am_sn (c' := (7, [.int (nI 0), .ref 239, .ref 240, .int (nI 0), .ref 241, .ref 242, .ref 243, .ref 244, .long (lN 0), .ref 245])) (show 238 ≠ 240 by omega)).trans hc20_240
  have hc21_241 := (am_sn (c' := (7, [.int (nI 0), .ref 239, .ref 240, .int (nI 0), .ref 241, .ref 242, .ref 243, .ref 244, .long (lN 0), .ref 245])) (show 238 ≠ 241 by omega)).trans hc20_241
  have hc21_242 := (am_sn (c' := (7, [.int (nI 0), .ref 239, .ref 240, .int (nI 0), .ref 241, .ref 242, .ref 243, .ref 244, .long (lN 0), .ref 245])) (show 238 ≠ 242 by omega)).trans hc20_242
  have hc21_243 := (am_sn (c' := (7, [.int (nI 0), .ref 239, .ref 240, .int (nI 0), .ref 241, .ref 242, .ref 243, .ref 244, .long (lN 0), .ref 245])) (show 238 ≠ 243 by omega)).trans hc20_243
  have hc21_244 := (am_sn (c' := (7, [.int (nI 0), .ref 239, .ref 240, .int (nI 0), .ref 241, .ref 242, .ref 243, .ref 244, .long (lN 0), .ref 245])) (show 238 ≠ 244 by omega)).trans hc20_244
  have hc21_245 := (am_sn (c' := (7, [.int (nI 0), .ref 239, .ref 240, .int (nI 0), .ref 241, .ref 242, .ref 243, .ref 244, .long (lN 0), .ref 245])) (show 238 ≠ 245 by omega)).trans hc20_245
  have hf21 := (am_fr.rf (A := fun q => q = 238)).set (c' := (7, [.int (nI 0), .ref 239, .ref 240, .int (nI 0), .ref 241, .ref 242, .ref 243, .ref 244, .long (lN 0), .ref 245])) rfl hc20_238 rfl
  generalize hze21 : (List.set _ 238 _ : am_H) = hz21 at hf21 hc21_238 hc21_239 hc21_240 hc21_241 hc21_242 hc21_243 hc21_244 hc21_245 ⊢
  clear hze21
  have hx22 := hx19.fr hf20 (fun q q1 q2 => by have q1 : q = _ := q1; first | omega | exact q1 | (have hxl := hx19.1; omega))
  have hl22 := hf20.1.trans hl19
  have hx23 := hx22.fr hf21 (fun q q1 q2 => by have q1 : q = _ := q1; first | omega | exact q1 | (have hxl := hx22.1; omega))
  have hl23 := hf21.1.trans hl22
  refine am_Rq.ret (v := none) (show decode (am_by 89) 65 = .ok (.return_, 1) by decide +kernel) rfl rfl ?_
  exact ⟨_, rfl, rfl, ⟨⟨⟨0, hc21_238⟩, hc21_239, ⟨_, hc21_241⟩, ⟨_, hc21_242⟩, ⟨_, hc21_243⟩, ⟨_, hc21_244⟩⟩, hc21_240, _, hc21_245⟩, hl23, by simpa [am_ia_len, am_la_len] using hx23⟩
theorem n_led {b : Nat} (h : hp[b]? = some (3, [.null, .null, .int (nI 0), .int (nI 0), .int (nI 0), .int (nI 0)])) (hb : 2 ≤ b) (hN : hp.length = b + 1) : am_Rq (d + 1) 2 0 (am_en [.ref b] 2) [] hp (am_Ret fun hp1 v => v = none ∧ Led hp1 b t00 ∧ hp1.length = b + 23 ∧ ex (fun x => x = b) hp hp1 22 170) := by
  show am_Rq _ 2 0 [some (.ref b), none] [] _ _
  have hx0 : ex (fun x => x = b) hp hp 0 0 := ex.rf
  refine am_Rq.blk (is := [(.aload_n 0, 1)]) (q := (1, [some (.ref b), none], [.ref b])) (by decide +kernel) rfl ?_
  dsimp only
  refine am_Rq.oi (show decode (am_by 2) 1 = .ok (.invokespecial 3, 3) by decide +kernel) rfl rfl (Nat.le_of_ble_eq_true rfl) ?_
  refine am_Rq.blk (is := [(.aload_n 0, 1), (.iconst 5, 1)]) (q := (6, [some (.ref b), none], [.int (nI 5), .ref b])) (by decide +kernel) rfl ?_
  dsimp only
  refine am_Rq.ana (ci := 1) (n := 5) (b + 2) 2 (show decode (am_by 2) 6 = .ok (.anewarray 9, 3) by decide +kernel) rfl (by omega) (by omega) ?_
  skip
  show am_Rq _ _ _ _ (.ref (List.length _) :: _) (_ ++ [(111, (am_rn (b + 2) 2 5 0))]) _
  rw [hN]
  have hc1_b := ap_old (x := (111, (am_rn (b + 2) 2 5 0))) h
  have hn1 := ap_new (c := (111, (am_rn (b + 2) 2 5 0))) hN
  have hx1 := hx0.push (111, (am_rn (b + 2) 2 5 0))
  have hl1 : List.length _ = b + 2 := ap_len (c := (111, (am_rn (b + 2) 2 5 0))) hN
  generalize hze1 : (_ ++ [_] : am_H) = hz1 at hn1 hx1 hl1 hc1_b ⊢
  clear hze1
  refine am_Rq.putf (show decode (am_by 2) 9 = .ok (.putfield 11, 3) by decide +kernel) rfl hc1_b (Nat.le_of_ble_eq_true rfl) rfl (by first | exact Or.inl rfl | exact Or.inr ⟨rfl, rfl⟩) (by omega) ?_
  show am_Rq _ _ _ _ _ (List.set _ b (3, [.ref (b + 1), .null, .int (nI 0), .int (nI 0), .int (nI 0), .int (nI 0)])) _
  have hc2_b := am_ss (c' := (3, [.ref (b + 1), .null, .int (nI 0), .int (nI 0), .int (nI 0), .int (nI 0)])) hc1_b
  have hc2_b1 := (am_sn (c' := (3, [.ref (b + 1), .null, .int (nI 0), .int (nI 0), .int (nI 0), .int (nI 0)])) (show b ≠ b + 1 by omega)).trans hn1
  have hf2 := (am_fr.rf (A := fun q => q = b)).set (c' := (3, [.ref (b + 1), .null, .int (nI 0), .int (nI 0), .int (nI 0), .int (nI 0)])) rfl hc1_b rfl
  generalize hze2 : (List.set _ b _ : am_H) = hz2 at hf2 hc2_b hc2_b1 ⊢
  clear hze2
  refine am_Rq.blk (is := [(.iconst 0, 1), (.istore_n 1, 1)]) (q := (14, [some (.ref b), some (.int (nI 0))], [])) (by decide +kernel) rfl ?_
  dsimp only
  have hx3 := hx1.fr hf2 (fun q q1 q2 => by have q1 : q = _ := q1; first | omega | exact q1 | (have hxl := hx1.1; omega))
  have hl3 := hf2.1.trans hl1
  obtain ⟨hp0, hpe⟩ : ∃ x, x = hp := ⟨_, rfl⟩
  rw [← hpe] at hx3 ⊢
  refine am_for (n := 5) (fun i lo hp => lo = [some (.ref b), some (.int (nI i))] ∧ hp.length = b + 2 + 2 * i ∧ hp[b]? = some (3, [.ref (b + 1), .null, .int (nI 0), .int (nI 0), .int (nI 0), .int (nI 0)]) ∧ hp[b + 1]? = some (111, am_rn (b + 2) 2 5 i) ∧ (∀ k, k < i → hp[b + 2 + 2 * k]? = some (1, c_sc t00 b k) ∧ hp[b + 3 + 2 * k]? = some (100, c_hd t00 k)) ∧ ex (fun x => x = b) hp0 hp (1 + 2 * i) (5 + 17 * i)) ?_ ?_ (i := 0) (by omega) ⟨rfl, hl3, hc2_b, hc2_b1, fun k hk => by omega, by simpa [am_rn_len] using hx3⟩
  · rintro i lo hp hi ⟨rfl, hN, h, hA, hK, hx⟩ ih
    refine am_Rq.blk (is := [(.iload_n 1, 1), (.iconst 5, 1)]) (q := (16, [some (.ref b), some (.int (nI i))], [.int (nI 5), .int (nI i)])) (by decide +kernel) rfl ?_
    dsimp only
    refine am_Rq.if2F (show decode (am_by 2) 16 = .ok (.if_icmp .ge 22, 3) by decide +kernel) (by decide) (by rw [nm_ge (by omega) (by omega)]; exact decide_eq_false (by omega)) ?_
    refine am_Rq.blk (is := [(.aload_n 0, 1)]) (q := (20, [some (.ref b), some (.int (nI i))], [.ref b])) (by decide +kernel) rfl ?_
    dsimp only
    refine am_Rq.getf (v := .ref (b + 1)) (show decode (am_by 2) 20 = .ok (.getfield 11, 3) by decide +kernel) rfl h rfl ?_
    refine am_Rq.blk (is := [(.iload_n 1, 1)]) (q := (24, [some (.ref b), some (.int (nI i))], [.int (nI i), .ref (b + 1)])) (by decide +kernel) rfl ?_
    dsimp only
    refine am_Rq.new (ci := 1) (show decode (am_by 2) 24 = .ok (.new 9, 3) by decide +kernel) rfl rfl ?_
    skip
    show am_Rq _ _ _ _ (.ref (List.length _) :: _) (_ ++ [(1, [.int (nI 0), .int (nI 0), .int (nI 0), .int (nI 0), .int (nI 0), .int (nI 0), .int (nI 0), .int (nI 0), .null])]) _
    rw [hN]
    have hc4_b := ap_old (x := (1, [.int (nI 0), .int (nI 0), .int (nI 0), .int (nI 0), .int (nI 0), .int (nI 0), .int (nI 0), .int (nI 0), .null])) h
    have hc4_b1 := ap_old (x := (1, [.int (nI 0), .int (nI 0), .int (nI 0), .int (nI 0), .int (nI 0), .int (nI 0), .int (nI 0), .int (nI 0), .null])) hA
    have hK4 := fun (k : Nat) (hk : k < i) => (⟨ap_old (x := (1, [.int (nI 0), .int (nI 0), .int (nI 0), .int (nI 0), .int (nI 0), .int (nI 0), .int (nI 0), .int (nI 0), .null])) (hK k hk).1, ap_old (x := (1, [.int (nI 0), .int (nI 0), .int (nI 0), .int (nI 0), .int (nI 0), .int (nI 0), .int (nI 0), .int (nI 0), .null])) (hK k hk).2⟩ : _ ∧ _)
    have hn4 := ap_new (c := (1, [.int (nI 0), .int (nI 0), .int (nI 0), .int (nI 0), .int (nI 0), .int (nI 0), .int (nI 0), .int (nI 0), .null])) hN
    have hx4 := hx.push (1, [.int (nI 0), .int (nI 0), .int (nI 0), .int (nI 0), .int (nI 0), .int (nI 0), .int (nI 0), .int (nI 0), .null])
    have hl4 : List.length _ = b + 2 + 2 * i + 1 := ap_len (c := (1, [.int (nI 0), .int (nI 0), .int (nI 0), .int (nI 0), .int (nI 0), .int (nI 0), .int (nI 0), .int (nI 0), .null])) hN
    generalize hze4 : (_ ++ [_] : am_H) = hz4 at hn4 hx4 hl4 hc4_b hc4_b1 hK4 ⊢
    clear hze4
    refine am_Rq.blk (is := [(.dup, 1)]) (q := (28, [some (.ref b), some (.int (nI i))], [.ref (b + 2 + 2 * i), .ref (b + 2 + 2 * i), .int (nI i), .ref (b + 1)])) (by decide +kernel) rfl ?_
    dsimp only
    refine am_Rq.callI (show decode (am_by 2) 28 = .ok (.invokespecial 17, 3) by decide +kernel) rfl [.ref (b + 2 + 2 * i), .int (nI i), .ref (b + 1)] rfl rfl (Nat.le_of_ble_eq_true rfl) rfl rfl (n_sc hn4 (by omega) (by omega) hl4) ?_
    rintro hpn _ ⟨rfl, m1, m2, m3, m4⟩
    have n1 := (m4.2.2 b (by rw [hl4]; omega) (by omega)).trans hc4_b
    have n2 := (m4.2.2 (b + 1) (by rw [hl4]; omega) (by omega)).trans hc4_b1
    have n3 := fun (k : Nat) (hk : k < i) => (⟨(m4.2.2 (b + 2 + 2 * k) (by rw [hl4]; omega) (by omega)).trans (hK4 k hk).1, (m4.2.2 (b + 3 + 2 * k) (by rw [hl4]; omega) (by omega)).trans (hK4 k hk).2⟩ : _ ∧ _)
    have n4 := hx4.trans m4 (fun q q1 q2 => by have := hx.1; have := hx4.1; omega)
    show am_Rq _ 2 31 [some (.ref b), some (.int (nI i))] [.ref (b + 2 + 2 * i), .int (nI i), .ref (b + 1)] _ _
    refine am_Rq.aas (ci := 1) (show decode (am_by 2) 31 = .ok (.aastore, 1) by decide +kernel) n2 (by omega) m1 hi (by omega) (by omega) ?_
    have hc5_b := (am_sn (c' := (111, (am_rn (b + 2) 2 5 (i + 1)))) (show b + 1 ≠ b by omega)).trans n1
    have hc5_b1 := am_ss (c' := (111, (am_rn (b + 2) 2 5 (i + 1)))) n2
    have hf5 := (am_fr.rf (A := fun q => q = b + 1)).set (c' := (111, (am_rn (b + 2) 2 5 (i + 1)))) rfl n2 (by simp [am_rn_len])
    generalize hze5 : (List.set _ (b + 1) _ : am_H) = hz5 at hf5 hc5_b hc5_b1 ⊢
    clear hze5
    refine am_Rq.blk (is := [(.iinc 1 1, 3)]) (q := (35, [some (.ref b), some (.int ((nI i) + (nI 1)))], [])) (by decide +kernel) rfl ?_
    dsimp only
    rw [show (nI i) + (nI 1) = nI (i + 1) from nI_add _ _]
    refine am_Rq.blk (is := [(.goto (-21), 3)]) (q := (14, [some (.ref b), some (.int (nI (i + 1)))], [])) (by decide +kernel) rfl ?_
    dsimp only
    refine ih _ _ ⟨rfl, hf5.1.trans (m3.trans (by omega)), hc5_b, hc5_b1, fun k hk => ?_, ?_⟩
    · by_cases ek : k = i
      · subst ek
        rw [n_scE hi, n_hdE hi]
        exact ⟨(hf5.2.2 _ (by omega)).trans (by rw [m1, show b + 3 + 2 * k = b + 2 + 2 * k + 1 by omega]), (hf5.2.2 _ (by omega)).trans (by rw [show b + 3 + 2 * k = b + 2 + 2 * k + 1 by omega]; exact m2)⟩
      · exact ⟨(hf5.2.2 _ (by omega)).trans (n3 k (by omega)).1, (hf5.2.2 _ (by omega)).trans (n3 k (by omega)).2⟩
    · have n5 := n4.fr hf5 (fun q q1 q2 => by have := hx.1; have q1 : q = _ := q1; omega)
      have z : ex (fun x => x = b) hp0 _ (1 + 2 * i + 1 + 1) (5 + 17 * i + 9 + 8) := n5
      rw [show 1 + 2 * (i + 1) = 1 + 2 * i + 1 + 1 by omega, show 5 + 17 * (i + 1) = 5 + 17 * i + 9 + 8 by omega]
      exact z
  · rintro lo hp ⟨rfl, hN, h, hA, hK, hx⟩
    have hN : _ = b + 12 := hN
    refine am_Rq.blk (is := [(.iload_n 1, 1), (.iconst 5, 1)]) (q := (16, [some (.ref b), some (.int (nI 5))], [.int (nI 5), .int (nI 5)])) (by decide +kernel) rfl ?_
    dsimp only
    refine am_Rq.if2T (t := 38) (show decode (am_by 2) 16 = .ok (.if_icmp .ge 22, 3) by decide +kernel) (by decide) (by rw [nm_ge (by omega) (by omega)]; exact decide_eq_true (by omega)) ?_
    refine am_Rq.blk (is := [(.aload_n 0, 1), (.bipush 10, 2)]) (q := (41, [some (.ref b), some (.int (nI 5))], [.int (nI 10), .ref b])) (by decide +kernel) rfl ?_
    dsimp only
    refine am_Rq.ana (ci := 2) (n := 10) (b + 13) 1 (show decode (am_by 2) 41 = .ok (.anewarray 18, 3) by decide +kernel) rfl (by omega) (by omega) ?_
    skip
    show am_Rq _ _ _ _ (.ref (List.length _) :: _) (_ ++ [(112, (am_rn (b + 13) 1 10 0))]) _
    rw [hN]
    have hc6_b := ap_old (x := (112, (am_rn (b + 13) 1 10 0))) h
    have hc6_b1 := ap_old (x := (112, (am_rn (b + 13) 1 10 0))) hA
    have hK6 := fun (k : Nat) (hk : k < 5) => (⟨ap_old (x := (112, (am_rn (b + 13) 1 10 0))) (hK k hk).1, ap_old (x := (112, (am_rn (b + 13) 1 10 0))) (hK k hk).2⟩ : _ ∧ _)
    have hn6 := ap_new (c := (112, (am_rn (b + 13) 1 10 0))) hN
    have hx6 := hx.push (112, (am_rn (b + 13) 1 10 0))
    have hl6 : List.length _ = b + 13 := ap_len (c := (112, (am_rn (b + 13) 1 10 0))) hN
    generalize hze6 : (_ ++ [_] : am_H) = hz6 at hn6 hx6 hl6 hc6_b hc6_b1 hK6 ⊢
    clear hze6
    refine am_Rq.putf (show decode (am_by 2) 44 = .ok (.putfield 20, 3) by decide +kernel) rfl hc6_b (Nat.le_of_ble_eq_true rfl) rfl (by first | exact Or.inl rfl | exact Or.inr ⟨rfl, rfl⟩) (by omega) ?_
    show am_Rq _ _ _ _ _ (List.set _ b (3, [.ref (b + 1), .ref (b + 12), .int (nI 0), .int (nI 0), .int (nI 0), .int (nI 0)])) _
    have hc7_b := am_ss (c' := (3, [.ref (b + 1), .ref (b + 12), .int (nI 0), .int (nI 0), .int (nI 0), .int (nI 0)])) hc6_b
    have hc7_b1 := (am_sn (c' := (3, [.ref (b + 1), .ref (b + 12), .int (nI 0), .int (nI 0), .int (nI 0), .int (nI 0)])) (show b ≠ b + 1 by omega)).trans hc6_b1
    have hc7_b12 := (am_sn (c' := (3, [.ref (b + 1), .ref (b + 12), .int (nI 0), .int (nI 0), .int (nI 0), .int (nI 0)])) (show b ≠ b + 12 by omega)).trans hn6
    have hf7 := (am_fr.rf (A := fun q => q = b)).set (c' := (3, [.ref (b + 1), .ref (b + 12), .int (nI 0), .int (nI 0), .int (nI 0), .int (nI 0)])) rfl hc6_b rfl
    generalize hze7 : (List.set _ b _ : am_H) = hz7 at hf7 hc7_b hc7_b1 hc7_b12 ⊢
    clear hze7
    refine am_Rq.blk (is := [(.iconst 0, 1), (.istore_n 1, 1)]) (q := (49, [some (.ref b), some (.int (nI 0))], [])) (by decide +kernel) rfl ?_
    dsimp only
    have hx8 := hx6.fr hf7 (fun q q1 q2 => by have q1 : q = _ := q1; first | omega | exact q1 | (have hxl := hx6.1; omega))
    have hl8 := hf7.1.trans hl6
    have hK8 := fun (k : Nat) (hk : k < 5) => (⟨(hf7.2.2 _ (fun q => by omega)).trans (hK6 k hk).1, (hf7.2.2 _ (fun q => by omega)).trans (hK6 k hk).2⟩ : _ ∧ _)
    refine am_for (n := 10) (fun i lo hp => lo = [some (.ref b), some (.int (nI i))] ∧ hp.length = b + 13 + 1 * i ∧ hp[b]? = some (3, [.ref (b + 1), .ref (b + 12), .int (nI 0), .int (nI 0), .int (nI 0), .int (nI 0)]) ∧ hp[b + 1]? = some (111, am_rn (b + 2) 2 5 5) ∧ hp[b + 12]? = some (112, am_rn (b + 13) 1 10 i) ∧ (∀ k, k < 5 → hp[b + 2 + 2 * k]? = some (1, c_sc t00 b k) ∧ hp[b + 3 + 2 * k]? = some (100, c_hd t00 k)) ∧ (∀ g, g < i → hp[b + 13 + 1 * g]? = some (2, c_gr t00 g)) ∧ ex (fun x => x = b) hp0 hp (12 + i) (100 + 7 * i)) ?_ ?_ (i := 0) (by omega) ⟨rfl, hl8, hc7_b, hc7_b1, hc7_b12, hK8, fun g hg => by omega, by simpa [am_rn_len] using hx8⟩
    · rintro i lo hp hi ⟨rfl, hN, h, hA, hB, hK, hG, hx⟩ ih
      refine am_Rq.blk (is := [(.iload_n 1, 1), (.bipush 10, 2)]) (q := (52, [some (.ref b), some (.int (nI i))], [.int (nI 10), .int (nI i)])) (by decide +kernel) rfl ?_
      dsimp only
      refine am_Rq.if2F (show decode (am_by 2) 52 = .ok (.if_icmp .ge 22, 3) by decide +kernel) (by decide) (by rw [nm_ge (by omega) (by omega)]; exact decide_eq_false (by omega)) ?_
      refine am_Rq.blk (is := [(.aload_n 0, 1)]) (q := (56, [some (.ref b), some (.int (nI i))], [.ref b])) (by decide +kernel) rfl ?_
      dsimp only
      refine am_Rq.getf (v := .ref (b + 12)) (show decode (am_by 2) 56 = .ok (.getfield 20, 3) by decide +kernel) rfl h rfl ?_
      refine am_Rq.blk (is := [(.iload_n 1, 1)]) (q := (60, [some (.ref b), some (.int (nI i))], [.int (nI i), .ref (b + 12)])) (by decide +kernel) rfl ?_
      dsimp only
      refine am_Rq.new (ci := 2) (show decode (am_by 2) 60 = .ok (.new 18, 3) by decide +kernel) rfl rfl ?_
      skip
      show am_Rq _ _ _ _ (.ref (List.length _) :: _) (_ ++ [(2, [.int (nI 0), .int (nI 0), .int (nI 0), .int (nI 0), .int (nI 0), .int (nI 0), .int (nI 0)])]) _
      rw [hN]
      have hc9_b := ap_old (x := (2, [.int (nI 0), .int (nI 0), .int (nI 0), .int (nI 0), .int (nI 0), .int (nI 0), .int (nI 0)])) h
      have hc9_b1 := ap_old (x := (2, [.int (nI 0), .int (nI 0), .int (nI 0), .int (nI 0), .int (nI 0), .int (nI 0), .int (nI 0)])) hA
      have hc9_b12 := ap_old (x := (2, [.int (nI 0), .int (nI 0), .int (nI 0), .int (nI 0), .int (nI 0), .int (nI 0), .int (nI 0)])) hB
      have hK9 := fun (k : Nat) (hk : k < 5) => (⟨ap_old (x := (2, [.int (nI 0), .int (nI 0), .int (nI 0), .int (nI 0), .int (nI 0), .int (nI 0), .int (nI 0)])) (hK k hk).1, ap_old (x := (2, [.int (nI 0), .int (nI 0), .int (nI 0), .int (nI 0), .int (nI 0), .int (nI 0), .int (nI 0)])) (hK k hk).2⟩ : _ ∧ _)
      have hG9 := fun (g : Nat) (hg : g < i) => ap_old (x := (2, [.int (nI 0), .int (nI 0), .int (nI 0), .int (nI 0), .int (nI 0), .int (nI 0), .int (nI 0)])) (hG g hg)
      have hn9 := ap_new (c := (2, [.int (nI 0), .int (nI 0), .int (nI 0), .int (nI 0), .int (nI 0), .int (nI 0), .int (nI 0)])) hN
      have hx9 := hx.push (2, [.int (nI 0), .int (nI 0), .int (nI 0), .int (nI 0), .int (nI 0), .int (nI 0), .int (nI 0)])
      have hl9 : List.length _ = b + 13 + 1 * i + 1 := ap_len (c := (2, [.int (nI 0), .int (nI 0), .int (nI 0), .int (nI 0), .int (nI 0), .int (nI 0), .int (nI 0)])) hN
      generalize hze9 : (_ ++ [_] : am_H) = hz9 at hn9 hx9 hl9 hc9_b hc9_b1 hc9_b12 hK9 hG9 ⊢
      clear hze9
      refine am_Rq.blk (is := [(.dup, 1)]) (q := (64, [some (.ref b), some (.int (nI i))], [.ref (b + 13 + 1 * i), .ref (b + 13 + 1 * i), .int (nI i), .ref (b + 12)])) (by decide +kernel) rfl ?_
      dsimp only
      refine am_Rq.callI (show decode (am_by 2) 64 = .ok (.invokespecial 24, 3) by decide +kernel) rfl [.ref (b + 13 + 1 * i), .int (nI i), .ref (b + 12)] rfl rfl (Nat.le_of_ble_eq_true rfl) rfl rfl (n_gr) ?_
      rintro hpn _ ⟨rfl, rfl⟩
      show am_Rq _ 2 67 [some (.ref b), some (.int (nI i))] [.ref (b + 13 + 1 * i), .int (nI i), .ref (b + 12)] _ _
      refine am_Rq.aas (ci := 2) (show decode (am_by 2) 67 = .ok (.aastore, 1) by decide +kernel) hc9_b12 (by omega) hn9 hi (by omega) (by omega) ?_
      have hc10_b := (am_sn (c' := (112, (am_rn (b + 13) 1 10 (i + 1)))) (show b + 12 ≠ b by omega)).trans hc9_b
      have hc10_b1 := (am_sn (c' := (112, (am_rn (b + 13) 1 10 (i + 1)))) (show b + 12 ≠ b + 1 by omega)).trans hc9_b1
      have hc10_b12 := am_ss (c' := (112, (am_rn (b + 13) 1 10 (i + 1)))) hc9_b12
      have hc10_b131i := (am_sn (c' := (112, (am_rn (b + 13) 1 10 (i + 1)))) (show b + 12 ≠ b + 13 + 1 * i by omega)).trans hn9
      have hf10 := (am_fr.rf (A := fun q => q = b + 12)).set (c' := (112, (am_rn (b + 13) 1 10 (i + 1)))) rfl hc9_b12 (by simp [am_rn_len])
      generalize hze10 : (List.set _ (b + 12) _ : am_H) = hz10 at hf10 hc10_b hc10_b1 hc10_b12 hc10_b131i ⊢
      clear hze10
      have hx11 := hx9.fr hf10 (fun q q1 q2 => by have q1 : q = _ := q1; first | omega | exact q1 | (have hxl := hx9.1; omega))
      have hl11 := hf10.1.trans hl9
      have hK11 := fun (k : Nat) (hk : k < 5) => (⟨(hf10.2.2 _ (fun q => by omega)).trans (hK9 k hk).1, (hf10.2.2 _ (fun q => by omega)).trans (hK9 k hk).2⟩ : _ ∧ _)
      have hG11 := fun (g : Nat) (hg : g < i) => (hf10.2.2 _ (fun q => by omega)).trans (hG9 g hg)
      refine am_Rq.blk (is := [(.iinc 1 1, 3)]) (q := (71, [some (.ref b), some (.int ((nI i) + (nI 1)))], [])) (by decide +kernel) rfl ?_
      dsimp only
      rw [show (nI i) + (nI 1) = nI (i + 1) from nI_add _ _]
      refine am_Rq.blk (is := [(.goto (-22), 3)]) (q := (49, [some (.ref b), some (.int (nI (i + 1)))], [])) (by decide +kernel) rfl ?_
      dsimp only
      refine ih _ _ ⟨rfl, hl11, hc10_b, hc10_b1, hc10_b12, hK11, fun g hg => ?_, ?_⟩
      · by_cases eg : g = i
        · subst eg
          rw [n_grE hi]
          exact hc10_b131i
        · exact hG11 g (by omega)
      · have z : ex (fun x => x = b) hp0 _ (12 + i + 1) (100 + 7 * i + 7) := hx11
        rw [show 12 + (i + 1) = 12 + i + 1 by omega, show 100 + 7 * (i + 1) = 100 + 7 * i + 7 by omega]
        exact z
    · rintro lo hp ⟨rfl, hN, h, hA, hB, hK, hG, hx⟩
      have hN : _ = b + 23 := hN
      refine am_Rq.blk (is := [(.iload_n 1, 1), (.bipush 10, 2)]) (q := (52, [some (.ref b), some (.int (nI 10))], [.int (nI 10), .int (nI 10)])) (by decide +kernel) rfl ?_
      dsimp only
      refine am_Rq.if2T (t := 74) (show decode (am_by 2) 52 = .ok (.if_icmp .ge 22, 3) by decide +kernel) (by decide) (by rw [nm_ge (by omega) (by omega)]; exact decide_eq_true (by omega)) ?_
      refine am_Rq.blk (is := [(.aload_n 0, 1), (.iconst 1, 1)]) (q := (76, [some (.ref b), some (.int (nI 10))], [.int (nI 1), .ref b])) (by decide +kernel) rfl ?_
      dsimp only
      refine am_Rq.putf (show decode (am_by 2) 76 = .ok (.putfield 25, 3) by decide +kernel) rfl h (Nat.le_of_ble_eq_true rfl) rfl (by first | exact Or.inl rfl | exact Or.inr ⟨rfl, rfl⟩) (by omega) ?_
      show am_Rq _ _ _ _ _ (List.set _ b (3, [.ref (b + 1), .ref (b + 12), .int (nI 1), .int (nI 0), .int (nI 0), .int (nI 0)])) _
      have hc12_b := am_ss (c' := (3, [.ref (b + 1), .ref (b + 12), .int (nI 1), .int (nI 0), .int (nI 0), .int (nI 0)])) h
      have hc12_b1 := (am_sn (c' := (3, [.ref (b + 1), .ref (b + 12), .int (nI 1), .int (nI 0), .int (nI 0), .int (nI 0)])) (show b ≠ b + 1 by omega)).trans hA
      have hc12_b12 := (am_sn (c' := (3, [.ref (b + 1), .ref (b + 12), .int (nI 1), .int (nI 0), .int (nI 0), .int (nI 0)])) (show b ≠ b + 12 by omega)).trans hB
      have hf12 := (am_fr.rf (A := fun q => q = b)).set (c' := (3, [.ref (b + 1), .ref (b + 12), .int (nI 1), .int (nI 0), .int (nI 0), .int (nI 0)])) rfl h rfl
      generalize hze12 : (List.set _ b _ : am_H) = hz12 at hf12 hc12_b hc12_b1 hc12_b12 ⊢
      clear hze12
      have hx13 := hx.fr hf12 (fun q q1 q2 => by have q1 : q = _ := q1; first | omega | exact q1 | (have hxl := hx.1; omega))
      have hl13 := hf12.1.trans hN
      have hK13 := fun (k : Nat) (hk : k < 5) => (⟨(hf12.2.2 _ (fun q => by omega)).trans (hK k hk).1, (hf12.2.2 _ (fun q => by omega)).trans (hK k hk).2⟩ : _ ∧ _)
      have hG13 := fun (g : Nat) (hg : g < 10) => (hf12.2.2 _ (fun q => by omega)).trans (hG g hg)
      refine am_Rq.ret (v := none) (show decode (am_by 2) 79 = .ok (.return_, 1) by decide +kernel) rfl rfl ?_
      refine ⟨_, rfl, rfl, ⟨hb, fun o ho => ?_⟩, hl13, hx13⟩
      have : o = 0 ∨ o = 1 ∨ o = 12 ∨ (∃ c, c < 5 ∧ o = 2 + 2 * c) ∨ (∃ c, c < 5 ∧ o = 3 + 2 * c) ∨ ∃ g, g < 10 ∧ o = 13 + g := by
        by_cases o0 : o = 0
        · exact Or.inl o0
        by_cases o1 : o = 1
        · exact Or.inr (Or.inl o1)
        by_cases o12 : o = 12
        · exact Or.inr (Or.inr (Or.inl o12))
        by_cases ol : o < 12
        · by_cases oe : o % 2 = 0
          · exact Or.inr (Or.inr (Or.inr (Or.inl ⟨(o - 2) / 2, by omega, by omega⟩)))
          · exact Or.inr (Or.inr (Or.inr (Or.inr (Or.inl ⟨(o - 3) / 2, by omega, by omega⟩))))
        · exact Or.inr (Or.inr (Or.inr (Or.inr (Or.inr ⟨o - 13, by omega, by omega⟩))))
      rcases this with rfl | rfl | rfl | ⟨c, hc, rfl⟩ | ⟨c, hc, rfl⟩ | ⟨g, hg, rfl⟩
      · rw [c_pic_lg, n_lgE]
        exact hc12_b
      · rw [c_pic_ca, ← am_rnN]
        exact hc12_b1
      · rw [c_pic_ga, ← am_rnN]
        exact hc12_b12
      · rw [c_pic_sc _ _ hc, show b + (2 + 2 * c) = b + 2 + 2 * c by omega]
        exact (hK13 c hc).1
      · rw [c_pic_hd _ _ hc, show b + (3 + 2 * c) = b + 3 + 2 * c by omega]
        exact (hK13 c hc).2
      · rw [c_pic_gr _ _ hg, show b + (13 + g) = b + 13 + 1 * g by omega]
        exact hG13 g hg
end NC
