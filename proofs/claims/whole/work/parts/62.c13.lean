/-! The class's sale: begin, prepare (rows by prog/c13.py). -/
theorem c_la_congr {f g : Nat → Int64} {n : Nat} (h : ∀ k, k < n → f k = g k) : am_la f n = am_la g n := by
  unfold am_la
  exact List.map_congr_left (fun k hk => by rw [h k (List.mem_range.mp hk)])
section C13
variable {d : Nat} {hp : am_H}
theorem c_begin {am : Nat} (hO : hp[212]? = some (6, [.ref 213, .ref 216, .ref 233, .ref 234, .ref 235, .ref 236, .ref 237, .int (nI am)])) {dd : Nat → Int32} (hD : hp[233]? = some (102, am_ia dd 16)) {A : Nat} : am_Rq d 62 0 (am_en [.ref 212, .int (nI A)] 3) [] hp (am_Ret fun hp1 v => v = none ∧ hp1[212]? = some (6, [.ref 213, .ref 216, .ref 233, .ref 234, .ref 235, .ref 236, .ref 237, .int (nI A)]) ∧ hp1[233]? = some (102, am_ia (fun _ => nI 0) 16) ∧ am_fr (fun x => x = 212 ∨ x = 233) hp hp1) := by
  show am_Rq _ 62 0 [some (.ref 212), some (.int (nI A)), none] [] _ _
  refine am_Rq.blk (is := [(.aload_n 0, 1), (.iload_n 1, 1)]) (q := (2, [some (.ref 212), some (.int (nI A)), none], [.int (nI A), .ref 212])) (by decide +kernel) rfl ?_
  dsimp only
  refine am_Rq.putf (show decode (am_by 62) 2 = .ok (.putfield 41, 3) by decide +kernel) rfl hO (Nat.le_of_ble_eq_true rfl) rfl (Or.inl rfl) (by omega) ?_
  show am_Rq _ _ _ _ _ (List.set _ 212 (6, [.ref 213, .ref 216, .ref 233, .ref 234, .ref 235, .ref 236, .ref 237, .int (nI A)])) _
  have hc1_212 := am_ss (c' := (6, [.ref 213, .ref 216, .ref 233, .ref 234, .ref 235, .ref 236, .ref 237, .int (nI A)])) hO
  have hc1_233 := (am_sn (c' := (6, [.ref 213, .ref 216, .ref 233, .ref 234, .ref 235, .ref 236, .ref 237, .int (nI A)])) (show 212 ≠ 233 by omega)).trans hD
  have hf1 := (am_fr.rf (A := fun q => q = 212)).set (c' := (6, [.ref 213, .ref 216, .ref 233, .ref 234, .ref 235, .ref 236, .ref 237, .int (nI A)])) rfl hO rfl
  generalize hze1 : (List.set _ 212 _ : am_H) = hz1 at hf1 hc1_212 hc1_233 ⊢
  clear hze1
  refine am_Rq.blk (is := [(.iconst 0, 1), (.istore_n 2, 1)]) (q := (7, [some (.ref 212), some (.int (nI A)), some (.int (nI 0))], [])) (by decide +kernel) rfl ?_
  dsimp only
  refine am_for (n := 16) (fun i lo hp => lo = [some (.ref 212), some (.int (nI A)), some (.int (nI i))] ∧ (∃ d1 : Nat → Int32, hp[233]? = some (102, am_ia d1 16) ∧ ∀ q, q < i → d1 q = nI 0) ∧ hp[212]? = some (6, [.ref 213, .ref 216, .ref 233, .ref 234, .ref 235, .ref 236, .ref 237, .int (nI A)]) ∧ am_fr (fun x => x = 212 ∨ x = 233) hz1 hp) ?_ ?_ (i := 0) (by omega) ⟨rfl, ⟨dd, hc1_233, fun q hq => by omega⟩, hc1_212, am_fr.rf⟩
  · rintro i lo hp hi ⟨rfl, ⟨d1, hD, hx⟩, hO, hf0⟩ ih
    refine am_Rq.blk (is := [(.iload_n 2, 1), (.bipush 16, 2)]) (q := (10, [some (.ref 212), some (.int (nI A)), some (.int (nI i))], [.int (nI 16), .int (nI i)])) (by decide +kernel) rfl ?_
    dsimp only
    refine am_Rq.if2F (show decode (am_by 62) 10 = .ok (.if_icmp .ge 16, 3) by decide +kernel) (by decide) (by rw [nm_ge (by omega) (by omega)]; exact decide_eq_false (by omega)) ?_
    refine am_Rq.blk (is := [(.aload_n 0, 1)]) (q := (14, [some (.ref 212), some (.int (nI A)), some (.int (nI i))], [.ref 212])) (by decide +kernel) rfl ?_
    dsimp only
    refine am_Rq.getf (v := .ref 233) (show decode (am_by 62) 14 = .ok (.getfield 23, 3) by decide +kernel) rfl hO rfl ?_
    refine am_Rq.blk (is := [(.iload_n 2, 1), (.iconst 0, 1)]) (q := (19, [some (.ref 212), some (.int (nI A)), some (.int (nI i))], [.int (nI 0), .int (nI i), .ref 233])) (by decide +kernel) rfl ?_
    dsimp only
    refine am_Rq.zas (k := i) (x := nI 0) (show decode (am_by 62) 19 = .ok (.bastore, 1) by decide +kernel) hD (by rfl) (by omega) (by omega) (by omega) ?_
    have hc2_212 := (am_sn (c' := (102, (am_ia (va_up d1 i (nI 0)) 16))) (show 233 ≠ 212 by omega)).trans hO
    have hc2_233 := am_ss (c' := (102, (am_ia (va_up d1 i (nI 0)) 16))) hD
    have hf2 := (am_fr.rf (A := fun q => q = 233)).set (c' := (102, (am_ia (va_up d1 i (nI 0)) 16))) rfl hD (by simp [am_ia_len, am_la_len])
    generalize hze2 : (List.set _ 233 _ : am_H) = hz2 at hf2 hc2_212 hc2_233 ⊢
    clear hze2
    refine am_Rq.blk (is := [(.iinc 2 1, 3)]) (q := (23, [some (.ref 212), some (.int (nI A)), some (.int ((nI i) + (nI 1)))], [])) (by decide +kernel) rfl ?_
    dsimp only
    rw [show (nI i) + (nI 1) = nI (i + 1) from nI_add _ _]
    refine am_Rq.blk (is := [(.goto (-16), 3)]) (q := (7, [some (.ref 212), some (.int (nI A)), some (.int (nI (i + 1)))], [])) (by decide +kernel) rfl ?_
    dsimp only
    refine ih _ _ ⟨rfl, ⟨_, hc2_233, fun q hq => ?_⟩, hc2_212, (hf0.trans (hf2.mono (A' := fun x => x = 212 ∨ x = 233) (fun x q => by omega)))⟩
    by_cases e : q = i
    · rw [e, va_up_self]
    · rw [va_up_ne _ _ e]; exact hx q (by omega)
  · rintro lo hp ⟨rfl, ⟨d1, hD, hx⟩, hO, hf0⟩
    refine am_Rq.blk (is := [(.iload_n 2, 1), (.bipush 16, 2)]) (q := (10, [some (.ref 212), some (.int (nI A)), some (.int (nI 16))], [.int (nI 16), .int (nI 16)])) (by decide +kernel) rfl ?_
    dsimp only
    refine am_Rq.if2T (t := 26) (show decode (am_by 62) 10 = .ok (.if_icmp .ge 16, 3) by decide +kernel) (by decide) (by rw [nm_ge (by omega) (by omega)]; exact decide_eq_true (by omega)) ?_
    refine am_Rq.ret (v := none) (show decode (am_by 62) 26 = .ok (.return_, 1) by decide +kernel) rfl rfl ?_
    refine ⟨_, rfl, rfl, hO, ?_, ((hf1.mono (A' := fun x => x = 212 ∨ x = 233) (fun x q => by omega))).trans hf0⟩
    rw [hD, c_ia_congr hx]
theorem c_prepare {am : Nat} (hO : hp[212]? = some (6, [.ref 213, .ref 216, .ref 233, .ref 234, .ref 235, .ref 236, .ref 237, .int (nI am)])) {t : Nat → Nat} (h : Led hp 3 t) {K : Nat} (ok : c_ok K t) (hK : K ≤ 900) {f4 f5 : Nat → Int32} {f6 : Nat → Int64} (h4 : hp[234]? = some (100, am_ia f4 5)) (h5 : hp[235]? = some (100, am_ia f5 5)) (h6 : hp[236]? = some (101, am_la f6 5)) {e : Nat} (he : e < 16) : am_Rq (d + 2) 68 0 (am_en [.ref 212, .ref 3, .int (nI e)] 8) [] hp (am_Ret fun hp1 v => v = none ∧ hp1[234]? = some (100, am_ia (fun c => nI (sl_P t e c)) 5) ∧ hp1[235]? = some (100, am_ia (fun c => nI (sl_W t e c)) 5) ∧ hp1[236]? = some (101, am_la (fun c => lN (sl_M t e c)) 5) ∧ am_fr (fun x => x = 234 ∨ x = 235 ∨ x = 236) hp hp1) := by
  show am_Rq _ 68 0 [some (.ref 212), some (.ref 3), some (.int (nI e)), none, none, none, none, none] [] _ _
  have hB := ok.b (by omega)
  refine am_Rq.blk (is := [(.iconst 0, 1), (.istore_n 3, 1)]) (q := (2, [some (.ref 212), some (.ref 3), some (.int (nI e)), some (.int (nI 0)), none, none, none, none], [])) (by decide +kernel) rfl ?_
  dsimp only
  have key : ∀ hz, hz = hp → am_Rq (d + 2) 68 2 [some (.ref 212), some (.ref 3), some (.int (nI e)), some (.int (nI 0)), none, none, none, none] [] hz (am_Ret fun hp1 v => v = none ∧ hp1[234]? = some (100, am_ia (fun c => nI (sl_P t e c)) 5) ∧ hp1[235]? = some (100, am_ia (fun c => nI (sl_W t e c)) 5) ∧ hp1[236]? = some (101, am_la (fun c => lN (sl_M t e c)) 5) ∧ am_fr (fun x => x = 234 ∨ x = 235 ∨ x = 236) hp hp1) := ?_
  · exact key hp rfl
  intro hz hze
  subst hze
  refine am_for (n := 5) (fun i lo hp => ∃ z4 z5 z6 z7 : Option Value, lo = [some (.ref 212), some (.ref 3), some (.int (nI e)), some (.int (nI i)), z4, z5, z6, z7] ∧ (∃ g4 g5 : Nat → Int32, ∃ g6 : Nat → Int64, hp[234]? = some (100, am_ia g4 5) ∧ hp[235]? = some (100, am_ia g5 5) ∧ hp[236]? = some (101, am_la g6 5) ∧ ∀ q, q < i → g4 q = nI (sl_P t e q) ∧ g5 q = nI (sl_W t e q) ∧ g6 q = lN (sl_M t e q)) ∧ hp[212]? = some (6, [.ref 213, .ref 216, .ref 233, .ref 234, .ref 235, .ref 236, .ref 237, .int (nI am)]) ∧ Led hp 3 t ∧ am_fr (fun x => x = 234 ∨ x = 235 ∨ x = 236) hz hp) ?_ ?_ (i := 0) (by omega) ⟨_, _, _, _, rfl, ⟨f4, f5, f6, h4, h5, h6, fun q hq => by omega⟩, hO, h, am_fr.rf⟩
  · rintro i lo hp hi ⟨z4, z5, z6, z7, rfl, ⟨g4, g5, g6, h4, h5, h6, hx⟩, hO, h, hf0⟩ ih
    refine am_Rq.blk (is := [(.iload_n 3, 1), (.iconst 5, 1)]) (q := (4, [some (.ref 212), some (.ref 3), some (.int (nI e)), some (.int (nI i)), z4, z5, z6, z7], [.int (nI 5), .int (nI i)])) (by decide +kernel) rfl ?_
    dsimp only
    refine am_Rq.if2F (show decode (am_by 68) 4 = .ok (.if_icmp .ge 154, 3) by decide +kernel) (by decide) (by rw [nm_ge (by omega) (by omega)]; exact decide_eq_false (by omega)) ?_
    obtain ⟨a0, a1, a2, a3, a4, a5, a6, a7, a8, a9, a10, -⟩ := ok.1 i (by omega)
    have b7 := hB (8 * i + 7) (by omega)
    have b6 := hB (8 * i + 6) (by omega)
    have b0 := hB (8 * i) (by omega)
    have b3 := hB (8 * i + 3) (by omega)
    refine am_Rq.blk (is := [(.aload_n 1, 1)]) (q := (8, [some (.ref 212), some (.ref 3), some (.int (nI e)), some (.int (nI i)), z4, z5, z6, z7], [.ref 3])) (by decide +kernel) rfl ?_
    dsimp only
    refine am_Rq.getf (v := .ref (3 + 1)) (show decode (am_by 68) 8 = .ok (.getfield 66, 3) by decide +kernel) rfl (Led.lg h) rfl ?_
    refine am_Rq.blk (is := [(.iload_n 3, 1)]) (q := (12, [some (.ref 212), some (.ref 3), some (.int (nI e)), some (.int (nI i)), z4, z5, z6, z7], [.int (nI i), .ref (3 + 1)])) (by decide +kernel) rfl ?_
    dsimp only
    refine am_Rq.ral (k := i) (show decode (am_by 68) 12 = .ok (.aaload, 1) by decide +kernel) (Led.ca h) rfl (by omega) (by omega) ?_
    refine am_Rq.blk (is := [(.astore 4, 2), (.iload_n 3, 1)]) (q := (16, [some (.ref 212), some (.ref 3), some (.int (nI e)), some (.int (nI i)), some (.ref (3 + 2 + 2 * i)), z5, z6, z7], [.int (nI i)])) (by decide +kernel) rfl ?_
    dsimp only
    refine am_Rq.if1 (t := 27) (show decode (am_by 68) 16 = .ok (.ifCond .eq 11, 3) by decide +kernel) (by decide) (fun h0 => ?_) (fun h0 => ?_)
    ·
      rw [nm_eq0 (by omega)] at h0
      have h0 := of_decide_eq_true h0
      have hs : sl_as e i = true := by unfold sl_as; rw [decide_eq_true h0]; rfl
      refine am_Rq.blk (is := [(.iconst 1, 1), (.goto 4, 3)]) (q := (32, [some (.ref 212), some (.ref 3), some (.int (nI e)), some (.int (nI i)), some (.ref (3 + 2 + 2 * i)), z5, z6, z7], [.int (nI 1)])) (by decide +kernel) rfl ?_
      dsimp only
      refine am_Rq.blk (is := [(.istore 5, 2), (.iload 5, 2)]) (q := (36, [some (.ref 212), some (.ref 3), some (.int (nI e)), some (.int (nI i)), some (.ref (3 + 2 + 2 * i)), some (.int (nI 1)), z6, z7], [.int (nI 1)])) (by decide +kernel) rfl ?_
      dsimp only
      refine am_Rq.if1T (t := 57) (show decode (am_by 68) 36 = .ok (.ifCond .ne 21, 3) by decide +kernel) (by decide) (rfl) ?_
      refine am_Rq.blk (is := [(.iconst 1, 1), (.goto 4, 3)]) (q := (62, [some (.ref 212), some (.ref 3), some (.int (nI e)), some (.int (nI i)), some (.ref (3 + 2 + 2 * i)), some (.int (nI 1)), z6, z7], [.int (nI 1)])) (by decide +kernel) rfl ?_
      dsimp only
      refine am_Rq.blk (is := [(.istore 6, 2), (.iload 5, 2)]) (q := (66, [some (.ref 212), some (.ref 3), some (.int (nI e)), some (.int (nI i)), some (.ref (3 + 2 + 2 * i)), some (.int (nI 1)), some (.int (nI 1)), z7], [.int (nI 1)])) (by decide +kernel) rfl ?_
      dsimp only
      refine am_Rq.if1T (t := 82) (show decode (am_by 68) 66 = .ok (.ifCond .ne 16, 3) by decide +kernel) (by decide) (rfl) ?_
      refine am_Rq.blk (is := [(.iconst 0, 1), (.istore 7, 2), (.aload_n 0, 1)]) (q := (86, [some (.ref 212), some (.ref 3), some (.int (nI e)), some (.int (nI i)), some (.ref (3 + 2 + 2 * i)), some (.int (nI 1)), some (.int (nI 1)), some (.int (nI 0))], [.ref 212])) (by decide +kernel) rfl ?_
      dsimp only
      refine am_Rq.getf (v := .ref 234) (show decode (am_by 68) 86 = .ok (.getfield 27, 3) by decide +kernel) rfl hO rfl ?_
      refine am_Rq.blk (is := [(.iload_n 3, 1), (.iload 5, 2)]) (q := (92, [some (.ref 212), some (.ref 3), some (.int (nI e)), some (.int (nI i)), some (.ref (3 + 2 + 2 * i)), some (.int (nI 1)), some (.int (nI 1)), some (.int (nI 0))], [.int (nI 1), .int (nI i), .ref 234])) (by decide +kernel) rfl ?_
      dsimp only
      refine am_Rq.if1F (show decode (am_by 68) 92 = .ok (.ifCond .eq 7, 3) by decide +kernel) (by decide) (rfl) ?_
      refine am_Rq.blk (is := [(.iconst 0, 1), (.goto 8, 3)]) (q := (104, [some (.ref 212), some (.ref 3), some (.int (nI e)), some (.int (nI i)), some (.ref (3 + 2 + 2 * i)), some (.int (nI 1)), some (.int (nI 1)), some (.int (nI 0))], [.int (nI 0), .int (nI i), .ref 234])) (by decide +kernel) rfl ?_
      dsimp only
      refine am_Rq.ias (k := i) (x := nI 0) (show decode (am_by 68) 104 = .ok (.iastore, 1) by decide +kernel) h4 (by omega) (by omega) (by omega) ?_
      have hc1_212 := (am_sn (c' := (100, (am_ia (va_up g4 i (nI 0)) 5))) (show 234 ≠ 212 by omega)).trans hO
      have hc1_234 := am_ss (c' := (100, (am_ia (va_up g4 i (nI 0)) 5))) h4
      have hc1_235 := (am_sn (c' := (100, (am_ia (va_up g4 i (nI 0)) 5))) (show 234 ≠ 235 by omega)).trans h5
      have hc1_236 := (am_sn (c' := (100, (am_ia (va_up g4 i (nI 0)) 5))) (show 234 ≠ 236 by omega)).trans h6
      have hL1x := Led.kept h (fun q hq => am_sn (c' := (100, (am_ia (va_up g4 i (nI 0)) 5))) (show 234 ≠ q by obtain ⟨_, _⟩ := hq; omega))
      have hf1 := (am_fr.rf (A := fun q => q = 234)).set (c' := (100, (am_ia (va_up g4 i (nI 0)) 5))) rfl h4 (by simp [am_ia_len, am_la_len])
      generalize hze1 : (List.set _ 234 _ : am_H) = hz1 at hf1 hc1_212 hc1_234 hc1_235 hc1_236 hL1x ⊢
      clear hze1
      refine am_Rq.blk (is := [(.aload_n 0, 1)]) (q := (106, [some (.ref 212), some (.ref 3), some (.int (nI e)), some (.int (nI i)), some (.ref (3 + 2 + 2 * i)), some (.int (nI 1)), some (.int (nI 1)), some (.int (nI 0))], [.ref 212])) (by decide +kernel) rfl ?_
      dsimp only
      refine am_Rq.getf (v := .ref 235) (show decode (am_by 68) 106 = .ok (.getfield 31, 3) by decide +kernel) rfl hc1_212 rfl ?_
      refine am_Rq.blk (is := [(.iload_n 3, 1), (.iload 6, 2)]) (q := (112, [some (.ref 212), some (.ref 3), some (.int (nI e)), some (.int (nI i)), some (.ref (3 + 2 + 2 * i)), some (.int (nI 1)), some (.int (nI 1)), some (.int (nI 0))], [.int (nI 1), .int (nI i), .ref 235])) (by decide +kernel) rfl ?_
      dsimp only
      refine am_Rq.if1F (show decode (am_by 68) 112 = .ok (.ifCond .eq 16, 3) by decide +kernel) (by decide) (rfl) ?_
      refine am_Rq.blk (is := [(.aload 4, 2), (.aload 4, 2)]) (q := (119, [some (.ref 212), some (.ref 3), some (.int (nI e)), some (.int (nI i)), some (.ref (3 + 2 + 2 * i)), some (.int (nI 1)), some (.int (nI 1)), some (.int (nI 0))], [.ref (3 + 2 + 2 * i), .ref (3 + 2 + 2 * i), .int (nI i), .ref 235])) (by decide +kernel) rfl ?_
      dsimp only
      refine am_Rq.getf (v := .int (nI (t (8 * i + 7)))) (show decode (am_by 68) 119 = .ok (.getfield 70, 3) by decide +kernel) rfl (Led.sc hL1x (by omega)) rfl ?_
      refine am_Rq.callV (show decode (am_by 68) 122 = .ok (.invokevirtual 115, 3) by decide +kernel) rfl [.int (nI (t (8 * i + 7)))] [.int (nI i), .ref 235] rfl rfl (Nat.le_of_ble_eq_true rfl) rfl (Led.sc hL1x (by omega)) rfl (c_inCommon hL1x (by omega) (by omega) (by omega) (by omega) (by omega) (by have := ok.pr (c := i) (n := t (8 * i + 7)) (by omega) a9; omega)) ?_
      rintro hq _ ⟨e1, rfl⟩
      rw [e1]
      clear e1 hq
      show am_Rq _ 68 125 [some (.ref 212), some (.ref 3), some (.int (nI e)), some (.int (nI i)), some (.ref (3 + 2 + 2 * i)), some (.int (nI 1)), some (.int (nI 1)), some (.int (nI 0))] [.int (nI (t (8 * i + 7) * 1000 * t (8 * i) / t (8 * i + 6))), .int (nI i), .ref 235] _ _
      refine am_Rq.blk (is := [(.goto 4, 3)]) (q := (129, [some (.ref 212), some (.ref 3), some (.int (nI e)), some (.int (nI i)), some (.ref (3 + 2 + 2 * i)), some (.int (nI 1)), some (.int (nI 1)), some (.int (nI 0))], [.int (nI (t (8 * i + 7) * 1000 * t (8 * i) / t (8 * i + 6))), .int (nI i), .ref 235])) (by decide +kernel) rfl ?_
      dsimp only
      refine am_Rq.ias (k := i) (x := nI (t (8 * i + 7) * 1000 * t (8 * i) / t (8 * i + 6))) (show decode (am_by 68) 129 = .ok (.iastore, 1) by decide +kernel) hc1_235 (by omega) (by omega) (by omega) ?_
      have hc2_212 := (am_sn (c' := (100, (am_ia (va_up g5 i (nI (t (8 * i + 7) * 1000 * t (8 * i) / t (8 * i + 6)))) 5))) (show 235 ≠ 212 by omega)).trans hc1_212
      have hc2_234 := (am_sn (c' := (100, (am_ia (va_up g5 i (nI (t (8 * i + 7) * 1000 * t (8 * i) / t (8 * i + 6)))) 5))) (show 235 ≠ 234 by omega)).trans hc1_234
      have hc2_235 := am_ss (c' := (100, (am_ia (va_up g5 i (nI (t (8 * i + 7) * 1000 * t (8 * i) / t (8 * i + 6)))) 5))) hc1_235
      have hc2_236 := (am_sn (c' := (100, (am_ia (va_up g5 i (nI (t (8 * i + 7) * 1000 * t (8 * i) / t (8 * i + 6)))) 5))) (show 235 ≠ 236 by omega)).trans hc1_236
      have hL2x := Led.kept hL1x (fun q hq => am_sn (c' := (100, (am_ia (va_up g5 i (nI (t (8 * i + 7) * 1000 * t (8 * i) / t (8 * i + 6)))) 5))) (show 235 ≠ q by obtain ⟨_, _⟩ := hq; omega))
      have hf2 := (am_fr.rf (A := fun q => q = 235)).set (c' := (100, (am_ia (va_up g5 i (nI (t (8 * i + 7) * 1000 * t (8 * i) / t (8 * i + 6)))) 5))) rfl hc1_235 (by simp [am_ia_len, am_la_len])
      generalize hze2 : (List.set _ 235 _ : am_H) = hz2 at hf2 hc2_212 hc2_234 hc2_235 hc2_236 hL2x ⊢
      clear hze2
      refine am_Rq.blk (is := [(.aload_n 0, 1)]) (q := (131, [some (.ref 212), some (.ref 3), some (.int (nI e)), some (.int (nI i)), some (.ref (3 + 2 + 2 * i)), some (.int (nI 1)), some (.int (nI 1)), some (.int (nI 0))], [.ref 212])) (by decide +kernel) rfl ?_
      dsimp only
      refine am_Rq.getf (v := .ref 236) (show decode (am_by 68) 131 = .ok (.getfield 34, 3) by decide +kernel) rfl hc2_212 rfl ?_
      refine am_Rq.blk (is := [(.iload_n 3, 1), (.iload 7, 2)]) (q := (137, [some (.ref 212), some (.ref 3), some (.int (nI e)), some (.int (nI i)), some (.ref (3 + 2 + 2 * i)), some (.int (nI 1)), some (.int (nI 1)), some (.int (nI 0))], [.int (nI 0), .int (nI i), .ref 236])) (by decide +kernel) rfl ?_
      dsimp only
      refine am_Rq.if1T (t := 148) (show decode (am_by 68) 137 = .ok (.ifCond .eq 11, 3) by decide +kernel) (by decide) (rfl) ?_
      refine am_Rq.blk (is := [(.ldc2_w 123, 3)]) (q := (151, [some (.ref 212), some (.ref 3), some (.int (nI e)), some (.int (nI i)), some (.ref (3 + 2 + 2 * i)), some (.int (nI 1)), some (.int (nI 1)), some (.int (nI 0))], [.long (lN 2000000000), .int (nI i), .ref 236])) (by decide +kernel) rfl ?_
      dsimp only
      refine am_Rq.las (k := i) (x := lN 2000000000) (show decode (am_by 68) 151 = .ok (.lastore, 1) by decide +kernel) hc2_236 (by omega) (by omega) (by omega) ?_
      have hc3_212 := (am_sn (c' := (101, (am_la (va_up g6 i (lN 2000000000)) 5))) (show 236 ≠ 212 by omega)).trans hc2_212
      have hc3_234 := (am_sn (c' := (101, (am_la (va_up g6 i (lN 2000000000)) 5))) (show 236 ≠ 234 by omega)).trans hc2_234
      have hc3_235 := (am_sn (c' := (101, (am_la (va_up g6 i (lN 2000000000)) 5))) (show 236 ≠ 235 by omega)).trans hc2_235
      have hc3_236 := am_ss (c' := (101, (am_la (va_up g6 i (lN 2000000000)) 5))) hc2_236
      have hL3x := Led.kept hL2x (fun q hq => am_sn (c' := (101, (am_la (va_up g6 i (lN 2000000000)) 5))) (show 236 ≠ q by obtain ⟨_, _⟩ := hq; omega))
      have hf3 := (am_fr.rf (A := fun q => q = 236)).set (c' := (101, (am_la (va_up g6 i (lN 2000000000)) 5))) rfl hc2_236 (by simp [am_ia_len, am_la_len])
      generalize hze3 : (List.set _ 236 _ : am_H) = hz3 at hf3 hc3_212 hc3_234 hc3_235 hc3_236 hL3x ⊢
      clear hze3
      refine am_Rq.blk (is := [(.iinc 3 1, 3)]) (q := (155, [some (.ref 212), some (.ref 3), some (.int (nI e)), some (.int ((nI i) + (nI 1))), some (.ref (3 + 2 + 2 * i)), some (.int (nI 1)), some (.int (nI 1)), some (.int (nI 0))], [])) (by decide +kernel) rfl ?_
      dsimp only
      rw [show (nI i) + (nI 1) = nI (i + 1) from nI_add _ _]
      refine am_Rq.blk (is := [(.goto (-153), 3)]) (q := (2, [some (.ref 212), some (.ref 3), some (.int (nI e)), some (.int (nI (i + 1))), some (.ref (3 + 2 + 2 * i)), some (.int (nI 1)), some (.int (nI 1)), some (.int (nI 0))], [])) (by decide +kernel) rfl ?_
      dsimp only
      refine ih _ _ ⟨_, _, _, _, rfl, ⟨_, _, _, hc3_234, hc3_235, hc3_236, fun q hq => ?_⟩, hc3_212, hL3x, (((hf0.trans (hf1.mono (A' := fun x => x = 234 ∨ x = 235 ∨ x = 236) (fun x q => by omega))).trans (hf2.mono (A' := fun x => x = 234 ∨ x = 235 ∨ x = 236) (fun x q => by omega))).trans (hf3.mono (A' := fun x => x = 234 ∨ x = 235 ∨ x = 236) (fun x q => by omega)))⟩
      by_cases ee : q = i
      · subst ee
        rw [va_up_self, va_up_self, va_up_self]
        refine ⟨?_, ?_, ?_⟩
        · unfold sl_P; rw [if_pos hs]
        · unfold sl_W; rw [if_pos (Or.inl hs)]; rfl
        · unfold sl_M; rw [if_neg (by rw [hs]; simp)]
      · rw [va_up_ne _ _ ee, va_up_ne _ _ ee, va_up_ne _ _ ee]; exact hx q (by omega)
    ·
      rw [nm_eq0 (by omega)] at h0
      have h0 := of_decide_eq_false h0
      refine am_Rq.blk (is := [(.iload_n 2, 1), (.iload_n 3, 1)]) (q := (21, [some (.ref 212), some (.ref 3), some (.int (nI e)), some (.int (nI i)), some (.ref (3 + 2 + 2 * i)), z5, z6, z7], [.int (nI i), .int (nI e)])) (by decide +kernel) rfl ?_
      dsimp only
      refine am_Rq.callS (show decode (am_by 68) 21 = .ok (.invokestatic 104, 3) by decide +kernel) rfl [.int (nI e), .int (nI i)] [] rfl rfl (Nat.le_of_ble_eq_true rfl) rfl rfl (c_contains he (by omega) (by omega)) ?_
      rintro hq _ ⟨e1, rfl⟩
      rw [e1]
      clear e1 hq
      show am_Rq _ 68 24 [some (.ref 212), some (.ref 3), some (.int (nI e)), some (.int (nI i)), some (.ref (3 + 2 + 2 * i)), z5, z6, z7] [.int (nI (am_b (Nat.testBit e (i - 1))))] _ _
      refine am_Rq.if1 (t := 31) (show decode (am_by 68) 24 = .ok (.ifCond .eq 7, 3) by decide +kernel) (by decide) (fun hb => ?_) (fun hb => ?_)
      ·
        rw [am_b_eq, Bool.not_eq_true'] at hb
        have hs : sl_as e i = false := by unfold sl_as; rw [decide_eq_false h0, hb]; rfl
        refine am_Rq.blk (is := [(.iconst 0, 1), (.istore 5, 2), (.iload 5, 2)]) (q := (36, [some (.ref 212), some (.ref 3), some (.int (nI e)), some (.int (nI i)), some (.ref (3 + 2 + 2 * i)), some (.int (nI 0)), z6, z7], [.int (nI 0)])) (by decide +kernel) rfl ?_
        dsimp only
        refine am_Rq.if1F (show decode (am_by 68) 36 = .ok (.ifCond .ne 21, 3) by decide +kernel) (by decide) (rfl) ?_
        refine am_Rq.blk (is := [(.aload 4, 2)]) (q := (41, [some (.ref 212), some (.ref 3), some (.int (nI e)), some (.int (nI i)), some (.ref (3 + 2 + 2 * i)), some (.int (nI 0)), z6, z7], [.ref (3 + 2 + 2 * i)])) (by decide +kernel) rfl ?_
        dsimp only
        refine am_Rq.getf (v := .int (nI (t (8 * i + 3)))) (show decode (am_by 68) 41 = .ok (.getfield 108, 3) by decide +kernel) rfl (Led.sc h (by omega)) rfl ?_
        refine am_Rq.blk (is := [(.iconst 1, 1)]) (q := (45, [some (.ref 212), some (.ref 3), some (.int (nI e)), some (.int (nI i)), some (.ref (3 + 2 + 2 * i)), some (.int (nI 0)), z6, z7], [.int (nI 1), .int (nI (t (8 * i + 3)))])) (by decide +kernel) rfl ?_
        dsimp only
        refine am_Rq.if2 (t := 57) (show decode (am_by 68) 45 = .ok (.if_icmp .eq 12, 3) by decide +kernel) (by decide) (fun hk1 => ?_) (fun hk1 => ?_)
        ·
          rw [nm_eq (by omega) (by omega)] at hk1
          have hk1 := of_decide_eq_true hk1
          refine am_Rq.blk (is := [(.iconst 1, 1), (.goto 4, 3)]) (q := (62, [some (.ref 212), some (.ref 3), some (.int (nI e)), some (.int (nI i)), some (.ref (3 + 2 + 2 * i)), some (.int (nI 0)), z6, z7], [.int (nI 1)])) (by decide +kernel) rfl ?_
          dsimp only
          refine am_Rq.blk (is := [(.istore 6, 2), (.iload 5, 2)]) (q := (66, [some (.ref 212), some (.ref 3), some (.int (nI e)), some (.int (nI i)), some (.ref (3 + 2 + 2 * i)), some (.int (nI 0)), some (.int (nI 1)), z7], [.int (nI 0)])) (by decide +kernel) rfl ?_
          dsimp only
          refine am_Rq.if1F (show decode (am_by 68) 66 = .ok (.ifCond .ne 16, 3) by decide +kernel) (by decide) (rfl) ?_
          refine am_Rq.blk (is := [(.aload 4, 2)]) (q := (71, [some (.ref 212), some (.ref 3), some (.int (nI e)), some (.int (nI i)), some (.ref (3 + 2 + 2 * i)), some (.int (nI 0)), some (.int (nI 1)), z7], [.ref (3 + 2 + 2 * i)])) (by decide +kernel) rfl ?_
          dsimp only
          refine am_Rq.getf (v := .int (nI (t (8 * i + 3)))) (show decode (am_by 68) 71 = .ok (.getfield 108, 3) by decide +kernel) rfl (Led.sc h (by omega)) rfl ?_
          refine am_Rq.blk (is := [(.iconst 2, 1)]) (q := (75, [some (.ref 212), some (.ref 3), some (.int (nI e)), some (.int (nI i)), some (.ref (3 + 2 + 2 * i)), some (.int (nI 0)), some (.int (nI 1)), z7], [.int (nI 2), .int (nI (t (8 * i + 3)))])) (by decide +kernel) rfl ?_
          dsimp only
          refine am_Rq.if2T (t := 82) (show decode (am_by 68) 75 = .ok (.if_icmp .ne 7, 3) by decide +kernel) (by decide) (by rw [nm_ne (by omega) (by omega)]; exact decide_eq_true (by omega)) ?_
          refine am_Rq.blk (is := [(.iconst 0, 1), (.istore 7, 2), (.aload_n 0, 1)]) (q := (86, [some (.ref 212), some (.ref 3), some (.int (nI e)), some (.int (nI i)), some (.ref (3 + 2 + 2 * i)), some (.int (nI 0)), some (.int (nI 1)), some (.int (nI 0))], [.ref 212])) (by decide +kernel) rfl ?_
          dsimp only
          refine am_Rq.getf (v := .ref 234) (show decode (am_by 68) 86 = .ok (.getfield 27, 3) by decide +kernel) rfl hO rfl ?_
          refine am_Rq.blk (is := [(.iload_n 3, 1), (.iload 5, 2)]) (q := (92, [some (.ref 212), some (.ref 3), some (.int (nI e)), some (.int (nI i)), some (.ref (3 + 2 + 2 * i)), some (.int (nI 0)), some (.int (nI 1)), some (.int (nI 0))], [.int (nI 0), .int (nI i), .ref 234])) (by decide +kernel) rfl ?_
          dsimp only
          refine am_Rq.if1T (t := 99) (show decode (am_by 68) 92 = .ok (.ifCond .eq 7, 3) by decide +kernel) (by decide) (rfl) ?_
          refine am_Rq.blk (is := [(.aload 4, 2)]) (q := (101, [some (.ref 212), some (.ref 3), some (.int (nI e)), some (.int (nI i)), some (.ref (3 + 2 + 2 * i)), some (.int (nI 0)), some (.int (nI 1)), some (.int (nI 0))], [.ref (3 + 2 + 2 * i), .int (nI i), .ref 234])) (by decide +kernel) rfl ?_
          dsimp only
          refine am_Rq.callV (show decode (am_by 68) 101 = .ok (.invokevirtual 111, 3) by decide +kernel) rfl [] [.int (nI i), .ref 234] rfl rfl (Nat.le_of_ble_eq_true rfl) rfl (Led.sc h (by omega)) rfl (c_preference h (by omega)) ?_
          rintro hq _ ⟨e1, rfl⟩
          rw [e1]
          clear e1 hq
          show am_Rq _ 68 104 [some (.ref 212), some (.ref 3), some (.int (nI e)), some (.int (nI i)), some (.ref (3 + 2 + 2 * i)), some (.int (nI 0)), some (.int (nI 1)), some (.int (nI 0))] [.int (nI (t (8 * i + 7) * t (8 * i) * t (8 * i + 1))), .int (nI i), .ref 234] _ _
          refine am_Rq.ias (k := i) (x := nI (t (8 * i + 7) * t (8 * i) * t (8 * i + 1))) (show decode (am_by 68) 104 = .ok (.iastore, 1) by decide +kernel) h4 (by omega) (by omega) (by omega) ?_
          have hc4_212 := (am_sn (c' := (100, (am_ia (va_up g4 i (nI (t (8 * i + 7) * t (8 * i) * t (8 * i + 1)))) 5))) (show 234 ≠ 212 by omega)).trans hO
          have hc4_234 := am_ss (c' := (100, (am_ia (va_up g4 i (nI (t (8 * i + 7) * t (8 * i) * t (8 * i + 1)))) 5))) h4
          have hc4_235 := (am_sn (c' := (100, (am_ia (va_up g4 i (nI (t (8 * i + 7) * t (8 * i) * t (8 * i + 1)))) 5))) (show 234 ≠ 235 by omega)).trans h5
          have hc4_236 := (am_sn (c' := (100, (am_ia (va_up g4 i (nI (t (8 * i + 7) * t (8 * i) * t (8 * i + 1)))) 5))) (show 234 ≠ 236 by omega)).trans h6
          have hL4x := Led.kept h (fun q hq => am_sn (c' := (100, (am_ia (va_up g4 i (nI (t (8 * i + 7) * t (8 * i) * t (8 * i + 1)))) 5))) (show 234 ≠ q by obtain ⟨_, _⟩ := hq; omega))
          have hf4 := (am_fr.rf (A := fun q => q = 234)).set (c' := (100, (am_ia (va_up g4 i (nI (t (8 * i + 7) * t (8 * i) * t (8 * i + 1)))) 5))) rfl h4 (by simp [am_ia_len, am_la_len])
          generalize hze4 : (List.set _ 234 _ : am_H) = hz4 at hf4 hc4_212 hc4_234 hc4_235 hc4_236 hL4x ⊢
          clear hze4
          refine am_Rq.blk (is := [(.aload_n 0, 1)]) (q := (106, [some (.ref 212), some (.ref 3), some (.int (nI e)), some (.int (nI i)), some (.ref (3 + 2 + 2 * i)), some (.int (nI 0)), some (.int (nI 1)), some (.int (nI 0))], [.ref 212])) (by decide +kernel) rfl ?_
          dsimp only
          refine am_Rq.getf (v := .ref 235) (show decode (am_by 68) 106 = .ok (.getfield 31, 3) by decide +kernel) rfl hc4_212 rfl ?_
          refine am_Rq.blk (is := [(.iload_n 3, 1), (.iload 6, 2)]) (q := (112, [some (.ref 212), some (.ref 3), some (.int (nI e)), some (.int (nI i)), some (.ref (3 + 2 + 2 * i)), some (.int (nI 0)), some (.int (nI 1)), some (.int (nI 0))], [.int (nI 1), .int (nI i), .ref 235])) (by decide +kernel) rfl ?_
          dsimp only
          refine am_Rq.if1F (show decode (am_by 68) 112 = .ok (.ifCond .eq 16, 3) by decide +kernel) (by decide) (rfl) ?_
          refine am_Rq.blk (is := [(.aload 4, 2), (.aload 4, 2)]) (q := (119, [some (.ref 212), some (.ref 3), some (.int (nI e)), some (.int (nI i)), some (.ref (3 + 2 + 2 * i)), some (.int (nI 0)), some (.int (nI 1)), some (.int (nI 0))], [.ref (3 + 2 + 2 * i), .ref (3 + 2 + 2 * i), .int (nI i), .ref 235])) (by decide +kernel) rfl ?_
          dsimp only
          refine am_Rq.getf (v := .int (nI (t (8 * i + 7)))) (show decode (am_by 68) 119 = .ok (.getfield 70, 3) by decide +kernel) rfl (Led.sc hL4x (by omega)) rfl ?_
          refine am_Rq.callV (show decode (am_by 68) 122 = .ok (.invokevirtual 115, 3) by decide +kernel) rfl [.int (nI (t (8 * i + 7)))] [.int (nI i), .ref 235] rfl rfl (Nat.le_of_ble_eq_true rfl) rfl (Led.sc hL4x (by omega)) rfl (c_inCommon hL4x (by omega) (by omega) (by omega) (by omega) (by omega) (by have := ok.pr (c := i) (n := t (8 * i + 7)) (by omega) a9; omega)) ?_
          rintro hq _ ⟨e1, rfl⟩
          rw [e1]
          clear e1 hq
          show am_Rq _ 68 125 [some (.ref 212), some (.ref 3), some (.int (nI e)), some (.int (nI i)), some (.ref (3 + 2 + 2 * i)), some (.int (nI 0)), some (.int (nI 1)), some (.int (nI 0))] [.int (nI (t (8 * i + 7) * 1000 * t (8 * i) / t (8 * i + 6))), .int (nI i), .ref 235] _ _
          refine am_Rq.blk (is := [(.goto 4, 3)]) (q := (129, [some (.ref 212), some (.ref 3), some (.int (nI e)), some (.int (nI i)), some (.ref (3 + 2 + 2 * i)), some (.int (nI 0)), some (.int (nI 1)), some (.int (nI 0))], [.int (nI (t (8 * i + 7) * 1000 * t (8 * i) / t (8 * i + 6))), .int (nI i), .ref 235])) (by decide +kernel) rfl ?_
          dsimp only
          refine am_Rq.ias (k := i) (x := nI (t (8 * i + 7) * 1000 * t (8 * i) / t (8 * i + 6))) (show decode (am_by 68) 129 = .ok (.iastore, 1) by decide +kernel) hc4_235 (by omega) (by omega) (by omega) ?_
          have hc5_212 := (am_sn (c' := (100, (am_ia (va_up g5 i (nI (t (8 * i + 7) * 1000 * t (8 * i) / t (8 * i + 6)))) 5))) (show 235 ≠ 212 by omega)).trans hc4_212
          have hc5_234 := (am_sn (c' := (100, (am_ia (va_up g5 i (nI (t (8 * i + 7) * 1000 * t (8 * i) / t (8 * i + 6)))) 5))) (show 235 ≠ 234 by omega)).trans hc4_234
          have hc5_235 := am_ss (c' := (100, (am_ia (va_up g5 i (nI (t (8 * i + 7) * 1000 * t (8 * i) / t (8 * i + 6)))) 5))) hc4_235
          have hc5_236 := (am_sn (c' := (100, (am_ia (va_up g5 i (nI (t (8 * i + 7) * 1000 * t (8 * i) / t (8 * i + 6)))) 5))) (show 235 ≠ 236 by omega)).trans hc4_236
          have hL5x := Led.kept hL4x (fun q hq => am_sn (c' := (100, (am_ia (va_up g5 i (nI (t (8 * i + 7) * 1000 * t (8 * i) / t (8 * i + 6)))) 5))) (show 235 ≠ q by obtain ⟨_, _⟩ := hq; omega))
          have hf5 := (am_fr.rf (A := fun q => q = 235)).set (c' := (100, (am_ia (va_up g5 i (nI (t (8 * i + 7) * 1000 * t (8 * i) / t (8 * i + 6)))) 5))) rfl hc4_235 (by simp [am_ia_len, am_la_len])
          generalize hze5 : (List.set _ 235 _ : am_H) = hz5 at hf5 hc5_212 hc5_234 hc5_235 hc5_236 hL5x ⊢
          clear hze5
          refine am_Rq.blk (is := [(.aload_n 0, 1)]) (q := (131, [some (.ref 212), some (.ref 3), some (.int (nI e)), some (.int (nI i)), some (.ref (3 + 2 + 2 * i)), some (.int (nI 0)), some (.int (nI 1)), some (.int (nI 0))], [.ref 212])) (by decide +kernel) rfl ?_
          dsimp only
          refine am_Rq.getf (v := .ref 236) (show decode (am_by 68) 131 = .ok (.getfield 34, 3) by decide +kernel) rfl hc5_212 rfl ?_
          refine am_Rq.blk (is := [(.iload_n 3, 1), (.iload 7, 2)]) (q := (137, [some (.ref 212), some (.ref 3), some (.int (nI e)), some (.int (nI i)), some (.ref (3 + 2 + 2 * i)), some (.int (nI 0)), some (.int (nI 1)), some (.int (nI 0))], [.int (nI 0), .int (nI i), .ref 236])) (by decide +kernel) rfl ?_
          dsimp only
          refine am_Rq.if1T (t := 148) (show decode (am_by 68) 137 = .ok (.ifCond .eq 11, 3) by decide +kernel) (by decide) (rfl) ?_
          refine am_Rq.blk (is := [(.ldc2_w 123, 3)]) (q := (151, [some (.ref 212), some (.ref 3), some (.int (nI e)), some (.int (nI i)), some (.ref (3 + 2 + 2 * i)), some (.int (nI 0)), some (.int (nI 1)), some (.int (nI 0))], [.long (lN 2000000000), .int (nI i), .ref 236])) (by decide +kernel) rfl ?_
          dsimp only
          refine am_Rq.las (k := i) (x := lN 2000000000) (show decode (am_by 68) 151 = .ok (.lastore, 1) by decide +kernel) hc5_236 (by omega) (by omega) (by omega) ?_
          have hc6_212 := (am_sn (c' := (101, (am_la (va_up g6 i (lN 2000000000)) 5))) (show 236 ≠ 212 by omega)).trans hc5_212
          have hc6_234 := (am_sn (c' := (101, (am_la (va_up g6 i (lN 2000000000)) 5))) (show 236 ≠ 234 by omega)).trans hc5_234
          have hc6_235 := (am_sn (c' := (101, (am_la (va_up g6 i (lN 2000000000)) 5))) (show 236 ≠ 235 by omega)).trans hc5_235
          have hc6_236 := am_ss (c' := (101, (am_la (va_up g6 i (lN 2000000000)) 5))) hc5_236
          have hL6x := Led.kept hL5x (fun q hq => am_sn (c' := (101, (am_la (va_up g6 i (lN 2000000000)) 5))) (show 236 ≠ q by obtain ⟨_, _⟩ := hq; omega))
          have hf6 := (am_fr.rf (A := fun q => q = 236)).set (c' := (101, (am_la (va_up g6 i (lN 2000000000)) 5))) rfl hc5_236 (by simp [am_ia_len, am_la_len])
          generalize hze6 : (List.set _ 236 _ : am_H) = hz6 at hf6 hc6_212 hc6_234 hc6_235 hc6_236 hL6x ⊢
          clear hze6
          refine am_Rq.blk (is := [(.iinc 3 1, 3)]) (q := (155, [some (.ref 212), some (.ref 3), some (.int (nI e)), some (.int ((nI i) + (nI 1))), some (.ref (3 + 2 + 2 * i)), some (.int (nI 0)), some (.int (nI 1)), some (.int (nI 0))], [])) (by decide +kernel) rfl ?_
          dsimp only
          rw [show (nI i) + (nI 1) = nI (i + 1) from nI_add _ _]
          refine am_Rq.blk (is := [(.goto (-153), 3)]) (q := (2, [some (.ref 212), some (.ref 3), some (.int (nI e)), some (.int (nI (i + 1))), some (.ref (3 + 2 + 2 * i)), some (.int (nI 0)), some (.int (nI 1)), some (.int (nI 0))], [])) (by decide +kernel) rfl ?_
          dsimp only
          refine ih _ _ ⟨_, _, _, _, rfl, ⟨_, _, _, hc6_234, hc6_235, hc6_236, fun q hq => ?_⟩, hc6_212, hL6x, (((hf0.trans (hf4.mono (A' := fun x => x = 234 ∨ x = 235 ∨ x = 236) (fun x q => by omega))).trans (hf5.mono (A' := fun x => x = 234 ∨ x = 235 ∨ x = 236) (fun x q => by omega))).trans (hf6.mono (A' := fun x => x = 234 ∨ x = 235 ∨ x = 236) (fun x q => by omega)))⟩
          by_cases ee : q = i
          · subst ee
            rw [va_up_self, va_up_self, va_up_self]
            refine ⟨?_, ?_, ?_⟩
            · unfold sl_P; rw [if_neg (by rw [hs]; decide)]
            · unfold sl_W; rw [if_pos (Or.inr (by omega))]; rfl
            · unfold sl_M; rw [if_neg (fun z => by have := z.2; omega)]
          · rw [va_up_ne _ _ ee, va_up_ne _ _ ee, va_up_ne _ _ ee]; exact hx q (by omega)
        ·
          rw [nm_eq (by omega) (by omega)] at hk1
          have hk1 := of_decide_eq_false hk1
          refine am_Rq.blk (is := [(.aload 4, 2)]) (q := (50, [some (.ref 212), some (.ref 3), some (.int (nI e)), some (.int (nI i)), some (.ref (3 + 2 + 2 * i)), some (.int (nI 0)), z6, z7], [.ref (3 + 2 + 2 * i)])) (by decide +kernel) rfl ?_
          dsimp only
          refine am_Rq.getf (v := .int (nI (t (8 * i + 3)))) (show decode (am_by 68) 50 = .ok (.getfield 108, 3) by decide +kernel) rfl (Led.sc h (by omega)) rfl ?_
          refine am_Rq.blk (is := [(.iconst 2, 1)]) (q := (54, [some (.ref 212), some (.ref 3), some (.int (nI e)), some (.int (nI i)), some (.ref (3 + 2 + 2 * i)), some (.int (nI 0)), z6, z7], [.int (nI 2), .int (nI (t (8 * i + 3)))])) (by decide +kernel) rfl ?_
          dsimp only
          refine am_Rq.if2 (t := 61) (show decode (am_by 68) 54 = .ok (.if_icmp .ne 7, 3) by decide +kernel) (by decide) (fun hk2 => ?_) (fun hk2 => ?_)
          ·
            rw [nm_ne (by omega) (by omega)] at hk2
            have hk2 := of_decide_eq_true hk2
            refine am_Rq.blk (is := [(.iconst 0, 1), (.istore 6, 2), (.iload 5, 2)]) (q := (66, [some (.ref 212), some (.ref 3), some (.int (nI e)), some (.int (nI i)), some (.ref (3 + 2 + 2 * i)), some (.int (nI 0)), some (.int (nI 0)), z7], [.int (nI 0)])) (by decide +kernel) rfl ?_
            dsimp only
            refine am_Rq.if1F (show decode (am_by 68) 66 = .ok (.ifCond .ne 16, 3) by decide +kernel) (by decide) (rfl) ?_
            refine am_Rq.blk (is := [(.aload 4, 2)]) (q := (71, [some (.ref 212), some (.ref 3), some (.int (nI e)), some (.int (nI i)), some (.ref (3 + 2 + 2 * i)), some (.int (nI 0)), some (.int (nI 0)), z7], [.ref (3 + 2 + 2 * i)])) (by decide +kernel) rfl ?_
            dsimp only
            refine am_Rq.getf (v := .int (nI (t (8 * i + 3)))) (show decode (am_by 68) 71 = .ok (.getfield 108, 3) by decide +kernel) rfl (Led.sc h (by omega)) rfl ?_
            refine am_Rq.blk (is := [(.iconst 2, 1)]) (q := (75, [some (.ref 212), some (.ref 3), some (.int (nI e)), some (.int (nI i)), some (.ref (3 + 2 + 2 * i)), some (.int (nI 0)), some (.int (nI 0)), z7], [.int (nI 2), .int (nI (t (8 * i + 3)))])) (by decide +kernel) rfl ?_
            dsimp only
            refine am_Rq.if2T (t := 82) (show decode (am_by 68) 75 = .ok (.if_icmp .ne 7, 3) by decide +kernel) (by decide) (by rw [nm_ne (by omega) (by omega)]; exact decide_eq_true (by omega)) ?_
            refine am_Rq.blk (is := [(.iconst 0, 1), (.istore 7, 2), (.aload_n 0, 1)]) (q := (86, [some (.ref 212), some (.ref 3), some (.int (nI e)), some (.int (nI i)), some (.ref (3 + 2 + 2 * i)), some (.int (nI 0)), some (.int (nI 0)), some (.int (nI 0))], [.ref 212])) (by decide +kernel) rfl ?_
            dsimp only
            refine am_Rq.getf (v := .ref 234) (show decode (am_by 68) 86 = .ok (.getfield 27, 3) by decide +kernel) rfl hO rfl ?_
            refine am_Rq.blk (is := [(.iload_n 3, 1), (.iload 5, 2)]) (q := (92, [some (.ref 212), some (.ref 3), some (.int (nI e)), some (.int (nI i)), some (.ref (3 + 2 + 2 * i)), some (.int (nI 0)), some (.int (nI 0)), some (.int (nI 0))], [.int (nI 0), .int (nI i), .ref 234])) (by decide +kernel) rfl ?_
            dsimp only
            refine am_Rq.if1T (t := 99) (show decode (am_by 68) 92 = .ok (.ifCond .eq 7, 3) by decide +kernel) (by decide) (rfl) ?_
            refine am_Rq.blk (is := [(.aload 4, 2)]) (q := (101, [some (.ref 212), some (.ref 3), some (.int (nI e)), some (.int (nI i)), some (.ref (3 + 2 + 2 * i)), some (.int (nI 0)), some (.int (nI 0)), some (.int (nI 0))], [.ref (3 + 2 + 2 * i), .int (nI i), .ref 234])) (by decide +kernel) rfl ?_
            dsimp only
            refine am_Rq.callV (show decode (am_by 68) 101 = .ok (.invokevirtual 111, 3) by decide +kernel) rfl [] [.int (nI i), .ref 234] rfl rfl (Nat.le_of_ble_eq_true rfl) rfl (Led.sc h (by omega)) rfl (c_preference h (by omega)) ?_
            rintro hq _ ⟨e1, rfl⟩
            rw [e1]
            clear e1 hq
            show am_Rq _ 68 104 [some (.ref 212), some (.ref 3), some (.int (nI e)), some (.int (nI i)), some (.ref (3 + 2 + 2 * i)), some (.int (nI 0)), some (.int (nI 0)), some (.int (nI 0))] [.int (nI (t (8 * i + 7) * t (8 * i) * t (8 * i + 1))), .int (nI i), .ref 234] _ _
            refine am_Rq.ias (k := i) (x := nI (t (8 * i + 7) * t (8 * i) * t (8 * i + 1))) (show decode (am_by 68) 104 = .ok (.iastore, 1) by decide +kernel) h4 (by omega) (by omega) (by omega) ?_
            have hc7_212 := (am_sn (c' := (100, (am_ia (va_up g4 i (nI (t (8 * i + 7) * t (8 * i) * t (8 * i + 1)))) 5))) (show 234 ≠ 212 by omega)).trans hO
            have hc7_234 := am_ss (c' := (100, (am_ia (va_up g4 i (nI (t (8 * i + 7) * t (8 * i) * t (8 * i + 1)))) 5))) h4
            have hc7_235 := (am_sn (c' := (100, (am_ia (va_up g4 i (nI (t (8 * i + 7) * t (8 * i) * t (8 * i + 1)))) 5))) (show 234 ≠ 235 by omega)).trans h5
            have hc7_236 := (am_sn (c' := (100, (am_ia (va_up g4 i (nI (t (8 * i + 7) * t (8 * i) * t (8 * i + 1)))) 5))) (show 234 ≠ 236 by omega)).trans h6
            have hL7x := Led.kept h (fun q hq => am_sn (c' := (100, (am_ia (va_up g4 i (nI (t (8 * i + 7) * t (8 * i) * t (8 * i + 1)))) 5))) (show 234 ≠ q by obtain ⟨_, _⟩ := hq; omega))
            have hf7 := (am_fr.rf (A := fun q => q = 234)).set (c' := (100, (am_ia (va_up g4 i (nI (t (8 * i + 7) * t (8 * i) * t (8 * i + 1)))) 5))) rfl h4 (by simp [am_ia_len, am_la_len])
            generalize hze7 : (List.set _ 234 _ : am_H) = hz7 at hf7 hc7_212 hc7_234 hc7_235 hc7_236 hL7x ⊢
            clear hze7
            refine am_Rq.blk (is := [(.aload_n 0, 1)]) (q := (106, [some (.ref 212), some (.ref 3), some (.int (nI e)), some (.int (nI i)), some (.ref (3 + 2 + 2 * i)), some (.int (nI 0)), some (.int (nI 0)), some (.int (nI 0))], [.ref 212])) (by decide +kernel) rfl ?_
            dsimp only
            refine am_Rq.getf (v := .ref 235) (show decode (am_by 68) 106 = .ok (.getfield 31, 3) by decide +kernel) rfl hc7_212 rfl ?_
            refine am_Rq.blk (is := [(.iload_n 3, 1), (.iload 6, 2)]) (q := (112, [some (.ref 212), some (.ref 3), some (.int (nI e)), some (.int (nI i)), some (.ref (3 + 2 + 2 * i)), some (.int (nI 0)), some (.int (nI 0)), some (.int (nI 0))], [.int (nI 0), .int (nI i), .ref 235])) (by decide +kernel) rfl ?_
            dsimp only
            refine am_Rq.if1T (t := 128) (show decode (am_by 68) 112 = .ok (.ifCond .eq 16, 3) by decide +kernel) (by decide) (rfl) ?_
            refine am_Rq.blk (is := [(.iconst 0, 1)]) (q := (129, [some (.ref 212), some (.ref 3), some (.int (nI e)), some (.int (nI i)), some (.ref (3 + 2 + 2 * i)), some (.int (nI 0)), some (.int (nI 0)), some (.int (nI 0))], [.int (nI 0), .int (nI i), .ref 235])) (by decide +kernel) rfl ?_
            dsimp only
            refine am_Rq.ias (k := i) (x := nI 0) (show decode (am_by 68) 129 = .ok (.iastore, 1) by decide +kernel) hc7_235 (by omega) (by omega) (by omega) ?_
            have hc8_212 := (am_sn (c' := (100, (am_ia (va_up g5 i (nI 0)) 5))) (show 235 ≠ 212 by omega)).trans hc7_212
            have hc8_234 := (am_sn (c' := (100, (am_ia (va_up g5 i (nI 0)) 5))) (show 235 ≠ 234 by omega)).trans hc7_234
            have hc8_235 := am_ss (c' := (100, (am_ia (va_up g5 i (nI 0)) 5))) hc7_235
            have hc8_236 := (am_sn (c' := (100, (am_ia (va_up g5 i (nI 0)) 5))) (show 235 ≠ 236 by omega)).trans hc7_236
            have hL8x := Led.kept hL7x (fun q hq => am_sn (c' := (100, (am_ia (va_up g5 i (nI 0)) 5))) (show 235 ≠ q by obtain ⟨_, _⟩ := hq; omega))
            have hf8 := (am_fr.rf (A := fun q => q = 235)).set (c' := (100, (am_ia (va_up g5 i (nI 0)) 5))) rfl hc7_235 (by simp [am_ia_len, am_la_len])
            generalize hze8 : (List.set _ 235 _ : am_H) = hz8 at hf8 hc8_212 hc8_234 hc8_235 hc8_236 hL8x ⊢
            clear hze8
            refine am_Rq.blk (is := [(.aload_n 0, 1)]) (q := (131, [some (.ref 212), some (.ref 3), some (.int (nI e)), some (.int (nI i)), some (.ref (3 + 2 + 2 * i)), some (.int (nI 0)), some (.int (nI 0)), some (.int (nI 0))], [.ref 212])) (by decide +kernel) rfl ?_
            dsimp only
            refine am_Rq.getf (v := .ref 236) (show decode (am_by 68) 131 = .ok (.getfield 34, 3) by decide +kernel) rfl hc8_212 rfl ?_
            refine am_Rq.blk (is := [(.iload_n 3, 1), (.iload 7, 2)]) (q := (137, [some (.ref 212), some (.ref 3), some (.int (nI e)), some (.int (nI i)), some (.ref (3 + 2 + 2 * i)), some (.int (nI 0)), some (.int (nI 0)), some (.int (nI 0))], [.int (nI 0), .int (nI i), .ref 236])) (by decide +kernel) rfl ?_
            dsimp only
            refine am_Rq.if1T (t := 148) (show decode (am_by 68) 137 = .ok (.ifCond .eq 11, 3) by decide +kernel) (by decide) (rfl) ?_
            refine am_Rq.blk (is := [(.ldc2_w 123, 3)]) (q := (151, [some (.ref 212), some (.ref 3), some (.int (nI e)), some (.int (nI i)), some (.ref (3 + 2 + 2 * i)), some (.int (nI 0)), some (.int (nI 0)), some (.int (nI 0))], [.long (lN 2000000000), .int (nI i), .ref 236])) (by decide +kernel) rfl ?_
            dsimp only
            refine am_Rq.las (k := i) (x := lN 2000000000) (show decode (am_by 68) 151 = .ok (.lastore, 1) by decide +kernel) hc8_236 (by omega) (by omega) (by omega) ?_
            have hc9_212 := (am_sn (c' := (101, (am_la (va_up g6 i (lN 2000000000)) 5))) (show 236 ≠ 212 by omega)).trans hc8_212
            have hc9_234 := (am_sn (c' := (101, (am_la (va_up g6 i (lN 2000000000)) 5))) (show 236 ≠ 234 by omega)).trans hc8_234
            have hc9_235 := (am_sn (c' := (101, (am_la (va_up g6 i (lN 2000000000)) 5))) (show 236 ≠ 235 by omega)).trans hc8_235
            have hc9_236 := am_ss (c' := (101, (am_la (va_up g6 i (lN 2000000000)) 5))) hc8_236
            have hL9x := Led.kept hL8x (fun q hq => am_sn (c' := (101, (am_la (va_up g6 i (lN 2000000000)) 5))) (show 236 ≠ q by obtain ⟨_, _⟩ := hq; omega))
            have hf9 := (am_fr.rf (A := fun q => q = 236)).set (c' := (101, (am_la (va_up g6 i (lN 2000000000)) 5))) rfl hc8_236 (by simp [am_ia_len, am_la_len])
            generalize hze9 : (List.set _ 236 _ : am_H) = hz9 at hf9 hc9_212 hc9_234 hc9_235 hc9_236 hL9x ⊢
            clear hze9
            refine am_Rq.blk (is := [(.iinc 3 1, 3)]) (q := (155, [some (.ref 212), some (.ref 3), some (.int (nI e)), some (.int ((nI i) + (nI 1))), some (.ref (3 + 2 + 2 * i)), some (.int (nI 0)), some (.int (nI 0)), some (.int (nI 0))], [])) (by decide +kernel) rfl ?_
            dsimp only
            rw [show (nI i) + (nI 1) = nI (i + 1) from nI_add _ _]
            refine am_Rq.blk (is := [(.goto (-153), 3)]) (q := (2, [some (.ref 212), some (.ref 3), some (.int (nI e)), some (.int (nI (i + 1))), some (.ref (3 + 2 + 2 * i)), some (.int (nI 0)), some (.int (nI 0)), some (.int (nI 0))], [])) (by decide +kernel) rfl ?_
            dsimp only
            refine ih _ _ ⟨_, _, _, _, rfl, ⟨_, _, _, hc9_234, hc9_235, hc9_236, fun q hq => ?_⟩, hc9_212, hL9x, (((hf0.trans (hf7.mono (A' := fun x => x = 234 ∨ x = 235 ∨ x = 236) (fun x q => by omega))).trans (hf8.mono (A' := fun x => x = 234 ∨ x = 235 ∨ x = 236) (fun x q => by omega))).trans (hf9.mono (A' := fun x => x = 234 ∨ x = 235 ∨ x = 236) (fun x q => by omega)))⟩
            by_cases ee : q = i
            · subst ee
              rw [va_up_self, va_up_self, va_up_self]
              refine ⟨?_, ?_, ?_⟩
              · unfold sl_P; rw [if_neg (by rw [hs]; decide)]
              · unfold sl_W; rw [if_neg (by rw [hs]; simp only [Bool.false_eq_true, false_or]; omega)]
              · unfold sl_M; rw [if_neg (fun z => by have := z.2; omega)]
            · rw [va_up_ne _ _ ee, va_up_ne _ _ ee, va_up_ne _ _ ee]; exact hx q (by omega)
          ·
            rw [nm_ne (by omega) (by omega)] at hk2
            have hk2 := of_decide_eq_false hk2
            refine am_Rq.blk (is := [(.iconst 1, 1), (.goto 4, 3)]) (q := (62, [some (.ref 212), some (.ref 3), some (.int (nI e)), some (.int (nI i)), some (.ref (3 + 2 + 2 * i)), some (.int (nI 0)), z6, z7], [.int (nI 1)])) (by decide +kernel) rfl ?_
            dsimp only
            refine am_Rq.blk (is := [(.istore 6, 2), (.iload 5, 2)]) (q := (66, [some (.ref 212), some (.ref 3), some (.int (nI e)), some (.int (nI i)), some (.ref (3 + 2 + 2 * i)), some (.int (nI 0)), some (.int (nI 1)), z7], [.int (nI 0)])) (by decide +kernel) rfl ?_
            dsimp only
            refine am_Rq.if1F (show decode (am_by 68) 66 = .ok (.ifCond .ne 16, 3) by decide +kernel) (by decide) (rfl) ?_
            refine am_Rq.blk (is := [(.aload 4, 2)]) (q := (71, [some (.ref 212), some (.ref 3), some (.int (nI e)), some (.int (nI i)), some (.ref (3 + 2 + 2 * i)), some (.int (nI 0)), some (.int (nI 1)), z7], [.ref (3 + 2 + 2 * i)])) (by decide +kernel) rfl ?_
            dsimp only
            refine am_Rq.getf (v := .int (nI (t (8 * i + 3)))) (show decode (am_by 68) 71 = .ok (.getfield 108, 3) by decide +kernel) rfl (Led.sc h (by omega)) rfl ?_
            refine am_Rq.blk (is := [(.iconst 2, 1)]) (q := (75, [some (.ref 212), some (.ref 3), some (.int (nI e)), some (.int (nI i)), some (.ref (3 + 2 + 2 * i)), some (.int (nI 0)), some (.int (nI 1)), z7], [.int (nI 2), .int (nI (t (8 * i + 3)))])) (by decide +kernel) rfl ?_
            dsimp only
            refine am_Rq.if2F (show decode (am_by 68) 75 = .ok (.if_icmp .ne 7, 3) by decide +kernel) (by decide) (by rw [nm_ne (by omega) (by omega)]; exact decide_eq_false (by omega)) ?_
            refine am_Rq.blk (is := [(.iconst 1, 1), (.goto 4, 3)]) (q := (83, [some (.ref 212), some (.ref 3), some (.int (nI e)), some (.int (nI i)), some (.ref (3 + 2 + 2 * i)), some (.int (nI 0)), some (.int (nI 1)), z7], [.int (nI 1)])) (by decide +kernel) rfl ?_
            dsimp only
            refine am_Rq.blk (is := [(.istore 7, 2), (.aload_n 0, 1)]) (q := (86, [some (.ref 212), some (.ref 3), some (.int (nI e)), some (.int (nI i)), some (.ref (3 + 2 + 2 * i)), some (.int (nI 0)), some (.int (nI 1)), some (.int (nI 1))], [.ref 212])) (by decide +kernel) rfl ?_
            dsimp only
            refine am_Rq.getf (v := .ref 234) (show decode (am_by 68) 86 = .ok (.getfield 27, 3) by decide +kernel) rfl hO rfl ?_
            refine am_Rq.blk (is := [(.iload_n 3, 1), (.iload 5, 2)]) (q := (92, [some (.ref 212), some (.ref 3), some (.int (nI e)), some (.int (nI i)), some (.ref (3 + 2 + 2 * i)), some (.int (nI 0)), some (.int (nI 1)), some (.int (nI 1))], [.int (nI 0), .int (nI i), .ref 234])) (by decide +kernel) rfl ?_
            dsimp only
            refine am_Rq.if1T (t := 99) (show decode (am_by 68) 92 = .ok (.ifCond .eq 7, 3) by decide +kernel) (by decide) (rfl) ?_
            refine am_Rq.blk (is := [(.aload 4, 2)]) (q := (101, [some (.ref 212), some (.ref 3), some (.int (nI e)), some (.int (nI i)), some (.ref (3 + 2 + 2 * i)), some (.int (nI 0)), some (.int (nI 1)), some (.int (nI 1))], [.ref (3 + 2 + 2 * i), .int (nI i), .ref 234])) (by decide +kernel) rfl ?_
            dsimp only
            refine am_Rq.callV (show decode (am_by 68) 101 = .ok (.invokevirtual 111, 3) by decide +kernel) rfl [] [.int (nI i), .ref 234] rfl rfl (Nat.le_of_ble_eq_true rfl) rfl (Led.sc h (by omega)) rfl (c_preference h (by omega)) ?_
            rintro hq _ ⟨e1, rfl⟩
            rw [e1]
            clear e1 hq
            show am_Rq _ 68 104 [some (.ref 212), some (.ref 3), some (.int (nI e)), some (.int (nI i)), some (.ref (3 + 2 + 2 * i)), some (.int (nI 0)), some (.int (nI 1)), some (.int (nI 1))] [.int (nI (t (8 * i + 7) * t (8 * i) * t (8 * i + 1))), .int (nI i), .ref 234] _ _
            refine am_Rq.ias (k := i) (x := nI (t (8 * i + 7) * t (8 * i) * t (8 * i + 1))) (show decode (am_by 68) 104 = .ok (.iastore, 1) by decide +kernel) h4 (by omega) (by omega) (by omega) ?_
            have hc10_212 := (am_sn (c' := (100, (am_ia (va_up g4 i (nI (t (8 * i + 7) * t (8 * i) * t (8 * i + 1)))) 5))) (show 234 ≠ 212 by omega)).trans hO
            have hc10_234 := am_ss (c' := (100, (am_ia (va_up g4 i (nI (t (8 * i + 7) * t (8 * i) * t (8 * i + 1)))) 5))) h4
            have hc10_235 := (am_sn (c' := (100, (am_ia (va_up g4 i (nI (t (8 * i + 7) * t (8 * i) * t (8 * i + 1)))) 5))) (show 234 ≠ 235 by omega)).trans h5
            have hc10_236 := (am_sn (c' := (100, (am_ia (va_up g4 i (nI (t (8 * i + 7) * t (8 * i) * t (8 * i + 1)))) 5))) (show 234 ≠ 236 by omega)).trans h6
            have hL10x := Led.kept h (fun q hq => am_sn (c' := (100, (am_ia (va_up g4 i (nI (t (8 * i + 7) * t (8 * i) * t (8 * i + 1)))) 5))) (show 234 ≠ q by obtain ⟨_, _⟩ := hq; omega))
            have hf10 := (am_fr.rf (A := fun q => q = 234)).set (c' := (100, (am_ia (va_up g4 i (nI (t (8 * i + 7) * t (8 * i) * t (8 * i + 1)))) 5))) rfl h4 (by simp [am_ia_len, am_la_len])
            generalize hze10 : (List.set _ 234 _ : am_H) = hz10 at hf10 hc10_212 hc10_234 hc10_235 hc10_236 hL10x ⊢
            clear hze10
            refine am_Rq.blk (is := [(.aload_n 0, 1)]) (q := (106, [some (.ref 212), some (.ref 3), some (.int (nI e)), some (.int (nI i)), some (.ref (3 + 2 + 2 * i)), some (.int (nI 0)), some (.int (nI 1)), some (.int (nI 1))], [.ref 212])) (by decide +kernel) rfl ?_
            dsimp only
            refine am_Rq.getf (v := .ref 235) (show decode (am_by 68) 106 = .ok (.getfield 31, 3) by decide +kernel) rfl hc10_212 rfl ?_
            refine am_Rq.blk (is := [(.iload_n 3, 1), (.iload 6, 2)]) (q := (112, [some (.ref 212), some (.ref 3), some (.int (nI e)), some (.int (nI i)), some (.ref (3 + 2 + 2 * i)), some (.int (nI 0)), some (.int (nI 1)), some (.int (nI 1))], [.int (nI 1), .int (nI i), .ref 235])) (by decide +kernel) rfl ?_
            dsimp only
            refine am_Rq.if1F (show decode (am_by 68) 112 = .ok (.ifCond .eq 16, 3) by decide +kernel) (by decide) (rfl) ?_
            refine am_Rq.blk (is := [(.aload 4, 2), (.aload 4, 2)]) (q := (119, [some (.ref 212), some (.ref 3), some (.int (nI e)), some (.int (nI i)), some (.ref (3 + 2 + 2 * i)), some (.int (nI 0)), some (.int (nI 1)), some (.int (nI 1))], [.ref (3 + 2 + 2 * i), .ref (3 + 2 + 2 * i), .int (nI i), .ref 235])) (by decide +kernel) rfl ?_
            dsimp only
            refine am_Rq.getf (v := .int (nI (t (8 * i + 7)))) (show decode (am_by 68) 119 = .ok (.getfield 70, 3) by decide +kernel) rfl (Led.sc hL10x (by omega)) rfl ?_
            refine am_Rq.callV (show decode (am_by 68) 122 = .ok (.invokevirtual 115, 3) by decide +kernel) rfl [.int (nI (t (8 * i + 7)))] [.int (nI i), .ref 235] rfl rfl (Nat.le_of_ble_eq_true rfl) rfl (Led.sc hL10x (by omega)) rfl (c_inCommon hL10x (by omega) (by omega) (by omega) (by omega) (by omega) (by have := ok.pr (c := i) (n := t (8 * i + 7)) (by omega) a9; omega)) ?_
            rintro hq _ ⟨e1, rfl⟩
            rw [e1]
            clear e1 hq
            show am_Rq _ 68 125 [some (.ref 212), some (.ref 3), some (.int (nI e)), some (.int (nI i)), some (.ref (3 + 2 + 2 * i)), some (.int (nI 0)), some (.int (nI 1)), some (.int (nI 1))] [.int (nI (t (8 * i + 7) * 1000 * t (8 * i) / t (8 * i + 6))), .int (nI i), .ref 235] _ _
            refine am_Rq.blk (is := [(.goto 4, 3)]) (q := (129, [some (.ref 212), some (.ref 3), some (.int (nI e)), some (.int (nI i)), some (.ref (3 + 2 + 2 * i)), some (.int (nI 0)), some (.int (nI 1)), some (.int (nI 1))], [.int (nI (t (8 * i + 7) * 1000 * t (8 * i) / t (8 * i + 6))), .int (nI i), .ref 235])) (by decide +kernel) rfl ?_
            dsimp only
            refine am_Rq.ias (k := i) (x := nI (t (8 * i + 7) * 1000 * t (8 * i) / t (8 * i + 6))) (show decode (am_by 68) 129 = .ok (.iastore, 1) by decide +kernel) hc10_235 (by omega) (by omega) (by omega) ?_
            have hc11_212 := (am_sn (c' := (100, (am_ia (va_up g5 i (nI (t (8 * i + 7) * 1000 * t (8 * i) / t (8 * i + 6)))) 5))) (show 235 ≠ 212 by omega)).trans hc10_212
            have hc11_234 := (am_sn (c' := (100, (am_ia (va_up g5 i (nI (t (8 * i + 7) * 1000 * t (8 * i) / t (8 * i + 6)))) 5))) (show 235 ≠ 234 by omega)).trans hc10_234
            have hc11_235 := am_ss (c' := (100, (am_ia (va_up g5 i (nI (t (8 * i + 7) * 1000 * t (8 * i) / t (8 * i + 6)))) 5))) hc10_235
            have hc11_236 := (am_sn (c' := (100, (am_ia (va_up g5 i (nI (t (8 * i + 7) * 1000 * t (8 * i) / t (8 * i + 6)))) 5))) (show 235 ≠ 236 by omega)).trans hc10_236
            have hL11x := Led.kept hL10x (fun q hq => am_sn (c' := (100, (am_ia (va_up g5 i (nI (t (8 * i + 7) * 1000 * t (8 * i) / t (8 * i + 6)))) 5))) (show 235 ≠ q by obtain ⟨_, _⟩ := hq; omega))
            have hf11 := (am_fr.rf (A := fun q => q = 235)).set (c' := (100, (am_ia (va_up g5 i (nI (t (8 * i + 7) * 1000 * t (8 * i) / t (8 * i + 6)))) 5))) rfl hc10_235 (by simp [am_ia_len, am_la_len])
            generalize hze11 : (List.set _ 235 _ : am_H) = hz11 at hf11 hc11_212 hc11_234 hc11_235 hc11_236 hL11x ⊢
            clear hze11
            refine am_Rq.blk (is := [(.aload_n 0, 1)]) (q := (131, [some (.ref 212), some (.ref 3), some (.int (nI e)), some (.int (nI i)), some (.ref (3 + 2 + 2 * i)), some (.int (nI 0)), some (.int (nI 1)), some (.int (nI 1))], [.ref 212])) (by decide +kernel) rfl ?_
            dsimp only
            refine am_Rq.getf (v := .ref 236) (show decode (am_by 68) 131 = .ok (.getfield 34, 3) by decide +kernel) rfl hc11_212 rfl ?_
            refine am_Rq.blk (is := [(.iload_n 3, 1), (.iload 7, 2)]) (q := (137, [some (.ref 212), some (.ref 3), some (.int (nI e)), some (.int (nI i)), some (.ref (3 + 2 + 2 * i)), some (.int (nI 0)), some (.int (nI 1)), some (.int (nI 1))], [.int (nI 1), .int (nI i), .ref 236])) (by decide +kernel) rfl ?_
            dsimp only
            refine am_Rq.if1F (show decode (am_by 68) 137 = .ok (.ifCond .eq 11, 3) by decide +kernel) (by decide) (rfl) ?_
            refine am_Rq.blk (is := [(.aload 4, 2)]) (q := (142, [some (.ref 212), some (.ref 3), some (.int (nI e)), some (.int (nI i)), some (.ref (3 + 2 + 2 * i)), some (.int (nI 0)), some (.int (nI 1)), some (.int (nI 1))], [.ref (3 + 2 + 2 * i), .int (nI i), .ref 236])) (by decide +kernel) rfl ?_
            dsimp only
            have hPV : t (8 * i + 7) * t (8 * i) * t (8 * i + 1) ≤ 5000 * 1000 * 300 := Nat.mul_le_mul (Nat.mul_le_mul (a10 (by omega)) a1) a2
            have hMV : t (8 * i + 7) * t (8 * i) * t (8 * i + 4) ≤ 20000 * 1000 * 900 := Nat.mul_le_mul (Nat.mul_le_mul a9 a1) a5
            refine am_Rq.callV (show decode (am_by 68) 142 = .ok (.invokevirtual 119, 3) by decide +kernel) rfl [] [.int (nI i), .ref 236] rfl rfl (Nat.le_of_ble_eq_true rfl) rfl (Led.sc hL11x (by omega)) rfl (c_most hL11x (by omega) hB (by omega) (by omega)) ?_
            rintro hq _ ⟨e1, rfl⟩
            rw [e1]
            clear e1 hq
            show am_Rq _ 68 145 [some (.ref 212), some (.ref 3), some (.int (nI e)), some (.int (nI i)), some (.ref (3 + 2 + 2 * i)), some (.int (nI 0)), some (.int (nI 1)), some (.int (nI 1))] [.long (lN (t (8 * i + 7) * t (8 * i) * t (8 * i + 4) - t (8 * i + 7) * t (8 * i) * t (8 * i + 1))), .int (nI i), .ref 236] _ _
            refine am_Rq.blk (is := [(.goto 6, 3)]) (q := (151, [some (.ref 212), some (.ref 3), some (.int (nI e)), some (.int (nI i)), some (.ref (3 + 2 + 2 * i)), some (.int (nI 0)), some (.int (nI 1)), some (.int (nI 1))], [.long (lN (t (8 * i + 7) * t (8 * i) * t (8 * i + 4) - t (8 * i + 7) * t (8 * i) * t (8 * i + 1))), .int (nI i), .ref 236])) (by decide +kernel) rfl ?_
            dsimp only
            refine am_Rq.las (k := i) (x := lN (t (8 * i + 7) * t (8 * i) * t (8 * i + 4) - t (8 * i + 7) * t (8 * i) * t (8 * i + 1))) (show decode (am_by 68) 151 = .ok (.lastore, 1) by decide +kernel) hc11_236 (by omega) (by omega) (by omega) ?_
            have hc12_212 := (am_sn (c' := (101, (am_la (va_up g6 i (lN (t (8 * i + 7) * t (8 * i) * t (8 * i + 4) - t (8 * i + 7) * t (8 * i) * t (8 * i + 1)))) 5))) (show 236 ≠ 212 by omega)).trans hc11_212
            have hc12_234 := (am_sn (c' := (101, (am_la (va_up g6 i (lN (t (8 * i + 7) * t (8 * i) * t (8 * i + 4) - t (8 * i + 7) * t (8 * i) * t (8 * i + 1)))) 5))) (show 236 ≠ 234 by omega)).trans hc11_234
            have hc12_235 := (am_sn (c' := (101, (am_la (va_up g6 i (lN (t (8 * i + 7) * t (8 * i) * t (8 * i + 4) - t (8 * i + 7) * t (8 * i) * t (8 * i + 1)))) 5))) (show 236 ≠ 235 by omega)).trans hc11_235
            have hc12_236 := am_ss (c' := (101, (am_la (va_up g6 i (lN (t (8 * i + 7) * t (8 * i) * t (8 * i + 4) - t (8 * i + 7) * t (8 * i) * t (8 * i + 1)))) 5))) hc11_236
            have hL12x := Led.kept hL11x (fun q hq => am_sn (c' := (101, (am_la (va_up g6 i (lN (t (8 * i + 7) * t (8 * i) * t (8 * i + 4) - t (8 * i + 7) * t (8 * i) * t (8 * i + 1)))) 5))) (show 236 ≠ q by obtain ⟨_, _⟩ := hq; omega))
            have hf12 := (am_fr.rf (A := fun q => q = 236)).set (c' := (101, (am_la (va_up g6 i (lN (t (8 * i + 7) * t (8 * i) * t (8 * i + 4) - t (8 * i + 7) * t (8 * i) * t (8 * i + 1)))) 5))) rfl hc11_236 (by simp [am_ia_len, am_la_len])
            generalize hze12 : (List.set _ 236 _ : am_H) = hz12 at hf12 hc12_212 hc12_234 hc12_235 hc12_236 hL12x ⊢
            clear hze12
            refine am_Rq.blk (is := [(.iinc 3 1, 3)]) (q := (155, [some (.ref 212), some (.ref 3), some (.int (nI e)), some (.int ((nI i) + (nI 1))), some (.ref (3 + 2 + 2 * i)), some (.int (nI 0)), some (.int (nI 1)), some (.int (nI 1))], [])) (by decide +kernel) rfl ?_
            dsimp only
            rw [show (nI i) + (nI 1) = nI (i + 1) from nI_add _ _]
            refine am_Rq.blk (is := [(.goto (-153), 3)]) (q := (2, [some (.ref 212), some (.ref 3), some (.int (nI e)), some (.int (nI (i + 1))), some (.ref (3 + 2 + 2 * i)), some (.int (nI 0)), some (.int (nI 1)), some (.int (nI 1))], [])) (by decide +kernel) rfl ?_
            dsimp only
            refine ih _ _ ⟨_, _, _, _, rfl, ⟨_, _, _, hc12_234, hc12_235, hc12_236, fun q hq => ?_⟩, hc12_212, hL12x, (((hf0.trans (hf10.mono (A' := fun x => x = 234 ∨ x = 235 ∨ x = 236) (fun x q => by omega))).trans (hf11.mono (A' := fun x => x = 234 ∨ x = 235 ∨ x = 236) (fun x q => by omega))).trans (hf12.mono (A' := fun x => x = 234 ∨ x = 235 ∨ x = 236) (fun x q => by omega)))⟩
            by_cases ee : q = i
            · subst ee
              rw [va_up_self, va_up_self, va_up_self]
              refine ⟨?_, ?_, ?_⟩
              · unfold sl_P; rw [if_neg (by rw [hs]; decide)]
              · unfold sl_W; rw [if_pos (Or.inr (by omega))]; rfl
              · unfold sl_M; rw [if_pos ⟨hs, by omega⟩]
            · rw [va_up_ne _ _ ee, va_up_ne _ _ ee, va_up_ne _ _ ee]; exact hx q (by omega)
      ·
        rw [am_b_eq, Bool.not_eq_false'] at hb
        have hs : sl_as e i = true := by unfold sl_as; rw [decide_eq_false h0, hb]; rfl
        refine am_Rq.blk (is := [(.iconst 1, 1), (.goto 4, 3)]) (q := (32, [some (.ref 212), some (.ref 3), some (.int (nI e)), some (.int (nI i)), some (.ref (3 + 2 + 2 * i)), z5, z6, z7], [.int (nI 1)])) (by decide +kernel) rfl ?_
        dsimp only
        refine am_Rq.blk (is := [(.istore 5, 2), (.iload 5, 2)]) (q := (36, [some (.ref 212), some (.ref 3), some (.int (nI e)), some (.int (nI i)), some (.ref (3 + 2 + 2 * i)), some (.int (nI 1)), z6, z7], [.int (nI 1)])) (by decide +kernel) rfl ?_
        dsimp only
        refine am_Rq.if1T (t := 57) (show decode (am_by 68) 36 = .ok (.ifCond .ne 21, 3) by decide +kernel) (by decide) (rfl) ?_
        refine am_Rq.blk (is := [(.iconst 1, 1), (.goto 4, 3)]) (q := (62, [some (.ref 212), some (.ref 3), some (.int (nI e)), some (.int (nI i)), some (.ref (3 + 2 + 2 * i)), some (.int (nI 1)), z6, z7], [.int (nI 1)])) (by decide +kernel) rfl ?_
        dsimp only
        refine am_Rq.blk (is := [(.istore 6, 2), (.iload 5, 2)]) (q := (66, [some (.ref 212), some (.ref 3), some (.int (nI e)), some (.int (nI i)), some (.ref (3 + 2 + 2 * i)), some (.int (nI 1)), some (.int (nI 1)), z7], [.int (nI 1)])) (by decide +kernel) rfl ?_
        dsimp only
        refine am_Rq.if1T (t := 82) (show decode (am_by 68) 66 = .ok (.ifCond .ne 16, 3) by decide +kernel) (by decide) (rfl) ?_
        refine am_Rq.blk (is := [(.iconst 0, 1), (.istore 7, 2), (.aload_n 0, 1)]) (q := (86, [some (.ref 212), some (.ref 3), some (.int (nI e)), some (.int (nI i)), some (.ref (3 + 2 + 2 * i)), some (.int (nI 1)), some (.int (nI 1)), some (.int (nI 0))], [.ref 212])) (by decide +kernel) rfl ?_
        dsimp only
        refine am_Rq.getf (v := .ref 234) (show decode (am_by 68) 86 = .ok (.getfield 27, 3) by decide +kernel) rfl hO rfl ?_
        refine am_Rq.blk (is := [(.iload_n 3, 1), (.iload 5, 2)]) (q := (92, [some (.ref 212), some (.ref 3), some (.int (nI e)), some (.int (nI i)), some (.ref (3 + 2 + 2 * i)), some (.int (nI 1)), some (.int (nI 1)), some (.int (nI 0))], [.int (nI 1), .int (nI i), .ref 234])) (by decide +kernel) rfl ?_
        dsimp only
        refine am_Rq.if1F (show decode (am_by 68) 92 = .ok (.ifCond .eq 7, 3) by decide +kernel) (by decide) (rfl) ?_
        refine am_Rq.blk (is := [(.iconst 0, 1), (.goto 8, 3)]) (q := (104, [some (.ref 212), some (.ref 3), some (.int (nI e)), some (.int (nI i)), some (.ref (3 + 2 + 2 * i)), some (.int (nI 1)), some (.int (nI 1)), some (.int (nI 0))], [.int (nI 0), .int (nI i), .ref 234])) (by decide +kernel) rfl ?_
        dsimp only
        refine am_Rq.ias (k := i) (x := nI 0) (show decode (am_by 68) 104 = .ok (.iastore, 1) by decide +kernel) h4 (by omega) (by omega) (by omega) ?_
        have hc13_212 := (am_sn (c' := (100, (am_ia (va_up g4 i (nI 0)) 5))) (show 234 ≠ 212 by omega)).trans hO
        have hc13_234 := am_ss (c' := (100, (am_ia (va_up g4 i (nI 0)) 5))) h4
        have hc13_235 := (am_sn (c' := (100, (am_ia (va_up g4 i (nI 0)) 5))) (show 234 ≠ 235 by omega)).trans h5
        have hc13_236 := (am_sn (c' := (100, (am_ia (va_up g4 i (nI 0)) 5))) (show 234 ≠ 236 by omega)).trans h6
        have hL13x := Led.kept h (fun q hq => am_sn (c' := (100, (am_ia (va_up g4 i (nI 0)) 5))) (show 234 ≠ q by obtain ⟨_, _⟩ := hq; omega))
        have hf13 := (am_fr.rf (A := fun q => q = 234)).set (c' := (100, (am_ia (va_up g4 i (nI 0)) 5))) rfl h4 (by simp [am_ia_len, am_la_len])
        generalize hze13 : (List.set _ 234 _ : am_H) = hz13 at hf13 hc13_212 hc13_234 hc13_235 hc13_236 hL13x ⊢
        clear hze13
        refine am_Rq.blk (is := [(.aload_n 0, 1)]) (q := (106, [some (.ref 212), some (.ref 3), some (.int (nI e)), some (.int (nI i)), some (.ref (3 + 2 + 2 * i)), some (.int (nI 1)), some (.int (nI 1)), some (.int (nI 0))], [.ref 212])) (by decide +kernel) rfl ?_
        dsimp only
        refine am_Rq.getf (v := .ref 235) (show decode (am_by 68) 106 = .ok (.getfield 31, 3) by decide +kernel) rfl hc13_212 rfl ?_
        refine am_Rq.blk (is := [(.iload_n 3, 1), (.iload 6, 2)]) (q := (112, [some (.ref 212), some (.ref 3), some (.int (nI e)), some (.int (nI i)), some (.ref (3 + 2 + 2 * i)), some (.int (nI 1)), some (.int (nI 1)), some (.int (nI 0))], [.int (nI 1), .int (nI i), .ref 235])) (by decide +kernel) rfl ?_
        dsimp only
        refine am_Rq.if1F (show decode (am_by 68) 112 = .ok (.ifCond .eq 16, 3) by decide +kernel) (by decide) (rfl) ?_
        refine am_Rq.blk (is := [(.aload 4, 2), (.aload 4, 2)]) (q := (119, [some (.ref 212), some (.ref 3), some (.int (nI e)), some (.int (nI i)), some (.ref (3 + 2 + 2 * i)), some (.int (nI 1)), some (.int (nI 1)), some (.int (nI 0))], [.ref (3 + 2 + 2 * i), .ref (3 + 2 + 2 * i), .int (nI i), .ref 235])) (by decide +kernel) rfl ?_
        dsimp only
        refine am_Rq.getf (v := .int (nI (t (8 * i + 7)))) (show decode (am_by 68) 119 = .ok (.getfield 70, 3) by decide +kernel) rfl (Led.sc hL13x (by omega)) rfl ?_
        refine am_Rq.callV (show decode (am_by 68) 122 = .ok (.invokevirtual 115, 3) by decide +kernel) rfl [.int (nI (t (8 * i + 7)))] [.int (nI i), .ref 235] rfl rfl (Nat.le_of_ble_eq_true rfl) rfl (Led.sc hL13x (by omega)) rfl (c_inCommon hL13x (by omega) (by omega) (by omega) (by omega) (by omega) (by have := ok.pr (c := i) (n := t (8 * i + 7)) (by omega) a9; omega)) ?_
        rintro hq _ ⟨e1, rfl⟩
        rw [e1]
        clear e1 hq
        show am_Rq _ 68 125 [some (.ref 212), some (.ref 3), some (.int (nI e)), some (.int (nI i)), some (.ref (3 + 2 + 2 * i)), some (.int (nI 1)), some (.int (nI 1)), some (.int (nI 0))] [.int (nI (t (8 * i + 7) * 1000 * t (8 * i) / t (8 * i + 6))), .int (nI i), .ref 235] _ _
        refine am_Rq.blk (is := [(.goto 4, 3)]) (q := (129, [some (.ref 212), some (.ref 3), some (.int (nI e)), some (.int (nI i)), some (.ref (3 + 2 + 2 * i)), some (.int (nI 1)), some (.int (nI 1)), some (.int (nI 0))], [.int (nI (t (8 * i + 7) * 1000 * t (8 * i) / t (8 * i + 6))), .int (nI i), .ref 235])) (by decide +kernel) rfl ?_
        dsimp only
        refine am_Rq.ias (k := i) (x := nI (t (8 * i + 7) * 1000 * t (8 * i) / t (8 * i + 6))) (show decode (am_by 68) 129 = .ok (.iastore, 1) by decide +kernel) hc13_235 (by omega) (by omega) (by omega) ?_
        have hc14_212 := (am_sn (c' := (100, (am_ia (va_up g5 i (nI (t (8 * i + 7) * 1000 * t (8 * i) / t (8 * i + 6)))) 5))) (show 235 ≠ 212 by omega)).trans hc13_212
        have hc14_234 := (am_sn (c' := (100, (am_ia (va_up g5 i (nI (t (8 * i + 7) * 1000 * t (8 * i) / t (8 * i + 6)))) 5))) (show 235 ≠ 234 by omega)).trans hc13_234
        have hc14_235 := am_ss (c' := (100, (am_ia (va_up g5 i (nI (t (8 * i + 7) * 1000 * t (8 * i) / t (8 * i + 6)))) 5))) hc13_235
        have hc14_236 := (am_sn (c' := (100, (am_ia (va_up g5 i (nI (t (8 * i + 7) * 1000 * t (8 * i) / t (8 * i + 6)))) 5))) (show 235 ≠ 236 by omega)).trans hc13_236
        have hL14x := Led.kept hL13x (fun q hq => am_sn (c' := (100, (am_ia (va_up g5 i (nI (t (8 * i + 7) * 1000 * t (8 * i) / t (8 * i + 6)))) 5))) (show 235 ≠ q by obtain ⟨_, _⟩ := hq; omega))
        have hf14 := (am_fr.rf (A := fun q => q = 235)).set (c' := (100, (am_ia (va_up g5 i (nI (t (8 * i + 7) * 1000 * t (8 * i) / t (8 * i + 6)))) 5))) rfl hc13_235 (by simp [am_ia_len, am_la_len])
        generalize hze14 : (List.set _ 235 _ : am_H) = hz14 at hf14 hc14_212 hc14_234 hc14_235 hc14_236 hL14x ⊢
        clear hze14
        refine am_Rq.blk (is := [(.aload_n 0, 1)]) (q := (131, [some (.ref 212), some (.ref 3), some (.int (nI e)), some (.int (nI i)), some (.ref (3 + 2 + 2 * i)), some (.int (nI 1)), some (.int (nI 1)), some (.int (nI 0))], [.ref 212])) (by decide +kernel) rfl ?_
        dsimp only
        refine am_Rq.getf (v := .ref 236) (show decode (am_by 68) 131 = .ok (.getfield 34, 3) by decide +kernel) rfl hc14_212 rfl ?_
        refine am_Rq.blk (is := [(.iload_n 3, 1), (.iload 7, 2)]) (q := (137, [some (.ref 212), some (.ref 3), some (.int (nI e)), some (.int (nI i)), some (.ref (3 + 2 + 2 * i)), some (.int (nI 1)), some (.int (nI 1)), some (.int (nI 0))], [.int (nI 0), .int (nI i), .ref 236])) (by decide +kernel) rfl ?_
        dsimp only
        refine am_Rq.if1T (t := 148) (show decode (am_by 68) 137 = .ok (.ifCond .eq 11, 3) by decide +kernel) (by decide) (rfl) ?_
        refine am_Rq.blk (is := [(.ldc2_w 123, 3)]) (q := (151, [some (.ref 212), some (.ref 3), some (.int (nI e)), some (.int (nI i)), some (.ref (3 + 2 + 2 * i)), some (.int (nI 1)), some (.int (nI 1)), some (.int (nI 0))], [.long (lN 2000000000), .int (nI i), .ref 236])) (by decide +kernel) rfl ?_
        dsimp only
        refine am_Rq.las (k := i) (x := lN 2000000000) (show decode (am_by 68) 151 = .ok (.lastore, 1) by decide +kernel) hc14_236 (by omega) (by omega) (by omega) ?_
        have hc15_212 := (am_sn (c' := (101, (am_la (va_up g6 i (lN 2000000000)) 5))) (show 236 ≠ 212 by omega)).trans hc14_212
        have hc15_234 := (am_sn (c' := (101, (am_la (va_up g6 i (lN 2000000000)) 5))) (show 236 ≠ 234 by omega)).trans hc14_234
        have hc15_235 := (am_sn (c' := (101, (am_la (va_up g6 i (lN 2000000000)) 5))) (show 236 ≠ 235 by omega)).trans hc14_235
        have hc15_236 := am_ss (c' := (101, (am_la (va_up g6 i (lN 2000000000)) 5))) hc14_236
        have hL15x := Led.kept hL14x (fun q hq => am_sn (c' := (101, (am_la (va_up g6 i (lN 2000000000)) 5))) (show 236 ≠ q by obtain ⟨_, _⟩ := hq; omega))
        have hf15 := (am_fr.rf (A := fun q => q = 236)).set (c' := (101, (am_la (va_up g6 i (lN 2000000000)) 5))) rfl hc14_236 (by simp [am_ia_len, am_la_len])
        generalize hze15 : (List.set _ 236 _ : am_H) = hz15 at hf15 hc15_212 hc15_234 hc15_235 hc15_236 hL15x ⊢
        clear hze15
        refine am_Rq.blk (is := [(.iinc 3 1, 3)]) (q := (155, [some (.ref 212), some (.ref 3), some (.int (nI e)), some (.int ((nI i) + (nI 1))), some (.ref (3 + 2 + 2 * i)), some (.int (nI 1)), some (.int (nI 1)), some (.int (nI 0))], [])) (by decide +kernel) rfl ?_
        dsimp only
        rw [show (nI i) + (nI 1) = nI (i + 1) from nI_add _ _]
        refine am_Rq.blk (is := [(.goto (-153), 3)]) (q := (2, [some (.ref 212), some (.ref 3), some (.int (nI e)), some (.int (nI (i + 1))), some (.ref (3 + 2 + 2 * i)), some (.int (nI 1)), some (.int (nI 1)), some (.int (nI 0))], [])) (by decide +kernel) rfl ?_
        dsimp only
        refine ih _ _ ⟨_, _, _, _, rfl, ⟨_, _, _, hc15_234, hc15_235, hc15_236, fun q hq => ?_⟩, hc15_212, hL15x, (((hf0.trans (hf13.mono (A' := fun x => x = 234 ∨ x = 235 ∨ x = 236) (fun x q => by omega))).trans (hf14.mono (A' := fun x => x = 234 ∨ x = 235 ∨ x = 236) (fun x q => by omega))).trans (hf15.mono (A' := fun x => x = 234 ∨ x = 235 ∨ x = 236) (fun x q => by omega)))⟩
        by_cases ee : q = i
        · subst ee
          rw [va_up_self, va_up_self, va_up_self]
          refine ⟨?_, ?_, ?_⟩
          · unfold sl_P; rw [if_pos hs]
          · unfold sl_W; rw [if_pos (Or.inl hs)]; rfl
          · unfold sl_M; rw [if_neg (by rw [hs]; simp)]
        · rw [va_up_ne _ _ ee, va_up_ne _ _ ee, va_up_ne _ _ ee]; exact hx q (by omega)
  · rintro lo hp ⟨z4, z5, z6, z7, rfl, ⟨g4, g5, g6, h4, h5, h6, hx⟩, hO, h, hf0⟩
    refine am_Rq.blk (is := [(.iload_n 3, 1), (.iconst 5, 1)]) (q := (4, [some (.ref 212), some (.ref 3), some (.int (nI e)), some (.int (nI 5)), z4, z5, z6, z7], [.int (nI 5), .int (nI 5)])) (by decide +kernel) rfl ?_
    dsimp only
    refine am_Rq.if2T (t := 158) (show decode (am_by 68) 4 = .ok (.if_icmp .ge 154, 3) by decide +kernel) (by decide) (by rw [nm_ge (by omega) (by omega)]; exact decide_eq_true (by omega)) ?_
    refine am_Rq.ret (v := none) (show decode (am_by 68) 158 = .ok (.return_, 1) by decide +kernel) rfl rfl ?_
    refine ⟨_, rfl, rfl, ?_, ?_, ?_, hf0⟩
    · rw [h4, c_ia_congr (fun k hk => (hx k hk).1)]
    · rw [h5, c_ia_congr (fun k hk => (hx k hk).2.1)]
    · rw [h6, c_la_congr (fun k hk => (hx k hk).2.2)]
end C13
