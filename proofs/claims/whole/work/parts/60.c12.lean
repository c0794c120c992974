/-! The class: sharing out (rows by prog/c12.py). -/
section C12
variable {d : Nat} {hp : am_H}
theorem c_shareOut {a ap ar aw n A : Nat} {u : Nat → Nat} {f0 : Nat → Int32} {g0 : Nat → Int64} (hO : hp[a]? = some (5, [.ref ap, .ref ar])) (hP : hp[ap]? = some (100, am_ia f0 8)) (hR : hp[ar]? = some (101, am_la g0 8)) (hW : hp[aw]? = some (100, am_ia (fun k => nI (u k)) n)) (hp2 : 2 ≤ ap) (hr2 : 2 ≤ ar) (hd1 : ap ≠ ar) (hd2 : aw ≠ ap) (hd3 : aw ≠ ar) (hd4 : a ≠ ap) (hd5 : a ≠ ar) (h1 : 1 ≤ n) (hn : n ≤ 8) (hA : A < 2 ^ 31) (hu : ∀ k, k < n → u k < 2 ^ 31) (hs : sp_sm u n < 2 ^ 62) : am_Rq (d + 1) 74 0 (am_en [.ref a, .long (lN A), .ref aw] 12) [] hp (am_Ret fun hp1 v => v = some (.ref ap) ∧ (∃ f : Nat → Int32, hp1[ap]? = some (100, am_ia f 8) ∧ (∀ k, k < n → f k = nI (sp_sh n A u k)) ∧ ∀ k, n ≤ k → k < 8 → f k = nI 0) ∧ (∃ g : Nat → Int64, hp1[ar]? = some (101, am_la g 8)) ∧ am_fr (fun x => x = ap ∨ x = ar) hp hp1) := by
  show am_Rq _ 74 0 [some (.ref a), some (.long (lN A)), none, some (.ref aw), none, none, none, none, none, none, none, none] [] _ _
  refine am_Rq.blk (is := [(.aload_n 0, 1)]) (q := (1, [some (.ref a), some (.long (lN A)), none, some (.ref aw), none, none, none, none, none, none, none, none], [.ref a])) (by decide +kernel) rfl ?_
  dsimp only
  refine am_Rq.getf (v := .ref ap) (show decode (am_by 74) 1 = .ok (.getfield 9, 3) by decide +kernel) rfl hO rfl ?_
  refine am_Rq.blk (is := [(.iconst 0, 1)]) (q := (5, [some (.ref a), some (.long (lN A)), none, some (.ref aw), none, none, none, none, none, none, none, none], [.int (nI 0), .ref ap])) (by decide +kernel) rfl ?_
  dsimp only
  refine am_Rq.callS (show decode (am_by 74) 5 = .ok (.invokestatic 19, 3) by decide +kernel) rfl [.ref ap, .int (nI 0)] [] rfl rfl (Nat.le_of_ble_eq_true rfl) rfl rfl (c_fill hP hp2 (by omega) (nI 0)) ?_
  rintro hq _ ⟨rfl, hP1, hf1⟩
  have hO1 := (hf1.2.2 a hd4).trans hO
  have hR1 := (hf1.2.2 ar (fun q => hd1 q.symm)).trans hR
  have hW1 := (hf1.2.2 aw hd2).trans hW
  have hF1 : am_fr (fun x => x = ap ∨ x = ar) hp hq := hf1.mono (fun x q => Or.inl q)
  show am_Rq _ 74 8 [some (.ref a), some (.long (lN A)), none, some (.ref aw), none, none, none, none, none, none, none, none] [] _ _
  refine am_Rq.blk (is := [(.aload_n 3, 1)]) (q := (9, [some (.ref a), some (.long (lN A)), none, some (.ref aw), none, none, none, none, none, none, none, none], [.ref aw])) (by decide +kernel) rfl ?_
  dsimp only
  refine am_Rq.alen (show decode (am_by 74) 9 = .ok (.arraylength, 1) by decide +kernel) hW1 (by decide) ?_
  rw [am_ia_len]
  refine am_Rq.blk (is := [(.bipush 8, 2)]) (q := (12, [some (.ref a), some (.long (lN A)), none, some (.ref aw), none, none, none, none, none, none, none, none], [.int (nI 8), .int (nI n)])) (by decide +kernel) rfl ?_
  dsimp only
  refine am_Rq.callS (show decode (am_by 74) 12 = .ok (.invokestatic 25, 3) by decide +kernel) rfl [.int (nI n), .int (nI 8)] [] rfl rfl (Nat.le_of_ble_eq_true rfl) rfl rfl (c_min (by omega) (by omega)) ?_
  rintro hz _ ⟨e1, rfl⟩
  rw [e1]
  clear e1 hz
  show am_Rq _ 74 15 [some (.ref a), some (.long (lN A)), none, some (.ref aw), none, none, none, none, none, none, none, none] [.int (nI (min n 8))] _ _
  rw [show min n 8 = n from by omega]
  refine am_Rq.blk (is := [(.istore 4, 2), (.aload_n 3, 1)]) (q := (18, [some (.ref a), some (.long (lN A)), none, some (.ref aw), some (.int (nI n)), none, none, none, none, none, none, none], [.ref aw])) (by decide +kernel) rfl ?_
  dsimp only
  refine am_Rq.callS (show decode (am_by 74) 18 = .ok (.invokestatic 31, 3) by decide +kernel) rfl [.ref aw] [] rfl rfl (Nat.le_of_ble_eq_true rfl) rfl rfl (c_sumOf hW1 (by omega) hu) ?_
  rintro hz _ ⟨e1, rfl⟩
  rw [e1]
  clear e1 hz
  show am_Rq _ 74 21 [some (.ref a), some (.long (lN A)), none, some (.ref aw), some (.int (nI n)), none, none, none, none, none, none, none] [.long (lN (sp_sm u n))] _ _
  refine am_Rq.blk (is := [(.lstore 5, 2), (.lload 5, 2), (.lconst 1, 1), (.lcmp, 1)]) (q := (27, [some (.ref a), some (.long (lN A)), none, some (.ref aw), some (.int (nI n)), some (.long (lN (sp_sm u n))), none, none, none, none, none, none], [.int (lg_cmp (lN (sp_sm u n)) (lN 1))])) (by decide +kernel) rfl ?_
  dsimp only
  refine am_Rq.if1 (t := 35) (show decode (am_by 74) 27 = .ok (.ifCond .ge 8, 3) by decide +kernel) (by decide) (fun he => ?_) (fun he => ?_)
  ·
    have he := of_decide_eq_true ((nm_cge _ _).symm.trans he)
    rw [nm_lle (a := 1) (b := (sp_sm u n)) (by omega) (by omega)] at he
    have hs0 : 0 < sp_sm u n := by omega
    have hfl := sp_fl_le (A := A) hs0
    refine am_Rq.blk (is := [(.lload_n 1, 1), (.lstore 7, 2), (.iconst 0, 1), (.istore 9, 2)]) (q := (41, [some (.ref a), some (.long (lN A)), none, some (.ref aw), some (.int (nI n)), some (.long (lN (sp_sm u n))), none, some (.long (lN A)), none, some (.int (nI 0)), none, none], [])) (by decide +kernel) rfl ?_
    dsimp only
    have key : ∀ hz, hz = hq → am_Rq (d + 1) 74 41 [some (.ref a), some (.long (lN A)), none, some (.ref aw), some (.int (nI n)), some (.long (lN (sp_sm u n))), none, some (.long (lN A)), none, some (.int (nI 0)), none, none] [] hz (am_Ret fun hp1 v => v = some (.ref ap) ∧ (∃ f : Nat → Int32, hp1[ap]? = some (100, am_ia f 8) ∧ (∀ k, k < n → f k = nI (sp_sh n A u k)) ∧ ∀ k, n ≤ k → k < 8 → f k = nI 0) ∧ (∃ g : Nat → Int64, hp1[ar]? = some (101, am_la g 8)) ∧ am_fr (fun x => x = ap ∨ x = ar) hz hp1) := ?_
    · exact (key hq rfl).mono (fun hp1 o q => by
      obtain ⟨v, q0, q1, q2, q3, q4⟩ := q
      exact ⟨v, q0, q1, q2, q3, hF1.trans q4⟩)
    intro hz hze
    subst hze
    refine am_for (n := n) (fun i lo hp => ∃ z : Option Value, lo = [some (.ref a), some (.long (lN A)), none, some (.ref aw), some (.int (nI n)), some (.long (lN (sp_sm u n))), none, some (.long (lN (A - sp_sm (sp_fl n A u) i))), none, some (.int (nI i)), z, none] ∧ (∃ f1 : Nat → Int32, hp[ap]? = some (100, am_ia f1 8) ∧ (∀ k, k < i → f1 k = nI (sp_fl n A u k)) ∧ ∀ k, i ≤ k → k < 8 → f1 k = nI 0) ∧ (∃ g1 : Nat → Int64, hp[ar]? = some (101, am_la g1 8) ∧ ∀ k, k < i → g1 k = lN (A * u k % sp_sm u n)) ∧ hp[a]? = some (5, [.ref ap, .ref ar]) ∧ hp[aw]? = some (100, am_ia (fun k => nI (u k)) n) ∧ am_fr (fun x => x = ap ∨ x = ar) hz hp) ?_ ?_ (i := 0) (by omega) ⟨_, rfl, ⟨_, hP1, fun k hk => by omega, fun k _ _ => rfl⟩, ⟨_, hR1, fun k hk => by omega⟩, hO1, hW1, am_fr.rf⟩
    · rintro i lo hp hi ⟨z, rfl, ⟨f1, hP, hx, hx0⟩, ⟨g1, hR, hy⟩, hO, hW, hf0⟩ ih
      have hui : u i ≤ sp_sm u n := sp_sm_ge hi
      have hpr : A * u i < 2 ^ 63 := by
        have := Nat.mul_le_mul (Nat.le_of_lt hA) (Nat.le_of_lt (hu i hi))
        omega
      have hpart : sp_sm (sp_fl n A u) (i + 1) ≤ A := Nat.le_trans (sp_sm_mono (by omega)) hfl
      simp only [sp_sm] at hpart
      refine am_Rq.blk (is := [(.iload 9, 2), (.iload 4, 2)]) (q := (45, [some (.ref a), some (.long (lN A)), none, some (.ref aw), some (.int (nI n)), some (.long (lN (sp_sm u n))), none, some (.long (lN (A - sp_sm (sp_fl n A u) i))), none, some (.int (nI i)), z, none], [.int (nI n), .int (nI i)])) (by decide +kernel) rfl ?_
      dsimp only
      refine am_Rq.if2F (show decode (am_by 74) 45 = .ok (.if_icmp .ge 56, 3) by decide +kernel) (by decide) (by rw [nm_ge (by omega) (by omega)]; exact decide_eq_false (by omega)) ?_
      refine am_Rq.blk (is := [(.lload_n 1, 1), (.aload_n 3, 1), (.iload 9, 2)]) (q := (52, [some (.ref a), some (.long (lN A)), none, some (.ref aw), some (.int (nI n)), some (.long (lN (sp_sm u n))), none, some (.long (lN (A - sp_sm (sp_fl n A u) i))), none, some (.int (nI i)), z, none], [.int (nI i), .ref aw, .long (lN A)])) (by decide +kernel) rfl ?_
      dsimp only
      refine am_Rq.ial (k := i) (show decode (am_by 74) 52 = .ok (.iaload, 1) by decide +kernel) hW (by omega) (by omega) ?_
      refine am_Rq.blk (is := [(.i2l, 1)]) (q := (54, [some (.ref a), some (.long (lN A)), none, some (.ref aw), some (.int (nI n)), some (.long (lN (sp_sm u n))), none, some (.long (lN (A - sp_sm (sp_fl n A u) i))), none, some (.int (nI i)), z, none], [.long ((nI (u i)).toInt64), .long (lN A)])) (by decide +kernel) rfl ?_
      dsimp only
      rw [show (nI (u i)).toInt64 = lN (u i) from nm_l (hu i hi)]
      refine am_Rq.blk (is := [(.lmul, 1)]) (q := (55, [some (.ref a), some (.long (lN A)), none, some (.ref aw), some (.int (nI n)), some (.long (lN (sp_sm u n))), none, some (.long (lN (A - sp_sm (sp_fl n A u) i))), none, some (.int (nI i)), z, none], [.long ((lN A) * (lN (u i)))])) (by decide +kernel) rfl ?_
      dsimp only
      rw [show (lN A) * (lN (u i)) = lN (A * (u i)) from lN_mul _ _]
      refine am_Rq.blk (is := [(.lstore 10, 2), (.aload_n 0, 1)]) (q := (58, [some (.ref a), some (.long (lN A)), none, some (.ref aw), some (.int (nI n)), some (.long (lN (sp_sm u n))), none, some (.long (lN (A - sp_sm (sp_fl n A u) i))), none, some (.int (nI i)), some (.long (lN (A * (u i)))), none], [.ref a])) (by decide +kernel) rfl ?_
      dsimp only
      refine am_Rq.getf (v := .ref ap) (show decode (am_by 74) 58 = .ok (.getfield 9, 3) by decide +kernel) rfl hO rfl ?_
      refine am_Rq.blk (is := [(.iload 9, 2), (.lload 10, 2), (.lload 5, 2)]) (q := (67, [some (.ref a), some (.long (lN A)), none, some (.ref aw), some (.int (nI n)), some (.long (lN (sp_sm u n))), none, some (.long (lN (A - sp_sm (sp_fl n A u) i))), none, some (.int (nI i)), some (.long (lN (A * (u i)))), none], [.long (lN (sp_sm u n)), .long (lN (A * (u i))), .int (nI i), .ref ap])) (by decide +kernel) rfl ?_
      dsimp only
      refine am_Rq.ldivN (a := A * (u i)) (b := sp_sm u n) (show decode (am_by 74) 67 = .ok (.ldiv, 1) by decide +kernel) (hs0) (hpr) (by omega) ?_
      refine am_Rq.blk (is := [(.l2i, 1)]) (q := (69, [some (.ref a), some (.long (lN A)), none, some (.ref aw), some (.int (nI n)), some (.long (lN (sp_sm u n))), none, some (.long (lN (A - sp_sm (sp_fl n A u) i))), none, some (.int (nI i)), some (.long (lN (A * (u i)))), none], [.int ((lN ((A * (u i)) / (sp_sm u n))).toInt32), .int (nI i), .ref ap])) (by decide +kernel) rfl ?_
      dsimp only
      rw [show (lN ((A * (u i)) / (sp_sm u n))).toInt32 = nI ((A * (u i)) / (sp_sm u n)) from nm_i _]
      refine am_Rq.ias (k := i) (x := nI ((A * (u i)) / (sp_sm u n))) (show decode (am_by 74) 69 = .ok (.iastore, 1) by decide +kernel) hP (by omega) (by omega) (by omega) ?_
      refine am_Rq.blk (is := [(.aload_n 0, 1)]) (q := (71, [some (.ref a), some (.long (lN A)), none, some (.ref aw), some (.int (nI n)), some (.long (lN (sp_sm u n))), none, some (.long (lN (A - sp_sm (sp_fl n A u) i))), none, some (.int (nI i)), some (.long (lN (A * (u i)))), none], [.ref a])) (by decide +kernel) rfl ?_
      dsimp only
      refine am_Rq.getf (v := .ref ar) (show decode (am_by 74) 71 = .ok (.getfield 15, 3) by decide +kernel) rfl ((am_sn (by first | omega | exact fun q => hd1 q | exact fun q => hd1 q.symm | exact fun q => hd2 q | exact fun q => hd3 q | exact fun q => hd4 q | exact fun q => hd5 q | exact fun q => hd2 q.symm | exact fun q => hd3 q.symm | exact fun q => hd4 q.symm | exact fun q => hd5 q.symm)).trans hO) rfl ?_
      refine am_Rq.blk (is := [(.iload 9, 2), (.lload 10, 2), (.lload 5, 2)]) (q := (80, [some (.ref a), some (.long (lN A)), none, some (.ref aw), some (.int (nI n)), some (.long (lN (sp_sm u n))), none, some (.long (lN (A - sp_sm (sp_fl n A u) i))), none, some (.int (nI i)), some (.long (lN (A * (u i)))), none], [.long (lN (sp_sm u n)), .long (lN (A * (u i))), .int (nI i), .ref ar])) (by decide +kernel) rfl ?_
      dsimp only
      refine am_Rq.lremN (a := A * (u i)) (b := sp_sm u n) (show decode (am_by 74) 80 = .ok (.lrem, 1) by decide +kernel) (hs0) (hpr) (by omega) ?_
      refine am_Rq.las (k := i) (x := lN ((A * (u i)) % (sp_sm u n))) (show decode (am_by 74) 81 = .ok (.lastore, 1) by decide +kernel) ((am_sn (by first | omega | exact fun q => hd1 q | exact fun q => hd1 q.symm | exact fun q => hd2 q | exact fun q => hd3 q | exact fun q => hd4 q | exact fun q => hd5 q | exact fun q => hd2 q.symm | exact fun q => hd3 q.symm | exact fun q => hd4 q.symm | exact fun q => hd5 q.symm)).trans hR) (by omega) (by omega) (by omega) ?_
      refine am_Rq.blk (is := [(.lload 7, 2), (.aload_n 0, 1)]) (q := (85, [some (.ref a), some (.long (lN A)), none, some (.ref aw), some (.int (nI n)), some (.long (lN (sp_sm u n))), none, some (.long (lN (A - sp_sm (sp_fl n A u) i))), none, some (.int (nI i)), some (.long (lN (A * (u i)))), none], [.ref a, .long (lN (A - sp_sm (sp_fl n A u) i))])) (by decide +kernel) rfl ?_
      dsimp only
      refine am_Rq.getf (v := .ref ap) (show decode (am_by 74) 85 = .ok (.getfield 9, 3) by decide +kernel) rfl ((am_sn (by first | omega | exact fun q => hd1 q | exact fun q => hd1 q.symm | exact fun q => hd2 q | exact fun q => hd3 q | exact fun q => hd4 q | exact fun q => hd5 q | exact fun q => hd2 q.symm | exact fun q => hd3 q.symm | exact fun q => hd4 q.symm | exact fun q => hd5 q.symm)).trans ((am_sn (by first | omega | exact fun q => hd1 q | exact fun q => hd1 q.symm | exact fun q => hd2 q | exact fun q => hd3 q | exact fun q => hd4 q | exact fun q => hd5 q | exact fun q => hd2 q.symm | exact fun q => hd3 q.symm | exact fun q => hd4 q.symm | exact fun q => hd5 q.symm)).trans hO)) rfl ?_
      refine am_Rq.blk (is := [(.iload 9, 2)]) (q := (90, [some (.ref a), some (.long (lN A)), none, some (.ref aw), some (.int (nI n)), some (.long (lN (sp_sm u n))), none, some (.long (lN (A - sp_sm (sp_fl n A u) i))), none, some (.int (nI i)), some (.long (lN (A * (u i)))), none], [.int (nI i), .ref ap, .long (lN (A - sp_sm (sp_fl n A u) i))])) (by decide +kernel) rfl ?_
      dsimp only
      refine am_Rq.ial (k := i) (show decode (am_by 74) 90 = .ok (.iaload, 1) by decide +kernel) ((am_sn (by first | omega | exact fun q => hd1 q | exact fun q => hd1 q.symm | exact fun q => hd2 q | exact fun q => hd3 q | exact fun q => hd4 q | exact fun q => hd5 q | exact fun q => hd2 q.symm | exact fun q => hd3 q.symm | exact fun q => hd4 q.symm | exact fun q => hd5 q.symm)).trans (am_ss hP)) (by omega) (by omega) ?_
      rw [va_up_self]
      refine am_Rq.blk (is := [(.i2l, 1)]) (q := (92, [some (.ref a), some (.long (lN A)), none, some (.ref aw), some (.int (nI n)), some (.long (lN (sp_sm u n))), none, some (.long (lN (A - sp_sm (sp_fl n A u) i))), none, some (.int (nI i)), some (.long (lN (A * (u i)))), none], [.long ((nI ((A * (u i)) / (sp_sm u n))).toInt64), .long (lN (A - sp_sm (sp_fl n A u) i))])) (by decide +kernel) rfl ?_
      dsimp only
      rw [show (nI ((A * (u i)) / (sp_sm u n))).toInt64 = lN ((A * (u i)) / (sp_sm u n)) from nm_l (by have := sp_fl_A (A := A) (u := u) hi; unfold sp_fl at this; omega)]
      refine am_Rq.blk (is := [(.lsub, 1)]) (q := (93, [some (.ref a), some (.long (lN A)), none, some (.ref aw), some (.int (nI n)), some (.long (lN (sp_sm u n))), none, some (.long (lN (A - sp_sm (sp_fl n A u) i))), none, some (.int (nI i)), some (.long (lN (A * (u i)))), none], [.long ((lN (A - sp_sm (sp_fl n A u) i)) - (lN ((A * (u i)) / (sp_sm u n))))])) (by decide +kernel) rfl ?_
      dsimp only
      rw [show (lN (A - sp_sm (sp_fl n A u) i)) - (lN ((A * (u i)) / (sp_sm u n))) = lN ((A - sp_sm (sp_fl n A u) i) - ((A * (u i)) / (sp_sm u n))) from lN_sub (by have z : sp_fl n A u i = A * u i / sp_sm u n := rfl; omega)]
      refine am_Rq.blk (is := [(.lstore 7, 2), (.iinc 9 1, 3)]) (q := (98, [some (.ref a), some (.long (lN A)), none, some (.ref aw), some (.int (nI n)), some (.long (lN (sp_sm u n))), none, some (.long (lN ((A - sp_sm (sp_fl n A u) i) - ((A * (u i)) / (sp_sm u n))))), none, some (.int ((nI i) + (nI 1))), some (.long (lN (A * (u i)))), none], [])) (by decide +kernel) rfl ?_
      dsimp only
      rw [show (nI i) + (nI 1) = nI (i + 1) from nI_add _ _]
      refine am_Rq.blk (is := [(.goto (-57), 3)]) (q := (41, [some (.ref a), some (.long (lN A)), none, some (.ref aw), some (.int (nI n)), some (.long (lN (sp_sm u n))), none, some (.long (lN ((A - sp_sm (sp_fl n A u) i) - ((A * (u i)) / (sp_sm u n))))), none, some (.int (nI (i + 1))), some (.long (lN (A * (u i)))), none], [])) (by decide +kernel) rfl ?_
      dsimp only
      refine ih _ _ ⟨some (.long (lN (A * (u i)))), ?_, ⟨_, ((am_sn (by first | omega | exact fun q => hd1 q | exact fun q => hd1 q.symm | exact fun q => hd2 q | exact fun q => hd3 q | exact fun q => hd4 q | exact fun q => hd5 q | exact fun q => hd2 q.symm | exact fun q => hd3 q.symm | exact fun q => hd4 q.symm | exact fun q => hd5 q.symm)).trans (am_ss hP)), fun k hk => ?_, fun k hk1 hk2 => ?_⟩, ⟨_, (am_ss ((am_sn (by first | omega | exact fun q => hd1 q | exact fun q => hd1 q.symm | exact fun q => hd2 q | exact fun q => hd3 q | exact fun q => hd4 q | exact fun q => hd5 q | exact fun q => hd2 q.symm | exact fun q => hd3 q.symm | exact fun q => hd4 q.symm | exact fun q => hd5 q.symm)).trans hR)), fun k hk => ?_⟩, ((am_sn (by first | omega | exact fun q => hd1 q | exact fun q => hd1 q.symm | exact fun q => hd2 q | exact fun q => hd3 q | exact fun q => hd4 q | exact fun q => hd5 q | exact fun q => hd2 q.symm | exact fun q => hd3 q.symm | exact fun q => hd4 q.symm | exact fun q => hd5 q.symm)).trans ((am_sn (by first | omega | exact fun q => hd1 q | exact fun q => hd1 q.symm | exact fun q => hd2 q | exact fun q => hd3 q | exact fun q => hd4 q | exact fun q => hd5 q | exact fun q => hd2 q.symm | exact fun q => hd3 q.symm | exact fun q => hd4 q.symm | exact fun q => hd5 q.symm)).trans hO)), ((am_sn (by first | omega | exact fun q => hd1 q | exact fun q => hd1 q.symm | exact fun q => hd2 q | exact fun q => hd3 q | exact fun q => hd4 q | exact fun q => hd5 q | exact fun q => hd2 q.symm | exact fun q => hd3 q.symm | exact fun q => hd4 q.symm | exact fun q => hd5 q.symm)).trans ((am_sn (by first | omega | exact fun q => hd1 q | exact fun q => hd1 q.symm | exact fun q => hd2 q | exact fun q => hd3 q | exact fun q => hd4 q | exact fun q => hd5 q | exact fun q => hd2 q.symm | exact fun q => hd3 q.symm | exact fun q => hd4 q.symm | exact fun q => hd5 q.symm)).trans hW)), ((hf0.set (Or.inl rfl) hP (by simp [am_ia_len, am_la_len])).set (Or.inr rfl) ((am_sn (by first | omega | exact fun q => hd1 q | exact fun q => hd1 q.symm | exact fun q => hd2 q | exact fun q => hd3 q | exact fun q => hd4 q | exact fun q => hd5 q | exact fun q => hd2 q.symm | exact fun q => hd3 q.symm | exact fun q => hd4 q.symm | exact fun q => hd5 q.symm)).trans hR) (by simp [am_ia_len, am_la_len]))⟩
      · simp only [sp_sm]
        rw [Nat.sub_sub]
        rfl
      · by_cases e : k = i
        · rw [e, va_up_self]; rfl
        · rw [va_up_ne _ _ e]; exact hx k (by omega)
      · rw [va_up_ne _ _ (by omega)]; exact hx0 k (by omega) hk2
      · by_cases e : k = i
        · rw [e, va_up_self]
        · rw [va_up_ne _ _ e]; exact hy k (by omega)
    · rintro lo hp ⟨z, rfl, ⟨f1, hP, hx, hx0⟩, ⟨g1, hR, hy⟩, hO, hW, hf0⟩
      refine am_Rq.blk (is := [(.iload 9, 2), (.iload 4, 2)]) (q := (45, [some (.ref a), some (.long (lN A)), none, some (.ref aw), some (.int (nI n)), some (.long (lN (sp_sm u n))), none, some (.long (lN (A - sp_sm (sp_fl n A u) n))), none, some (.int (nI n)), z, none], [.int (nI n), .int (nI n)])) (by decide +kernel) rfl ?_
      dsimp only
      refine am_Rq.if2T (t := 101) (show decode (am_by 74) 45 = .ok (.if_icmp .ge 56, 3) by decide +kernel) (by decide) (by rw [nm_ge (by omega) (by omega)]; exact decide_eq_true (by omega)) ?_
      refine am_Rq.blk (is := [(.iconst 0, 1), (.istore 9, 2)]) (q := (104, [some (.ref a), some (.long (lN A)), none, some (.ref aw), some (.int (nI n)), some (.long (lN (sp_sm u n))), none, some (.long (lN (A - sp_sm (sp_fl n A u) n))), none, some (.int (nI 0)), z, none], [])) (by decide +kernel) rfl ?_
      dsimp only
      have hlf := sp_lf_n (A := A) hs0
      refine am_for (n := (sp_lf n A u)) (fun i lo hp => ∃ z : Option Value, lo = [some (.ref a), some (.long (lN A)), none, some (.ref aw), some (.int (nI n)), some (.long (lN (sp_sm u n))), none, some (.long (lN (sp_lf n A u - i))), none, some (.int (nI i)), z, none] ∧ (∃ (f1 : Nat → Int32) (p q : Nat → Nat), hp[ap]? = some (100, am_ia f1 8) ∧ (∀ k, k < n → f1 k = nI (p k)) ∧ (∀ k, n ≤ k → k < 8 → f1 k = nI 0) ∧ (∀ k, k < n → q k < 2 ^ 62) ∧ (∀ k, k < n → sp_g n (sp_lf n A u - i) p q k = sp_sh n A u k) ∧ ∃ g1 : Nat → Int64, hp[ar]? = some (101, am_la g1 8) ∧ ∀ k, k < n → g1 k = lN (q k) - lN 1) ∧ hp[a]? = some (5, [.ref ap, .ref ar]) ∧ am_fr (fun x => x = ap ∨ x = ar) hz hp) ?_ ?_ (i := 0) (by omega) ⟨_, rfl, ⟨f1, sp_fl n A u, sp_mk n A u, hP, hx, hx0, fun k hk => by unfold sp_mk; have := Nat.mod_lt (A * u k) hs0; omega, fun k hk => by unfold sp_sh; rw [if_neg (by omega), Nat.sub_zero], g1, hR, fun k hk => by rw [hy k hk]; unfold sp_mk; rw [lN_sub (by omega), Nat.add_sub_cancel]⟩, hO, hf0⟩
      · rintro i lo hp hi ⟨z, rfl, ⟨f1, p, q, hP, hx, hx0, hq, hsp, g1, hR, hy⟩, hO, hf0⟩ ih
        refine am_Rq.blk (is := [(.iload 9, 2), (.iload 4, 2)]) (q := (108, [some (.ref a), some (.long (lN A)), none, some (.ref aw), some (.int (nI n)), some (.long (lN (sp_sm u n))), none, some (.long (lN (sp_lf n A u - i))), none, some (.int (nI i)), z, none], [.int (nI n), .int (nI i)])) (by decide +kernel) rfl ?_
        dsimp only
        refine am_Rq.if2F (show decode (am_by 74) 108 = .ok (.if_icmp .ge 51, 3) by decide +kernel) (by decide) (by rw [nm_ge (by omega) (by omega)]; exact decide_eq_false (by omega)) ?_
        refine am_Rq.blk (is := [(.lload 7, 2), (.lconst 0, 1), (.lcmp, 1)]) (q := (115, [some (.ref a), some (.long (lN A)), none, some (.ref aw), some (.int (nI n)), some (.long (lN (sp_sm u n))), none, some (.long (lN (sp_lf n A u - i))), none, some (.int (nI i)), z, none], [.int (lg_cmp (lN (sp_lf n A u - i)) (lN 0))])) (by decide +kernel) rfl ?_
        dsimp only
        have hb := sp_b_lt (q := q) (n := n) (by omega)
        have hAl : sp_lf n A u ≤ 8 := by omega
        refine am_Rq.if1F (show decode (am_by 74) 115 = .ok (.ifCond .le 44, 3) by decide +kernel) (by decide) (by rw [nm_cle]; exact decide_eq_false (by rw [nm_lle (a := sp_lf n A u - i) (b := 0) (by omega) (by omega)]; omega)) ?_
        refine am_Rq.blk (is := [(.aload_n 0, 1), (.iload 4, 2)]) (q := (121, [some (.ref a), some (.long (lN A)), none, some (.ref aw), some (.int (nI n)), some (.long (lN (sp_sm u n))), none, some (.long (lN (sp_lf n A u - i))), none, some (.int (nI i)), z, none], [.int (nI n), .ref a])) (by decide +kernel) rfl ?_
        dsimp only
        refine am_Rq.callV (show decode (am_by 74) 121 = .ok (.invokevirtual 35, 3) by decide +kernel) rfl [.int (nI n)] [] rfl rfl (Nat.le_of_ble_eq_true rfl) rfl hO rfl (c_greatest hO hR hy hq h1 hn) ?_
        rintro hz _ ⟨e1, rfl⟩
        rw [e1]
        clear e1 hz
        show am_Rq _ 74 124 [some (.ref a), some (.long (lN A)), none, some (.ref aw), some (.int (nI n)), some (.long (lN (sp_sm u n))), none, some (.long (lN (sp_lf n A u - i))), none, some (.int (nI i)), z, none] [.int (nI (sp_b q n))] _ _
        refine am_Rq.blk (is := [(.istore 10, 2), (.aload_n 0, 1)]) (q := (127, [some (.ref a), some (.long (lN A)), none, some (.ref aw), some (.int (nI n)), some (.long (lN (sp_sm u n))), none, some (.long (lN (sp_lf n A u - i))), none, some (.int (nI i)), some (.int (nI (sp_b q n))), none], [.ref a])) (by decide +kernel) rfl ?_
        dsimp only
        refine am_Rq.getf (v := .ref ap) (show decode (am_by 74) 127 = .ok (.getfield 9, 3) by decide +kernel) rfl hO rfl ?_
        refine am_Rq.blk (is := [(.iload 10, 2), (.dup2, 1)]) (q := (133, [some (.ref a), some (.long (lN A)), none, some (.ref aw), some (.int (nI n)), some (.long (lN (sp_sm u n))), none, some (.long (lN (sp_lf n A u - i))), none, some (.int (nI i)), some (.int (nI (sp_b q n))), none], [.int (nI (sp_b q n)), .ref ap, .int (nI (sp_b q n)), .ref ap])) (by decide +kernel) rfl ?_
        dsimp only
        refine am_Rq.ial (k := sp_b q n) (show decode (am_by 74) 133 = .ok (.iaload, 1) by decide +kernel) hP (by omega) (by omega) ?_
        rw [hx _ hb]
        refine am_Rq.blk (is := [(.iconst 1, 1), (.iadd, 1)]) (q := (136, [some (.ref a), some (.long (lN A)), none, some (.ref aw), some (.int (nI n)), some (.long (lN (sp_sm u n))), none, some (.long (lN (sp_lf n A u - i))), none, some (.int (nI i)), some (.int (nI (sp_b q n))), none], [.int ((nI (p (sp_b q n))) + (nI 1)), .int (nI (sp_b q n)), .ref ap])) (by decide +kernel) rfl ?_
        dsimp only
        rw [show (nI (p (sp_b q n))) + (nI 1) = nI ((p (sp_b q n)) + 1) from nI_add _ _]
        refine am_Rq.ias (k := sp_b q n) (x := nI ((p (sp_b q n)) + 1)) (show decode (am_by 74) 136 = .ok (.iastore, 1) by decide +kernel) hP (by omega) (by omega) (by omega) ?_
        refine am_Rq.blk (is := [(.aload_n 0, 1)]) (q := (138, [some (.ref a), some (.long (lN A)), none, some (.ref aw), some (.int (nI n)), some (.long (lN (sp_sm u n))), none, some (.long (lN (sp_lf n A u - i))), none, some (.int (nI i)), some (.int (nI (sp_b q n))), none], [.ref a])) (by decide +kernel) rfl ?_
        dsimp only
        refine am_Rq.getf (v := .ref ar) (show decode (am_by 74) 138 = .ok (.getfield 15, 3) by decide +kernel) rfl ((am_sn (by first | omega | exact fun q => hd1 q | exact fun q => hd1 q.symm | exact fun q => hd2 q | exact fun q => hd3 q | exact fun q => hd4 q | exact fun q => hd5 q | exact fun q => hd2 q.symm | exact fun q => hd3 q.symm | exact fun q => hd4 q.symm | exact fun q => hd5 q.symm)).trans hO) rfl ?_
        refine am_Rq.blk (is := [(.iload 10, 2), (.ldc2_w 39, 3)]) (q := (146, [some (.ref a), some (.long (lN A)), none, some (.ref aw), some (.int (nI n)), some (.long (lN (sp_sm u n))), none, some (.long (lN (sp_lf n A u - i))), none, some (.int (nI i)), some (.int (nI (sp_b q n))), none], [.long (-1), .int (nI (sp_b q n)), .ref ar])) (by decide +kernel) rfl ?_
        dsimp only
        refine am_Rq.las (k := sp_b q n) (x := (-1)) (show decode (am_by 74) 146 = .ok (.lastore, 1) by decide +kernel) ((am_sn (by first | omega | exact fun q => hd1 q | exact fun q => hd1 q.symm | exact fun q => hd2 q | exact fun q => hd3 q | exact fun q => hd4 q | exact fun q => hd5 q | exact fun q => hd2 q.symm | exact fun q => hd3 q.symm | exact fun q => hd4 q.symm | exact fun q => hd5 q.symm)).trans hR) (by omega) (by omega) (by omega) ?_
        refine am_Rq.blk (is := [(.lload 7, 2), (.lconst 1, 1), (.lsub, 1)]) (q := (151, [some (.ref a), some (.long (lN A)), none, some (.ref aw), some (.int (nI n)), some (.long (lN (sp_sm u n))), none, some (.long (lN (sp_lf n A u - i))), none, some (.int (nI i)), some (.int (nI (sp_b q n))), none], [.long ((lN (sp_lf n A u - i)) - (lN 1))])) (by decide +kernel) rfl ?_
        dsimp only
        rw [show (lN (sp_lf n A u - i)) - (lN 1) = lN ((sp_lf n A u - i) - 1) from lN_sub (by omega)]
        refine am_Rq.blk (is := [(.lstore 7, 2), (.iinc 9 1, 3)]) (q := (156, [some (.ref a), some (.long (lN A)), none, some (.ref aw), some (.int (nI n)), some (.long (lN (sp_sm u n))), none, some (.long (lN ((sp_lf n A u - i) - 1))), none, some (.int ((nI i) + (nI 1))), some (.int (nI (sp_b q n))), none], [])) (by decide +kernel) rfl ?_
        dsimp only
        rw [show (nI i) + (nI 1) = nI (i + 1) from nI_add _ _]
        refine am_Rq.blk (is := [(.goto (-52), 3)]) (q := (104, [some (.ref a), some (.long (lN A)), none, some (.ref aw), some (.int (nI n)), some (.long (lN (sp_sm u n))), none, some (.long (lN ((sp_lf n A u - i) - 1))), none, some (.int (nI (i + 1))), some (.int (nI (sp_b q n))), none], [])) (by decide +kernel) rfl ?_
        dsimp only
        refine ih _ _ ⟨some (.int (nI (sp_b q n))), ?_, ⟨_, va_up p (sp_b q n) (p (sp_b q n) + 1), va_up q (sp_b q n) 0, ((am_sn (by first | omega | exact fun q => hd1 q | exact fun q => hd1 q.symm | exact fun q => hd2 q | exact fun q => hd3 q | exact fun q => hd4 q | exact fun q => hd5 q | exact fun q => hd2 q.symm | exact fun q => hd3 q.symm | exact fun q => hd4 q.symm | exact fun q => hd5 q.symm)).trans (am_ss hP)), fun k hk => ?_, fun k hk1 hk2 => ?_, fun k hk => ?_, fun k hk => ?_, _, (am_ss ((am_sn (by first | omega | exact fun q => hd1 q | exact fun q => hd1 q.symm | exact fun q => hd2 q | exact fun q => hd3 q | exact fun q => hd4 q | exact fun q => hd5 q | exact fun q => hd2 q.symm | exact fun q => hd3 q.symm | exact fun q => hd4 q.symm | exact fun q => hd5 q.symm)).trans hR)), fun k hk => ?_⟩, ((am_sn (by first | omega | exact fun q => hd1 q | exact fun q => hd1 q.symm | exact fun q => hd2 q | exact fun q => hd3 q | exact fun q => hd4 q | exact fun q => hd5 q | exact fun q => hd2 q.symm | exact fun q => hd3 q.symm | exact fun q => hd4 q.symm | exact fun q => hd5 q.symm)).trans ((am_sn (by first | omega | exact fun q => hd1 q | exact fun q => hd1 q.symm | exact fun q => hd2 q | exact fun q => hd3 q | exact fun q => hd4 q | exact fun q => hd5 q | exact fun q => hd2 q.symm | exact fun q => hd3 q.symm | exact fun q => hd4 q.symm | exact fun q => hd5 q.symm)).trans hO)), ((hf0.set (Or.inl rfl) hP (by simp [am_ia_len, am_la_len])).set (Or.inr rfl) ((am_sn (by first | omega | exact fun q => hd1 q | exact fun q => hd1 q.symm | exact fun q => hd2 q | exact fun q => hd3 q | exact fun q => hd4 q | exact fun q => hd5 q | exact fun q => hd2 q.symm | exact fun q => hd3 q.symm | exact fun q => hd4 q.symm | exact fun q => hd5 q.symm)).trans hR) (by simp [am_ia_len, am_la_len]))⟩
        · rw [Nat.sub_sub]
        · by_cases e : k = sp_b q n
          · rw [e, va_up_self, va_up_self]
          · rw [va_up_ne _ _ e, va_up_ne _ _ e]; exact hx k hk
        · rw [va_up_ne _ _ (by omega)]; exact hx0 k hk1 hk2
        · by_cases e : k = sp_b q n
          · rw [e, va_up_self]; decide
          · rw [va_up_ne _ _ e]; exact hq k hk
        · rw [← hsp k hk, show sp_lf n A u - i = (sp_lf n A u - (i + 1)) + 1 by omega]
          rfl
        · by_cases e : k = sp_b q n
          · rw [e, va_up_self, va_up_self]; rfl
          · rw [va_up_ne _ _ e, va_up_ne _ _ e]; exact hy k hk
      · rintro lo hp ⟨z, rfl, ⟨f1, p, q, hP, hx, hx0, hq, hsp, g1, hR, hy⟩, hO, hf0⟩
        refine am_Rq.blk (is := [(.iload 9, 2), (.iload 4, 2)]) (q := (108, [some (.ref a), some (.long (lN A)), none, some (.ref aw), some (.int (nI n)), some (.long (lN (sp_sm u n))), none, some (.long (lN (sp_lf n A u - (sp_lf n A u)))), none, some (.int (nI (sp_lf n A u))), z, none], [.int (nI n), .int (nI (sp_lf n A u))])) (by decide +kernel) rfl ?_
        dsimp only
        refine am_Rq.if2 (t := 159) (show decode (am_by 74) 108 = .ok (.if_icmp .ge 51, 3) by decide +kernel) (by decide) (fun hj => ?_) (fun hj => ?_)
        ·
          rw [nm_ge (by omega) (by omega)] at hj
          have hj := of_decide_eq_true hj
          refine am_Rq.blk (is := [(.aload_n 0, 1)]) (q := (160, [some (.ref a), some (.long (lN A)), none, some (.ref aw), some (.int (nI n)), some (.long (lN (sp_sm u n))), none, some (.long (lN (sp_lf n A u - (sp_lf n A u)))), none, some (.int (nI (sp_lf n A u))), z, none], [.ref a])) (by decide +kernel) rfl ?_
          dsimp only
          refine am_Rq.getf (v := .ref ap) (show decode (am_by 74) 160 = .ok (.getfield 9, 3) by decide +kernel) rfl hO rfl ?_
          refine am_Rq.ret (v := some (.ref ap)) (show decode (am_by 74) 163 = .ok (.areturn, 1) by decide +kernel) rfl rfl ?_
          refine ⟨_, rfl, rfl, ⟨f1, hP, fun k hk => ?_, hx0⟩, ⟨g1, hR⟩, hf0⟩
          rw [hx k hk, ← hsp k hk, Nat.sub_self]
          rfl
        ·
          rw [nm_ge (by omega) (by omega)] at hj
          have hj := of_decide_eq_false hj
          refine am_Rq.blk (is := [(.lload 7, 2), (.lconst 0, 1), (.lcmp, 1)]) (q := (115, [some (.ref a), some (.long (lN A)), none, some (.ref aw), some (.int (nI n)), some (.long (lN (sp_sm u n))), none, some (.long (lN (sp_lf n A u - (sp_lf n A u)))), none, some (.int (nI (sp_lf n A u))), z, none], [.int (lg_cmp (lN (sp_lf n A u - (sp_lf n A u))) (lN 0))])) (by decide +kernel) rfl ?_
          dsimp only
          refine am_Rq.if1T (t := 159) (show decode (am_by 74) 115 = .ok (.ifCond .le 44, 3) by decide +kernel) (by decide) (by rw [nm_cle]; exact decide_eq_true (by rw [nm_lle (a := sp_lf n A u - sp_lf n A u) (b := 0) (by omega) (by omega)]; omega)) ?_
          refine am_Rq.blk (is := [(.aload_n 0, 1)]) (q := (160, [some (.ref a), some (.long (lN A)), none, some (.ref aw), some (.int (nI n)), some (.long (lN (sp_sm u n))), none, some (.long (lN (sp_lf n A u - (sp_lf n A u)))), none, some (.int (nI (sp_lf n A u))), z, none], [.ref a])) (by decide +kernel) rfl ?_
          dsimp only
          refine am_Rq.getf (v := .ref ap) (show decode (am_by 74) 160 = .ok (.getfield 9, 3) by decide +kernel) rfl hO rfl ?_
          refine am_Rq.ret (v := some (.ref ap)) (show decode (am_by 74) 163 = .ok (.areturn, 1) by decide +kernel) rfl rfl ?_
          refine ⟨_, rfl, rfl, ⟨f1, hP, fun k hk => ?_, hx0⟩, ⟨g1, hR⟩, hf0⟩
          rw [hx k hk, ← hsp k hk, Nat.sub_self]
          rfl
  ·
    have he := of_decide_eq_false ((nm_cge _ _).symm.trans he)
    rw [nm_lle (a := 1) (b := (sp_sm u n)) (by omega) (by omega)] at he
    refine am_Rq.blk (is := [(.aload_n 0, 1)]) (q := (31, [some (.ref a), some (.long (lN A)), none, some (.ref aw), some (.int (nI n)), some (.long (lN (sp_sm u n))), none, none, none, none, none, none], [.ref a])) (by decide +kernel) rfl ?_
    dsimp only
    refine am_Rq.getf (v := .ref ap) (show decode (am_by 74) 31 = .ok (.getfield 9, 3) by decide +kernel) rfl hO1 rfl ?_
    refine am_Rq.ret (v := some (.ref ap)) (show decode (am_by 74) 34 = .ok (.areturn, 1) by decide +kernel) rfl rfl ?_
    refine ⟨_, rfl, rfl, ⟨_, hP1, fun k hk => ?_, fun k _ _ => rfl⟩, ⟨g0, hR1⟩, hF1⟩
    unfold sp_sh
    rw [if_pos (by omega)]
end C12
