/-! The reference's sale: its row as a ledger's, sharing (rows by prog/m14.py). -/
/-- the row of the reference as a ledger's row -/
def mt (s : Nat → Nat) (q : Nat) : Nat := if q < 40 then (if q % 8 = 7 then m_iss s (q / 8) else if 1 ≤ q / 8 ∧ q / 8 ≤ s 0 then s (1 + 8 * (q / 8 - 1) + q % 8) else if q % 8 = 0 then 1 else if q % 8 = 6 then 1000 else 0) else if q < 153 then s q else s 0 + 1
theorem mt_i {s : Nat → Nat} {c : Nat} (hc : c < 5) : mt s (8 * c + 7) = m_iss s c := by
  unfold mt
  rw [if_pos (by omega), if_pos (by omega), show (8 * c + 7) / 8 = c by omega]
theorem mt_f {s : Nat → Nat} {c k : Nat} (h1 : 1 ≤ c) (hc : c ≤ s 0) (h5 : c < 5) (hk : k < 7) : mt s (8 * c + k) = s (1 + 8 * (c - 1) + k) := by
  unfold mt
  rw [if_pos (by omega), if_neg (by omega), if_pos (by omega), show (8 * c + k) / 8 = c by omega, show (8 * c + k) % 8 = k by omega]
theorem mt_h {s : Nat → Nat} {q : Nat} (h1 : 40 ≤ q) (h2 : q < 153) : mt s q = s q := by
  unfold mt
  rw [if_neg (by omega), if_pos h2]
theorem mt_n {s : Nat → Nat} : mt s 153 = s 0 + 1 := by
  unfold mt
  rw [if_neg (by omega), if_neg (by omega)]
theorem mt_d {s : Nat → Nat} {c k : Nat} (h : c = 0 ∨ s 0 < c) (hc : c < 5) (hk : k < 7) : mt s (8 * c + k) = if k = 0 then 1 else if k = 6 then 1000 else 0 := by
  unfold mt
  rw [if_pos (by omega), if_neg (by omega), if_neg (by omega), show (8 * c + k) % 8 = k by omega]
theorem m_upL {s : Nat → Nat} {k v : Nat} : va_up (fun i => lN (s i)) k (lN v) = fun i => lN (va_up s k v i) := by
  funext i
  by_cases e : i = k
  · subst e; rw [va_up_self, va_up_self]
  · rw [va_up_ne _ _ e, va_up_ne _ _ e]
theorem am_Rq.nls {d j pc : Nat} {lo : am_L} {st : List Value} {hp : am_H} {Q : am_H → am_R → Prop} {a n k v : Nat} {s : Nat → Nat} (hd : decode (am_by j) pc = .ok (.lastore, 1)) (hc : hp[a]? = some (101, am_la (fun i => lN (s i)) n)) (hk : k < n) (hn : n < 2 ^ 31) (ha : 2 ≤ a) (kk : am_Rq d j (pc + 1) lo st (hp.set a (101, am_la (fun i => lN (va_up s k v i)) n)) Q) : am_Rq d j pc lo (.long (lN v) :: .int (nI k) :: .ref a :: st) hp Q :=
  am_Rq.las hd hc hk hn ha (by rw [m_upL]; exact kk)
section M14
variable {d : Nat} {hp : am_H}
theorem m_noW {th kn co : Nat} (hM : hp[238]? = some (7, [.int (nI th), .ref 239, .ref 240, .int (nI kn), .ref 241, .ref 242, .ref 243, .ref 244, .long (lN co), .ref 245])) {f0 : Nat → Int64} (hW : hp[241]? = some (101, am_la f0 8)) : am_Rq d 126 0 (am_en [.ref 238] 2) [] hp (am_Ret fun hp1 v => v = none ∧ hp1[241]? = some (101, am_la (fun _ => lN 0) 8) ∧ am_fr (fun x => x = 241) hp hp1) := by
  show am_Rq _ 126 0 [some (.ref 238), none] [] _ _
  refine am_Rq.blk (is := [(.iconst 0, 1), (.istore_n 1, 1)]) (q := (2, [some (.ref 238), some (.int (nI 0))], [])) (by decide +kernel) rfl ?_
  dsimp only
  have key : ∀ hz, hz = hp → am_Rq d 126 2 [some (.ref 238), some (.int (nI 0))] [] hz (am_Ret fun hp1 v => v = none ∧ hp1[241]? = some (101, am_la (fun _ => lN 0) 8) ∧ am_fr (fun x => x = 241) hp hp1) := ?_
  · exact key hp rfl
  intro hz hze
  subst hze
  refine am_for (n := 8) (fun i lo hp => lo = [some (.ref 238), some (.int (nI i))] ∧ (∃ f1 : Nat → Int64, hp[241]? = some (101, am_la f1 8) ∧ ∀ q, q < i → f1 q = lN 0) ∧ hp[238]? = some (7, [.int (nI th), .ref 239, .ref 240, .int (nI kn), .ref 241, .ref 242, .ref 243, .ref 244, .long (lN co), .ref 245]) ∧ am_fr (fun x => x = 241) hz hp) ?_ ?_ (i := 0) (by omega) ⟨rfl, ⟨f0, hW, fun q hq => by omega⟩, hM, am_fr.rf⟩
  · rintro i lo hp hi ⟨rfl, ⟨f1, hW, hx⟩, hM, hf0⟩ ih
    refine am_Rq.blk (is := [(.iload_n 1, 1), (.bipush 8, 2)]) (q := (5, [some (.ref 238), some (.int (nI i))], [.int (nI 8), .int (nI i)])) (by decide +kernel) rfl ?_
    dsimp only
    refine am_Rq.if2F (show decode (am_by 126) 5 = .ok (.if_icmp .ge 16, 3) by decide +kernel) (by decide) (by rw [nm_ge (by omega) (by omega)]; exact decide_eq_false (by omega)) ?_
    refine am_Rq.blk (is := [(.aload_n 0, 1)]) (q := (9, [some (.ref 238), some (.int (nI i))], [.ref 238])) (by decide +kernel) rfl ?_
    dsimp only
    refine am_Rq.getf (v := .ref 241) (show decode (am_by 126) 9 = .ok (.getfield 16, 3) by decide +kernel) rfl hM rfl ?_
    refine am_Rq.blk (is := [(.iload_n 1, 1), (.lconst 0, 1)]) (q := (14, [some (.ref 238), some (.int (nI i))], [.long (lN 0), .int (nI i), .ref 241])) (by decide +kernel) rfl ?_
    dsimp only
    refine am_Rq.las (k := i) (x := lN 0) (show decode (am_by 126) 14 = .ok (.lastore, 1) by decide +kernel) hW (by omega) (by omega) (by omega) ?_
    have hc1_238 := (am_sn (c' := (101, (am_la (va_up f1 i (lN 0)) 8))) (show 241 ≠ 238 by omega)).trans hM
    have hc1_241 := am_ss (c' := (101, (am_la (va_up f1 i (lN 0)) 8))) hW
    have hf1 := (am_fr.rf (A := fun q => q = 241)).set (c' := (101, (am_la (va_up f1 i (lN 0)) 8))) rfl hW (by simp [am_ia_len, am_la_len])
    generalize hze1 : (List.set _ 241 _ : am_H) = hz1 at hf1 hc1_238 hc1_241 ⊢
    clear hze1
    refine am_Rq.blk (is := [(.iinc 1 1, 3)]) (q := (18, [some (.ref 238), some (.int ((nI i) + (nI 1)))], [])) (by decide +kernel) rfl ?_
    dsimp only
    rw [show (nI i) + (nI 1) = nI (i + 1) from nI_add _ _]
    refine am_Rq.blk (is := [(.goto (-16), 3)]) (q := (2, [some (.ref 238), some (.int (nI (i + 1)))], [])) (by decide +kernel) rfl ?_
    dsimp only
    refine ih _ _ ⟨rfl, ⟨_, hc1_241, fun q hq => ?_⟩, hc1_238, (hf0.trans (hf1.mono (A' := fun x => x = 241) (fun x q => by omega)))⟩
    by_cases e : q = i
    · rw [e, va_up_self]
    · rw [va_up_ne _ _ e]; exact hx q (by omega)
  · rintro lo hp ⟨rfl, ⟨f1, hW, hx⟩, hM, hf0⟩
    refine am_Rq.blk (is := [(.iload_n 1, 1), (.bipush 8, 2)]) (q := (5, [some (.ref 238), some (.int (nI 8))], [.int (nI 8), .int (nI 8)])) (by decide +kernel) rfl ?_
    dsimp only
    refine am_Rq.if2T (t := 21) (show decode (am_by 126) 5 = .ok (.if_icmp .ge 16, 3) by decide +kernel) (by decide) (by rw [nm_ge (by omega) (by omega)]; exact decide_eq_true (by omega)) ?_
    refine am_Rq.ret (v := none) (show decode (am_by 126) 21 = .ok (.return_, 1) by decide +kernel) rfl rfl ?_
    refine ⟨_, rfl, rfl, ?_, hf0⟩
    rw [hW, c_la_congr hx]
theorem m_share {th kn co : Nat} (hM : hp[238]? = some (7, [.int (nI th), .ref 239, .ref 240, .int (nI kn), .ref 241, .ref 242, .ref 243, .ref 244, .long (lN co), .ref 245])) {A : Nat} {u : Nat → Nat} {f0 g0 : Nat → Int64} (hP : hp[242]? = some (101, am_la f0 8)) (hR : hp[243]? = some (101, am_la g0 8)) (hW : hp[241]? = some (101, am_la (fun k => lN (u k)) 8)) (hA : A ≤ 2000000000) (hu : ∀ k, k < 8 → u k ≤ 1500000000) : am_Rq d 130 0 (am_en [.ref 238, .long (lN A)] 9) [] hp (am_Ret fun hp1 v => v = some (.int (nI (am_b (decide (0 < sp_sm u 8))))) ∧ hp1[242]? = some (101, am_la (fun k => lN (sp_sh 8 A u k)) 8) ∧ (∃ g : Nat → Int64, hp1[243]? = some (101, am_la g 8)) ∧ am_fr (fun x => x = 242 ∨ x = 243) hp hp1) := by
  show am_Rq _ 130 0 [some (.ref 238), some (.long (lN A)), none, none, none, none, none, none, none] [] _ _
  refine am_Rq.blk (is := [(.lconst 0, 1), (.lstore_n 3, 1), (.iconst 0, 1), (.istore 5, 2)]) (q := (5, [some (.ref 238), some (.long (lN A)), none, some (.long (lN 0)), none, some (.int (nI 0)), none, none, none], [])) (by decide +kernel) rfl ?_
  dsimp only
  have key : ∀ hz, hz = hp → am_Rq d 130 5 [some (.ref 238), some (.long (lN A)), none, some (.long (lN 0)), none, some (.int (nI 0)), none, none, none] [] hz (am_Ret fun hp1 v => v = some (.int (nI (am_b (decide (0 < sp_sm u 8))))) ∧ hp1[242]? = some (101, am_la (fun k => lN (sp_sh 8 A u k)) 8) ∧ (∃ g : Nat → Int64, hp1[243]? = some (101, am_la g 8)) ∧ am_fr (fun x => x = 242 ∨ x = 243) hp hp1) := ?_
  · exact key hp rfl
  intro hz hze
  subst hze
  have hs := sp_sm_bd hu
  refine am_for (n := 8) (fun i lo hp => lo = [some (.ref 238), some (.long (lN A)), none, some (.long (lN (sp_sm u i))), none, some (.int (nI i)), none, none, none] ∧ (∃ f1 : Nat → Int64, hp[242]? = some (101, am_la f1 8) ∧ ∀ q, q < i → f1 q = lN 0) ∧ hp[243]? = some (101, am_la g0 8) ∧ hp[238]? = some (7, [.int (nI th), .ref 239, .ref 240, .int (nI kn), .ref 241, .ref 242, .ref 243, .ref 244, .long (lN co), .ref 245]) ∧ hp[241]? = some (101, am_la (fun k => lN (u k)) 8) ∧ am_fr (fun x => x = 242 ∨ x = 243) hz hp) ?_ ?_ (i := 0) (by omega) ⟨rfl, ⟨f0, hP, fun q hq => by omega⟩, hR, hM, hW, am_fr.rf⟩
  · rintro i lo hp hi ⟨rfl, ⟨f1, hP, hx⟩, hR, hM, hW, hf0⟩ ih
    refine am_Rq.blk (is := [(.iload 5, 2), (.bipush 8, 2)]) (q := (9, [some (.ref 238), some (.long (lN A)), none, some (.long (lN (sp_sm u i))), none, some (.int (nI i)), none, none, none], [.int (nI 8), .int (nI i)])) (by decide +kernel) rfl ?_
    dsimp only
    refine am_Rq.if2F (show decode (am_by 130) 9 = .ok (.if_icmp .ge 27, 3) by decide +kernel) (by decide) (by rw [nm_ge (by omega) (by omega)]; exact decide_eq_false (by omega)) ?_
    refine am_Rq.blk (is := [(.lload_n 3, 1), (.aload_n 0, 1)]) (q := (14, [some (.ref 238), some (.long (lN A)), none, some (.long (lN (sp_sm u i))), none, some (.int (nI i)), none, none, none], [.ref 238, .long (lN (sp_sm u i))])) (by decide +kernel) rfl ?_
    dsimp only
    refine am_Rq.getf (v := .ref 241) (show decode (am_by 130) 14 = .ok (.getfield 16, 3) by decide +kernel) rfl hM rfl ?_
    refine am_Rq.blk (is := [(.iload 5, 2)]) (q := (19, [some (.ref 238), some (.long (lN A)), none, some (.long (lN (sp_sm u i))), none, some (.int (nI i)), none, none, none], [.int (nI i), .ref 241, .long (lN (sp_sm u i))])) (by decide +kernel) rfl ?_
    dsimp only
    refine am_Rq.lal (k := i) (show decode (am_by 130) 19 = .ok (.laload, 1) by decide +kernel) hW (by omega) (by omega) ?_
    refine am_Rq.blk (is := [(.ladd, 1)]) (q := (21, [some (.ref 238), some (.long (lN A)), none, some (.long (lN (sp_sm u i))), none, some (.int (nI i)), none, none, none], [.long ((lN (sp_sm u i)) + (lN (u i)))])) (by decide +kernel) rfl ?_
    dsimp only
    rw [show (lN (sp_sm u i)) + (lN (u i)) = lN ((sp_sm u i) + (u i)) from lN_add _ _]
    refine am_Rq.blk (is := [(.lstore_n 3, 1), (.aload_n 0, 1)]) (q := (23, [some (.ref 238), some (.long (lN A)), none, some (.long (lN ((sp_sm u i) + (u i)))), none, some (.int (nI i)), none, none, none], [.ref 238])) (by decide +kernel) rfl ?_
    dsimp only
    refine am_Rq.getf (v := .ref 242) (show decode (am_by 130) 23 = .ok (.getfield 20, 3) by decide +kernel) rfl hM rfl ?_
    refine am_Rq.blk (is := [(.iload 5, 2), (.lconst 0, 1)]) (q := (29, [some (.ref 238), some (.long (lN A)), none, some (.long (lN ((sp_sm u i) + (u i)))), none, some (.int (nI i)), none, none, none], [.long (lN 0), .int (nI i), .ref 242])) (by decide +kernel) rfl ?_
    dsimp only
    refine am_Rq.las (k := i) (x := lN 0) (show decode (am_by 130) 29 = .ok (.lastore, 1) by decide +kernel) hP (by omega) (by omega) (by omega) ?_
    have hc1_238 := (am_sn (c' := (101, (am_la (va_up f1 i (lN 0)) 8))) (show 242 ≠ 238 by omega)).trans hM
    have hc1_241 := (am_sn (c' := (101, (am_la (va_up f1 i (lN 0)) 8))) (show 242 ≠ 241 by omega)).trans hW
    have hc1_242 := am_ss (c' := (101, (am_la (va_up f1 i (lN 0)) 8))) hP
    have hc1_243 := (am_sn (c' := (101, (am_la (va_up f1 i (lN 0)) 8))) (show 242 ≠ 243 by omega)).trans hR
    have hf1 := (am_fr.rf (A := fun q => q = 242)).set (c' := (101, (am_la (va_up f1 i (lN 0)) 8))) rfl hP (by simp [am_ia_len, am_la_len])
    generalize hze1 : (List.set _ 242 _ : am_H) = hz1 at hf1 hc1_238 hc1_241 hc1_242 hc1_243 ⊢
    clear hze1
    refine am_Rq.blk (is := [(.iinc 5 1, 3)]) (q := (33, [some (.ref 238), some (.long (lN A)), none, some (.long (lN ((sp_sm u i) + (u i)))), none, some (.int ((nI i) + (nI 1))), none, none, none], [])) (by decide +kernel) rfl ?_
    dsimp only
    rw [show (nI i) + (nI 1) = nI (i + 1) from nI_add _ _]
    refine am_Rq.blk (is := [(.goto (-28), 3)]) (q := (5, [some (.ref 238), some (.long (lN A)), none, some (.long (lN ((sp_sm u i) + (u i)))), none, some (.int (nI (i + 1))), none, none, none], [])) (by decide +kernel) rfl ?_
    dsimp only
    refine ih _ _ ⟨rfl, ⟨_, hc1_242, fun q hq => ?_⟩, hc1_243, hc1_238, hc1_241, (hf0.trans (hf1.mono (A' := fun x => x = 242 ∨ x = 243) (fun x q => by omega)))⟩
    by_cases e : q = i
    · rw [e, va_up_self]
    · rw [va_up_ne _ _ e]; exact hx q (by omega)
  · rintro lo hp ⟨rfl, ⟨f1, hP, hx⟩, hR, hM, hW, hf0⟩
    refine am_Rq.blk (is := [(.iload 5, 2), (.bipush 8, 2)]) (q := (9, [some (.ref 238), some (.long (lN A)), none, some (.long (lN (sp_sm u 8))), none, some (.int (nI 8)), none, none, none], [.int (nI 8), .int (nI 8)])) (by decide +kernel) rfl ?_
    dsimp only
    refine am_Rq.if2T (t := 36) (show decode (am_by 130) 9 = .ok (.if_icmp .ge 27, 3) by decide +kernel) (by decide) (by rw [nm_ge (by omega) (by omega)]; exact decide_eq_true (by omega)) ?_
    refine am_Rq.blk (is := [(.lload_n 3, 1), (.lconst 0, 1), (.lcmp, 1)]) (q := (39, [some (.ref 238), some (.long (lN A)), none, some (.long (lN (sp_sm u 8))), none, some (.int (nI 8)), none, none, none], [.int (lg_cmp (lN (sp_sm u 8)) (lN 0))])) (by decide +kernel) rfl ?_
    dsimp only
    refine am_Rq.if1 (t := 44) (show decode (am_by 130) 39 = .ok (.ifCond .ne 5, 3) by decide +kernel) (by decide) (fun he => ?_) (fun he => ?_)
    ·
      have he := of_decide_eq_true ((nm_cne _ _).symm.trans he)
      rw [Ne, nm_leq (a := (sp_sm u 8)) (b := 0) (by omega) (by omega)] at he
      have hs0 : 0 < sp_sm u 8 := by omega
      have hfl := sp_fl_le (A := A) hs0
      refine am_Rq.blk (is := [(.lload_n 1, 1), (.lstore 5, 2), (.iconst 0, 1), (.istore 7, 2)]) (q := (50, [some (.ref 238), some (.long (lN A)), none, some (.long (lN (sp_sm u 8))), none, some (.long (lN A)), none, some (.int (nI 0)), none], [])) (by decide +kernel) rfl ?_
      dsimp only
      refine am_for (n := 8) (fun i lo hp => lo = [some (.ref 238), some (.long (lN A)), none, some (.long (lN (sp_sm u 8))), none, some (.long (lN (A - sp_sm (sp_fl 8 A u) i))), none, some (.int (nI i)), none] ∧ (∃ f1 : Nat → Int64, hp[242]? = some (101, am_la f1 8) ∧ ∀ q, q < i → f1 q = lN (sp_fl 8 A u q)) ∧ (∃ g1 : Nat → Int64, hp[243]? = some (101, am_la g1 8) ∧ ∀ q, q < i → g1 q = lN (A * u q % sp_sm u 8)) ∧ hp[238]? = some (7, [.int (nI th), .ref 239, .ref 240, .int (nI kn), .ref 241, .ref 242, .ref 243, .ref 244, .long (lN co), .ref 245]) ∧ hp[241]? = some (101, am_la (fun k => lN (u k)) 8) ∧ am_fr (fun x => x = 242 ∨ x = 243) hz hp) ?_ ?_ (i := 0) (by omega) ⟨rfl, ⟨f1, hP, fun q hq => by omega⟩, ⟨g0, hR, fun q hq => by omega⟩, hM, hW, hf0⟩
      · rintro i lo hp hi ⟨rfl, ⟨f2, hP, hx2⟩, ⟨g2, hR, hy2⟩, hM, hW, hf0⟩ ih
        have hui : u i ≤ sp_sm u 8 := sp_sm_ge hi
        have hpr : A * u i ≤ 2000000000 * 1500000000 := Nat.mul_le_mul hA (hu i hi)
        have hpart : sp_sm (sp_fl 8 A u) (i + 1) ≤ A := Nat.le_trans (sp_sm_mono (by omega)) hfl
        simp only [sp_sm] at hpart
        refine am_Rq.blk (is := [(.iload 7, 2), (.bipush 8, 2)]) (q := (54, [some (.ref 238), some (.long (lN A)), none, some (.long (lN (sp_sm u 8))), none, some (.long (lN (A - sp_sm (sp_fl 8 A u) i))), none, some (.int (nI i)), none], [.int (nI 8), .int (nI i)])) (by decide +kernel) rfl ?_
        dsimp only
        refine am_Rq.if2F (show decode (am_by 130) 54 = .ok (.if_icmp .ge 57, 3) by decide +kernel) (by decide) (by rw [nm_ge (by omega) (by omega)]; exact decide_eq_false (by omega)) ?_
        refine am_Rq.blk (is := [(.aload_n 0, 1)]) (q := (58, [some (.ref 238), some (.long (lN A)), none, some (.long (lN (sp_sm u 8))), none, some (.long (lN (A - sp_sm (sp_fl 8 A u) i))), none, some (.int (nI i)), none], [.ref 238])) (by decide +kernel) rfl ?_
        dsimp only
        refine am_Rq.getf (v := .ref 242) (show decode (am_by 130) 58 = .ok (.getfield 20, 3) by decide +kernel) rfl hM rfl ?_
        refine am_Rq.blk (is := [(.iload 7, 2), (.lload_n 1, 1), (.aload_n 0, 1)]) (q := (65, [some (.ref 238), some (.long (lN A)), none, some (.long (lN (sp_sm u 8))), none, some (.long (lN (A - sp_sm (sp_fl 8 A u) i))), none, some (.int (nI i)), none], [.ref 238, .long (lN A), .int (nI i), .ref 242])) (by decide +kernel) rfl ?_
        dsimp only
        refine am_Rq.getf (v := .ref 241) (show decode (am_by 130) 65 = .ok (.getfield 16, 3) by decide +kernel) rfl hM rfl ?_
        refine am_Rq.blk (is := [(.iload 7, 2)]) (q := (70, [some (.ref 238), some (.long (lN A)), none, some (.long (lN (sp_sm u 8))), none, some (.long (lN (A - sp_sm (sp_fl 8 A u) i))), none, some (.int (nI i)), none], [.int (nI i), .ref 241, .long (lN A), .int (nI i), .ref 242])) (by decide +kernel) rfl ?_
        dsimp only
        refine am_Rq.lal (k := i) (show decode (am_by 130) 70 = .ok (.laload, 1) by decide +kernel) hW (by omega) (by omega) ?_
        refine am_Rq.blk (is := [(.lmul, 1)]) (q := (72, [some (.ref 238), some (.long (lN A)), none, some (.long (lN (sp_sm u 8))), none, some (.long (lN (A - sp_sm (sp_fl 8 A u) i))), none, some (.int (nI i)), none], [.long ((lN A) * (lN (u i))), .int (nI i), .ref 242])) (by decide +kernel) rfl ?_
        dsimp only
        rw [show (lN A) * (lN (u i)) = lN (A * (u i)) from lN_mul _ _]
        refine am_Rq.blk (is := [(.lload_n 3, 1)]) (q := (73, [some (.ref 238), some (.long (lN A)), none, some (.long (lN (sp_sm u 8))), none, some (.long (lN (A - sp_sm (sp_fl 8 A u) i))), none, some (.int (nI i)), none], [.long (lN (sp_sm u 8)), .long (lN (A * (u i))), .int (nI i), .ref 242])) (by decide +kernel) rfl ?_
        dsimp only
        refine am_Rq.ldivN (a := A * (u i)) (b := sp_sm u 8) (show decode (am_by 130) 73 = .ok (.ldiv, 1) by decide +kernel) (hs0) (by omega) (by omega) ?_
        refine am_Rq.las (k := i) (x := lN ((A * (u i)) / (sp_sm u 8))) (show decode (am_by 130) 74 = .ok (.lastore, 1) by decide +kernel) hP (by omega) (by omega) (by omega) ?_
        have hc2_238 := (am_sn (c' := (101, (am_la (va_up f2 i (lN ((A * (u i)) / (sp_sm u 8)))) 8))) (show 242 ≠ 238 by omega)).trans hM
        have hc2_241 := (am_sn (c' := (101, (am_la (va_up f2 i (lN ((A * (u i)) / (sp_sm u 8)))) 8))) (show 242 ≠ 241 by omega)).trans hW
        have hc2_242 := am_ss (c' := (101, (am_la (va_up f2 i (lN ((A * (u i)) / (sp_sm u 8)))) 8))) hP
        have hc2_243 := (am_sn (c' := (101, (am_la (va_up f2 i (lN ((A * (u i)) / (sp_sm u 8)))) 8))) (show 242 ≠ 243 by omega)).trans hR
        have hf2 := (am_fr.rf (A := fun q => q = 242)).set (c' := (101, (am_la (va_up f2 i (lN ((A * (u i)) / (sp_sm u 8)))) 8))) rfl hP (by simp [am_ia_len, am_la_len])
        generalize hze2 : (List.set _ 242 _ : am_H) = hz2 at hf2 hc2_238 hc2_241 hc2_242 hc2_243 ⊢
        clear hze2
        refine am_Rq.blk (is := [(.aload_n 0, 1)]) (q := (76, [some (.ref 238), some (.long (lN A)), none, some (.long (lN (sp_sm u 8))), none, some (.long (lN (A - sp_sm (sp_fl 8 A u) i))), none, some (.int (nI i)), none], [.ref 238])) (by decide +kernel) rfl ?_
        dsimp only
        refine am_Rq.getf (v := .ref 243) (show decode (am_by 130) 76 = .ok (.getfield 23, 3) by decide +kernel) rfl hc2_238 rfl ?_
        refine am_Rq.blk (is := [(.iload 7, 2), (.lload_n 1, 1), (.aload_n 0, 1)]) (q := (83, [some (.ref 238), some (.long (lN A)), none, some (.long (lN (sp_sm u 8))), none, some (.long (lN (A - sp_sm (sp_fl 8 A u) i))), none, some (.int (nI i)), none], [.ref 238, .long (lN A), .int (nI i), .ref 243])) (by decide +kernel) rfl ?_
        dsimp only
        refine am_Rq.getf (v := .ref 241) (show decode (am_by 130) 83 = .ok (.getfield 16, 3) by decide +kernel) rfl hc2_238 rfl ?_
        refine am_Rq.blk (is := [(.iload 7, 2)]) (q := (88, [some (.ref 238), some (.long (lN A)), none, some (.long (lN (sp_sm u 8))), none, some (.long (lN (A - sp_sm (sp_fl 8 A u) i))), none, some (.int (nI i)), none], [.int (nI i), .ref 241, .long (lN A), .int (nI i), .ref 243])) (by decide +kernel) rfl ?_
        dsimp only
        refine am_Rq.lal (k := i) (show decode (am_by 130) 88 = .ok (.laload, 1) by decide +kernel) hc2_241 (by omega) (by omega) ?_
        refine am_Rq.blk (is := [(.lmul, 1)]) (q := (90, [some (.ref 238), some (.long (lN A)), none, some (.long (lN (sp_sm u 8))), none, some (.long (lN (A - sp_sm (sp_fl 8 A u) i))), none, some (.int (nI i)), none], [.long ((lN A) * (lN (u i))), .int (nI i), .ref 243])) (by decide +kernel) rfl ?_
        dsimp only
        rw [show (lN A) * (lN (u i)) = lN (A * (u i)) from lN_mul _ _]
        refine am_Rq.blk (is := [(.lload_n 3, 1)]) (q := (91, [some (.ref 238), some (.long (lN A)), none, some (.long (lN (sp_sm u 8))), none, some (.long (lN (A - sp_sm (sp_fl 8 A u) i))), none, some (.int (nI i)), none], [.long (lN (sp_sm u 8)), .long (lN (A * (u i))), .int (nI i), .ref 243])) (by decide +kernel) rfl ?_
        dsimp only
        refine am_Rq.lremN (a := A * (u i)) (b := sp_sm u 8) (show decode (am_by 130) 91 = .ok (.lrem, 1) by decide +kernel) (hs0) (by omega) (by omega) ?_
        refine am_Rq.las (k := i) (x := lN ((A * (u i)) % (sp_sm u 8))) (show decode (am_by 130) 92 = .ok (.lastore, 1) by decide +kernel) hc2_243 (by omega) (by omega) (by omega) ?_
        have hc3_238 := (am_sn (c' := (101, (am_la (va_up g2 i (lN ((A * (u i)) % (sp_sm u 8)))) 8))) (show 243 ≠ 238 by omega)).trans hc2_238
        have hc3_241 := (am_sn (c' := (101, (am_la (va_up g2 i (lN ((A * (u i)) % (sp_sm u 8)))) 8))) (show 243 ≠ 241 by omega)).trans hc2_241
        have hc3_242 := (am_sn (c' := (101, (am_la (va_up g2 i (lN ((A * (u i)) % (sp_sm u 8)))) 8))) (show 243 ≠ 242 by omega)).trans hc2_242
        have hc3_243 := am_ss (c' := (101, (am_la (va_up g2 i (lN ((A * (u i)) % (sp_sm u 8)))) 8))) hc2_243
        have hf3 := (am_fr.rf (A := fun q => q = 243)).set (c' := (101, (am_la (va_up g2 i (lN ((A * (u i)) % (sp_sm u 8)))) 8))) rfl hc2_243 (by simp [am_ia_len, am_la_len])
        generalize hze3 : (List.set _ 243 _ : am_H) = hz3 at hf3 hc3_238 hc3_241 hc3_242 hc3_243 ⊢
        clear hze3
        refine am_Rq.blk (is := [(.lload 5, 2), (.aload_n 0, 1)]) (q := (96, [some (.ref 238), some (.long (lN A)), none, some (.long (lN (sp_sm u 8))), none, some (.long (lN (A - sp_sm (sp_fl 8 A u) i))), none, some (.int (nI i)), none], [.ref 238, .long (lN (A - sp_sm (sp_fl 8 A u) i))])) (by decide +kernel) rfl ?_
        dsimp only
        refine am_Rq.getf (v := .ref 242) (show decode (am_by 130) 96 = .ok (.getfield 20, 3) by decide +kernel) rfl hc3_238 rfl ?_
        refine am_Rq.blk (is := [(.iload 7, 2)]) (q := (101, [some (.ref 238), some (.long (lN A)), none, some (.long (lN (sp_sm u 8))), none, some (.long (lN (A - sp_sm (sp_fl 8 A u) i))), none, some (.int (nI i)), none], [.int (nI i), .ref 242, .long (lN (A - sp_sm (sp_fl 8 A u) i))])) (by decide +kernel) rfl ?_
        dsimp only
        refine am_Rq.lal (k := i) (show decode (am_by 130) 101 = .ok (.laload, 1) by decide +kernel) hc3_242 (by omega) (by omega) ?_
        rw [va_up_self]
        refine am_Rq.blk (is := [(.lsub, 1)]) (q := (103, [some (.ref 238), some (.long (lN A)), none, some (.long (lN (sp_sm u 8))), none, some (.long (lN (A - sp_sm (sp_fl 8 A u) i))), none, some (.int (nI i)), none], [.long ((lN (A - sp_sm (sp_fl 8 A u) i)) - (lN ((A * (u i)) / (sp_sm u 8))))])) (by decide +kernel) rfl ?_
        dsimp only
        rw [show (lN (A - sp_sm (sp_fl 8 A u) i)) - (lN ((A * (u i)) / (sp_sm u 8))) = lN ((A - sp_sm (sp_fl 8 A u) i) - ((A * (u i)) / (sp_sm u 8))) from lN_sub (by have z : sp_fl 8 A u i = A * u i / sp_sm u 8 := rfl; omega)]
        refine am_Rq.blk (is := [(.lstore 5, 2), (.iinc 7 1, 3)]) (q := (108, [some (.ref 238), some (.long (lN A)), none, some (.long (lN (sp_sm u 8))), none, some (.long (lN ((A - sp_sm (sp_fl 8 A u) i) - ((A * (u i)) / (sp_sm u 8))))), none, some (.int ((nI i) + (nI 1))), none], [])) (by decide +kernel) rfl ?_
        dsimp only
        rw [show (nI i) + (nI 1) = nI (i + 1) from nI_add _ _]
        refine am_Rq.blk (is := [(.goto (-58), 3)]) (q := (50, [some (.ref 238), some (.long (lN A)), none, some (.long (lN (sp_sm u 8))), none, some (.long (lN ((A - sp_sm (sp_fl 8 A u) i) - ((A * (u i)) / (sp_sm u 8))))), none, some (.int (nI (i + 1))), none], [])) (by decide +kernel) rfl ?_
        dsimp only
        refine ih _ _ ⟨?_, ⟨_, hc3_242, fun k hk => ?_⟩, ⟨_, hc3_243, fun k hk => ?_⟩, hc3_238, hc3_241, ((hf0.trans (hf2.mono (A' := fun x => x = 242 ∨ x = 243) (fun x q => by omega))).trans (hf3.mono (A' := fun x => x = 242 ∨ x = 243) (fun x q => by omega)))⟩
        · simp only [sp_sm]
          rw [Nat.sub_sub]
          rfl
        · by_cases e : k = i
          · rw [e, va_up_self]; rfl
          · rw [va_up_ne _ _ e]; exact hx2 k (by omega)
        · by_cases e : k = i
          · rw [e, va_up_self]
          · rw [va_up_ne _ _ e]; exact hy2 k (by omega)
      · rintro lo hp ⟨rfl, ⟨f2, hP, hx2⟩, ⟨g2, hR, hy2⟩, hM, hW, hf0⟩
        refine am_Rq.blk (is := [(.iload 7, 2), (.bipush 8, 2)]) (q := (54, [some (.ref 238), some (.long (lN A)), none, some (.long (lN (sp_sm u 8))), none, some (.long (lN (A - sp_sm (sp_fl 8 A u) 8))), none, some (.int (nI 8)), none], [.int (nI 8), .int (nI 8)])) (by decide +kernel) rfl ?_
        dsimp only
        refine am_Rq.if2T (t := 111) (show decode (am_by 130) 54 = .ok (.if_icmp .ge 57, 3) by decide +kernel) (by decide) (by rw [nm_ge (by omega) (by omega)]; exact decide_eq_true (by omega)) ?_
        have hlf := sp_lf_n (A := A) hs0
        refine am_for (n := (sp_lf 8 A u)) (fun i lo hp => ∃ z7 z8 : Option Value, lo = [some (.ref 238), some (.long (lN A)), none, some (.long (lN (sp_sm u 8))), none, some (.long (lN (sp_lf 8 A u - i))), none, z7, z8] ∧ (∃ (p q : Nat → Nat) (f1 g1 : Nat → Int64), hp[242]? = some (101, am_la f1 8) ∧ (∀ k, k < 8 → f1 k = lN (p k)) ∧ (∀ k, k < 8 → q k < 2 ^ 62) ∧ (∀ k, k < 8 → sp_g 8 (sp_lf 8 A u - i) p q k = sp_sh 8 A u k) ∧ hp[243]? = some (101, am_la g1 8) ∧ ∀ k, k < 8 → g1 k = lN (q k) - lN 1) ∧ hp[238]? = some (7, [.int (nI th), .ref 239, .ref 240, .int (nI kn), .ref 241, .ref 242, .ref 243, .ref 244, .long (lN co), .ref 245]) ∧ hp[241]? = some (101, am_la (fun k => lN (u k)) 8) ∧ am_fr (fun x => x = 242 ∨ x = 243) hz hp) ?_ ?_ (i := 0) (by omega) ⟨_, _, rfl, ⟨sp_fl 8 A u, sp_mk 8 A u, f2, g2, hP, hx2, fun k hk => by unfold sp_mk; have := Nat.mod_lt (A * u k) hs0; omega, fun k hk => by unfold sp_sh; rw [if_neg (by omega), Nat.sub_zero], hR, fun k hk => by rw [hy2 k hk]; unfold sp_mk; rw [lN_sub (by omega), Nat.add_sub_cancel]⟩, hM, hW, hf0⟩
        · rintro i lo hp hi ⟨z7, z8, rfl, ⟨p, q, f3, g3, hP, hx3, hq, hsp, hR, hy3⟩, hM, hW, hf0⟩ ih
          refine am_Rq.blk (is := [(.lload 5, 2), (.lconst 0, 1), (.lcmp, 1)]) (q := (115, [some (.ref 238), some (.long (lN A)), none, some (.long (lN (sp_sm u 8))), none, some (.long (lN (sp_lf 8 A u - i))), none, z7, z8], [.int (lg_cmp (lN (sp_lf 8 A u - i)) (lN 0))])) (by decide +kernel) rfl ?_
          dsimp only
          refine am_Rq.if1F (show decode (am_by 130) 115 = .ok (.ifCond .le 79, 3) by decide +kernel) (by decide) (by rw [nm_cle]; exact decide_eq_false (by rw [nm_lle (a := sp_lf 8 A u - i) (b := 0) (by omega) (by omega)]; omega)) ?_
          refine am_Rq.blk (is := [(.iconst 0, 1), (.istore 7, 2), (.iconst 1, 1), (.istore 8, 2)]) (q := (124, [some (.ref 238), some (.long (lN A)), none, some (.long (lN (sp_sm u 8))), none, some (.long (lN (sp_lf 8 A u - i))), none, some (.int (nI 0)), some (.int (nI 1))], [])) (by decide +kernel) rfl ?_
          dsimp only
          have hb := sp_b_lt (q := q) (n := 8) (by omega)
          refine am_for (n := 8) (fun i2 lo hpx => lo = [some (.ref 238), some (.long (lN A)), none, some (.long (lN (sp_sm u 8))), none, some (.long (lN (sp_lf 8 A u - i))), none, some (.int (nI (sp_b q i2))), some (.int (nI i2))] ∧ hpx = hp ∧ 1 ≤ i2) ?_ ?_ (i := 1) (by omega) ⟨by rw [show sp_b q 1 = 0 by simp [sp_b]], rfl, by omega⟩
          · rintro i2 lo hpx hi2 ⟨rfl, rfl, h9⟩ ih2
            have hb2 := sp_b_lt (q := q) (n := i2) (by omega)
            refine am_Rq.blk (is := [(.iload 8, 2), (.bipush 8, 2)]) (q := (128, [some (.ref 238), some (.long (lN A)), none, some (.long (lN (sp_sm u 8))), none, some (.long (lN (sp_lf 8 A u - i))), none, some (.int (nI (sp_b q i2))), some (.int (nI i2))], [.int (nI 8), .int (nI i2)])) (by decide +kernel) rfl ?_
            dsimp only
            refine am_Rq.if2F (show decode (am_by 130) 128 = .ok (.if_icmp .ge 36, 3) by decide +kernel) (by decide) (by rw [nm_ge (by omega) (by omega)]; exact decide_eq_false (by omega)) ?_
            refine am_Rq.blk (is := [(.aload_n 0, 1)]) (q := (132, [some (.ref 238), some (.long (lN A)), none, some (.long (lN (sp_sm u 8))), none, some (.long (lN (sp_lf 8 A u - i))), none, some (.int (nI (sp_b q i2))), some (.int (nI i2))], [.ref 238])) (by decide +kernel) rfl ?_
            dsimp only
            refine am_Rq.getf (v := .ref 243) (show decode (am_by 130) 132 = .ok (.getfield 23, 3) by decide +kernel) rfl hM rfl ?_
            refine am_Rq.blk (is := [(.iload 8, 2)]) (q := (137, [some (.ref 238), some (.long (lN A)), none, some (.long (lN (sp_sm u 8))), none, some (.long (lN (sp_lf 8 A u - i))), none, some (.int (nI (sp_b q i2))), some (.int (nI i2))], [.int (nI i2), .ref 243])) (by decide +kernel) rfl ?_
            dsimp only
            refine am_Rq.lal (k := i2) (show decode (am_by 130) 137 = .ok (.laload, 1) by decide +kernel) hR (by omega) (by omega) ?_
            refine am_Rq.blk (is := [(.aload_n 0, 1)]) (q := (139, [some (.ref 238), some (.long (lN A)), none, some (.long (lN (sp_sm u 8))), none, some (.long (lN (sp_lf 8 A u - i))), none, some (.int (nI (sp_b q i2))), some (.int (nI i2))], [.ref 238, .long (g3 i2)])) (by decide +kernel) rfl ?_
            dsimp only
            refine am_Rq.getf (v := .ref 243) (show decode (am_by 130) 139 = .ok (.getfield 23, 3) by decide +kernel) rfl hM rfl ?_
            refine am_Rq.blk (is := [(.iload 7, 2)]) (q := (144, [some (.ref 238), some (.long (lN A)), none, some (.long (lN (sp_sm u 8))), none, some (.long (lN (sp_lf 8 A u - i))), none, some (.int (nI (sp_b q i2))), some (.int (nI i2))], [.int (nI (sp_b q i2)), .ref 243, .long (g3 i2)])) (by decide +kernel) rfl ?_
            dsimp only
            refine am_Rq.lal (k := sp_b q i2) (show decode (am_by 130) 144 = .ok (.laload, 1) by decide +kernel) hR (by omega) (by omega) ?_
            refine am_Rq.blk (is := [(.lcmp, 1)]) (q := (146, [some (.ref 238), some (.long (lN A)), none, some (.long (lN (sp_sm u 8))), none, some (.long (lN (sp_lf 8 A u - i))), none, some (.int (nI (sp_b q i2))), some (.int (nI i2))], [.int (lg_cmp (g3 i2) (g3 (sp_b q i2)))])) (by decide +kernel) rfl ?_
            dsimp only
            refine am_Rq.if1 (t := 154) (show decode (am_by 130) 146 = .ok (.ifCond .le 8, 3) by decide +kernel) (by decide) (fun he2 => ?_) (fun he2 => ?_)
            ·
              rw [nm_cle, hy3 i2 hi2, hy3 _ (by omega)] at he2
              have he2 := of_decide_eq_true he2
              rw [nm_mk (hq _ hi2) (hq _ (by omega))] at he2
              refine am_Rq.blk (is := [(.iload 7, 2), (.istore 7, 2), (.iinc 8 1, 3)]) (q := (161, [some (.ref 238), some (.long (lN A)), none, some (.long (lN (sp_sm u 8))), none, some (.long (lN (sp_lf 8 A u - i))), none, some (.int (nI (sp_b q i2))), some (.int ((nI i2) + (nI 1)))], [])) (by decide +kernel) rfl ?_
              dsimp only
              rw [show (nI i2) + (nI 1) = nI (i2 + 1) from nI_add _ _]
              refine am_Rq.blk (is := [(.goto (-37), 3)]) (q := (124, [some (.ref 238), some (.long (lN A)), none, some (.long (lN (sp_sm u 8))), none, some (.long (lN (sp_lf 8 A u - i))), none, some (.int (nI (sp_b q i2))), some (.int (nI (i2 + 1)))], [])) (by decide +kernel) rfl ?_
              dsimp only
              exact ih2 _ _ ⟨by simp only [sp_b]; rw [if_neg (by omega)], rfl, by omega⟩
            ·
              rw [nm_cle, hy3 i2 hi2, hy3 _ (by omega)] at he2
              have he2 := of_decide_eq_false he2
              rw [nm_mk (hq _ hi2) (hq _ (by omega))] at he2
              refine am_Rq.blk (is := [(.iload 8, 2), (.goto 5, 3)]) (q := (156, [some (.ref 238), some (.long (lN A)), none, some (.long (lN (sp_sm u 8))), none, some (.long (lN (sp_lf 8 A u - i))), none, some (.int (nI (sp_b q i2))), some (.int (nI i2))], [.int (nI i2)])) (by decide +kernel) rfl ?_
              dsimp only
              refine am_Rq.blk (is := [(.istore 7, 2), (.iinc 8 1, 3)]) (q := (161, [some (.ref 238), some (.long (lN A)), none, some (.long (lN (sp_sm u 8))), none, some (.long (lN (sp_lf 8 A u - i))), none, some (.int (nI i2)), some (.int ((nI i2) + (nI 1)))], [])) (by decide +kernel) rfl ?_
              dsimp only
              rw [show (nI i2) + (nI 1) = nI (i2 + 1) from nI_add _ _]
              refine am_Rq.blk (is := [(.goto (-37), 3)]) (q := (124, [some (.ref 238), some (.long (lN A)), none, some (.long (lN (sp_sm u 8))), none, some (.long (lN (sp_lf 8 A u - i))), none, some (.int (nI i2)), some (.int (nI (i2 + 1)))], [])) (by decide +kernel) rfl ?_
              dsimp only
              exact ih2 _ _ ⟨by simp only [sp_b]; rw [if_pos (by omega)], rfl, by omega⟩
          · rintro lo hpx ⟨rfl, rfl, h9⟩
            refine am_Rq.blk (is := [(.iload 8, 2), (.bipush 8, 2)]) (q := (128, [some (.ref 238), some (.long (lN A)), none, some (.long (lN (sp_sm u 8))), none, some (.long (lN (sp_lf 8 A u - i))), none, some (.int (nI (sp_b q 8))), some (.int (nI 8))], [.int (nI 8), .int (nI 8)])) (by decide +kernel) rfl ?_
            dsimp only
            refine am_Rq.if2T (t := 164) (show decode (am_by 130) 128 = .ok (.if_icmp .ge 36, 3) by decide +kernel) (by decide) (by rw [nm_ge (by omega) (by omega)]; exact decide_eq_true (by omega)) ?_
            refine am_Rq.blk (is := [(.aload_n 0, 1)]) (q := (165, [some (.ref 238), some (.long (lN A)), none, some (.long (lN (sp_sm u 8))), none, some (.long (lN (sp_lf 8 A u - i))), none, some (.int (nI (sp_b q 8))), some (.int (nI 8))], [.ref 238])) (by decide +kernel) rfl ?_
            dsimp only
            refine am_Rq.getf (v := .ref 242) (show decode (am_by 130) 165 = .ok (.getfield 20, 3) by decide +kernel) rfl hM rfl ?_
            refine am_Rq.blk (is := [(.iload 7, 2), (.dup2, 1)]) (q := (171, [some (.ref 238), some (.long (lN A)), none, some (.long (lN (sp_sm u 8))), none, some (.long (lN (sp_lf 8 A u - i))), none, some (.int (nI (sp_b q 8))), some (.int (nI 8))], [.int (nI (sp_b q 8)), .ref 242, .int (nI (sp_b q 8)), .ref 242])) (by decide +kernel) rfl ?_
            dsimp only
            refine am_Rq.lal (k := sp_b q 8) (show decode (am_by 130) 171 = .ok (.laload, 1) by decide +kernel) hP (by omega) (by omega) ?_
            refine am_Rq.blk (is := [(.lconst 1, 1)]) (q := (173, [some (.ref 238), some (.long (lN A)), none, some (.long (lN (sp_sm u 8))), none, some (.long (lN (sp_lf 8 A u - i))), none, some (.int (nI (sp_b q 8))), some (.int (nI 8))], [.long (lN 1), .long (f3 (sp_b q 8)), .int (nI (sp_b q 8)), .ref 242])) (by decide +kernel) rfl ?_
            dsimp only
            rw [hx3 _ hb]
            refine am_Rq.blk (is := [(.ladd, 1)]) (q := (174, [some (.ref 238), some (.long (lN A)), none, some (.long (lN (sp_sm u 8))), none, some (.long (lN (sp_lf 8 A u - i))), none, some (.int (nI (sp_b q 8))), some (.int (nI 8))], [.long ((lN (p (sp_b q 8))) + (lN 1)), .int (nI (sp_b q 8)), .ref 242])) (by decide +kernel) rfl ?_
            dsimp only
            rw [show (lN (p (sp_b q 8))) + (lN 1) = lN ((p (sp_b q 8)) + 1) from lN_add _ _]
            refine am_Rq.las (k := sp_b q 8) (x := lN ((p (sp_b q 8)) + 1)) (show decode (am_by 130) 174 = .ok (.lastore, 1) by decide +kernel) hP (by omega) (by omega) (by omega) ?_
            have hc4_238 := (am_sn (c' := (101, (am_la (va_up f3 (sp_b q 8) (lN ((p (sp_b q 8)) + 1))) 8))) (show 242 ≠ 238 by omega)).trans hM
            have hc4_241 := (am_sn (c' := (101, (am_la (va_up f3 (sp_b q 8) (lN ((p (sp_b q 8)) + 1))) 8))) (show 242 ≠ 241 by omega)).trans hW
            have hc4_242 := am_ss (c' := (101, (am_la (va_up f3 (sp_b q 8) (lN ((p (sp_b q 8)) + 1))) 8))) hP
            have hc4_243 := (am_sn (c' := (101, (am_la (va_up f3 (sp_b q 8) (lN ((p (sp_b q 8)) + 1))) 8))) (show 242 ≠ 243 by omega)).trans hR
            have hf4 := (am_fr.rf (A := fun q => q = 242)).set (c' := (101, (am_la (va_up f3 (sp_b q 8) (lN ((p (sp_b q 8)) + 1))) 8))) rfl hP (by simp [am_ia_len, am_la_len])
            generalize hze4 : (List.set _ 242 _ : am_H) = hz4 at hf4 hc4_238 hc4_241 hc4_242 hc4_243 ⊢
            clear hze4
            refine am_Rq.blk (is := [(.aload_n 0, 1)]) (q := (176, [some (.ref 238), some (.long (lN A)), none, some (.long (lN (sp_sm u 8))), none, some (.long (lN (sp_lf 8 A u - i))), none, some (.int (nI (sp_b q 8))), some (.int (nI 8))], [.ref 238])) (by decide +kernel) rfl ?_
            dsimp only
            refine am_Rq.getf (v := .ref 243) (show decode (am_by 130) 176 = .ok (.getfield 23, 3) by decide +kernel) rfl hc4_238 rfl ?_
            refine am_Rq.blk (is := [(.iload 7, 2), (.ldc2_w 90, 3)]) (q := (184, [some (.ref 238), some (.long (lN A)), none, some (.long (lN (sp_sm u 8))), none, some (.long (lN (sp_lf 8 A u - i))), none, some (.int (nI (sp_b q 8))), some (.int (nI 8))], [.long (-1), .int (nI (sp_b q 8)), .ref 243])) (by decide +kernel) rfl ?_
            dsimp only
            refine am_Rq.las (k := sp_b q 8) (x := (-1)) (show decode (am_by 130) 184 = .ok (.lastore, 1) by decide +kernel) hc4_243 (by omega) (by omega) (by omega) ?_
            have hc5_238 := (am_sn (c' := (101, (am_la (va_up g3 (sp_b q 8) (-1)) 8))) (show 243 ≠ 238 by omega)).trans hc4_238
            have hc5_241 := (am_sn (c' := (101, (am_la (va_up g3 (sp_b q 8) (-1)) 8))) (show 243 ≠ 241 by omega)).trans hc4_241
            have hc5_242 := (am_sn (c' := (101, (am_la (va_up g3 (sp_b q 8) (-1)) 8))) (show 243 ≠ 242 by omega)).trans hc4_242
            have hc5_243 := am_ss (c' := (101, (am_la (va_up g3 (sp_b q 8) (-1)) 8))) hc4_243
            have hf5 := (am_fr.rf (A := fun q => q = 243)).set (c' := (101, (am_la (va_up g3 (sp_b q 8) (-1)) 8))) rfl hc4_243 (by simp [am_ia_len, am_la_len])
            generalize hze5 : (List.set _ 243 _ : am_H) = hz5 at hf5 hc5_238 hc5_241 hc5_242 hc5_243 ⊢
            clear hze5
            refine am_Rq.blk (is := [(.lload 5, 2), (.lconst 1, 1), (.lsub, 1)]) (q := (189, [some (.ref 238), some (.long (lN A)), none, some (.long (lN (sp_sm u 8))), none, some (.long (lN (sp_lf 8 A u - i))), none, some (.int (nI (sp_b q 8))), some (.int (nI 8))], [.long ((lN (sp_lf 8 A u - i)) - (lN 1))])) (by decide +kernel) rfl ?_
            dsimp only
            rw [show (lN (sp_lf 8 A u - i)) - (lN 1) = lN ((sp_lf 8 A u - i) - 1) from lN_sub (by omega)]
            refine am_Rq.blk (is := [(.lstore 5, 2), (.goto (-80), 3)]) (q := (111, [some (.ref 238), some (.long (lN A)), none, some (.long (lN (sp_sm u 8))), none, some (.long (lN ((sp_lf 8 A u - i) - 1))), none, some (.int (nI (sp_b q 8))), some (.int (nI 8))], [])) (by decide +kernel) rfl ?_
            dsimp only
            refine ih _ _ ⟨some (.int (nI (sp_b q 8))), some (.int (nI 8)), ?_, ⟨va_up p (sp_b q 8) (p (sp_b q 8) + 1), va_up q (sp_b q 8) 0, _, _, hc5_242, fun k hk => ?_, fun k hk => ?_, fun k hk => ?_, hc5_243, fun k hk => ?_⟩, hc5_238, hc5_241, ((hf0.trans (hf4.mono (A' := fun x => x = 242 ∨ x = 243) (fun x q => by omega))).trans (hf5.mono (A' := fun x => x = 242 ∨ x = 243) (fun x q => by omega)))⟩
            · rw [Nat.sub_sub]
            · by_cases e : k = sp_b q 8
              · rw [e, va_up_self, va_up_self]
              · rw [va_up_ne _ _ e, va_up_ne _ _ e]; exact hx3 k hk
            · by_cases e : k = sp_b q 8
              · rw [e, va_up_self]; decide
              · rw [va_up_ne _ _ e]; exact hq k hk
            · rw [← hsp k hk, show sp_lf 8 A u - i = (sp_lf 8 A u - (i + 1)) + 1 by omega]
              rfl
            · by_cases e : k = sp_b q 8
              · rw [e, va_up_self, va_up_self]; decide
              · rw [va_up_ne _ _ e, va_up_ne _ _ e]; exact hy3 k hk
        · rintro lo hp ⟨z7, z8, rfl, ⟨p, q, f3, g3, hP, hx3, hq, hsp, hR, hy3⟩, hM, hW, hf0⟩
          refine am_Rq.blk (is := [(.lload 5, 2), (.lconst 0, 1), (.lcmp, 1)]) (q := (115, [some (.ref 238), some (.long (lN A)), none, some (.long (lN (sp_sm u 8))), none, some (.long (lN (sp_lf 8 A u - (sp_lf 8 A u)))), none, z7, z8], [.int (lg_cmp (lN (sp_lf 8 A u - (sp_lf 8 A u))) (lN 0))])) (by decide +kernel) rfl ?_
          dsimp only
          refine am_Rq.if1T (t := 194) (show decode (am_by 130) 115 = .ok (.ifCond .le 79, 3) by decide +kernel) (by decide) (by rw [nm_cle]; exact decide_eq_true (by rw [nm_lle (a := sp_lf 8 A u - sp_lf 8 A u) (b := 0) (by omega) (by omega)]; omega)) ?_
          refine am_Rq.blk (is := [(.iconst 1, 1)]) (q := (195, [some (.ref 238), some (.long (lN A)), none, some (.long (lN (sp_sm u 8))), none, some (.long (lN (sp_lf 8 A u - (sp_lf 8 A u)))), none, z7, z8], [.int (nI 1)])) (by decide +kernel) rfl ?_
          dsimp only
          refine am_Rq.ret (v := some (.int (nI 1))) (show decode (am_by 130) 195 = .ok (.ireturn, 1) by decide +kernel) rfl rfl ?_
          refine ⟨_, rfl, by rw [decide_eq_true hs0]; rfl, ?_, ⟨_, hR⟩, hf0⟩
          rw [hP, c_la_congr (fun k hk => ?_)]
          rw [hx3 k hk, ← hsp k hk, Nat.sub_self]
          rfl
    ·
      have he := of_decide_eq_false ((nm_cne _ _).symm.trans he)
      rw [Ne, nm_leq (a := (sp_sm u 8)) (b := 0) (by omega) (by omega)] at he
      refine am_Rq.blk (is := [(.iconst 0, 1)]) (q := (43, [some (.ref 238), some (.long (lN A)), none, some (.long (lN (sp_sm u 8))), none, some (.int (nI 8)), none, none, none], [.int (nI 0)])) (by decide +kernel) rfl ?_
      dsimp only
      refine am_Rq.ret (v := some (.int (nI 0))) (show decode (am_by 130) 43 = .ok (.ireturn, 1) by decide +kernel) rfl rfl ?_
      refine ⟨_, rfl, by rw [decide_eq_false (show ¬ 0 < sp_sm u 8 by omega)]; rfl, ?_, ⟨_, hR⟩, hf0⟩
      rw [hP, c_la_congr (fun k hk => ?_)]
      rw [hx k hk]
      unfold sp_sh
      rw [if_pos (by omega)]
end M14
