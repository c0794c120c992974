/-! The class: sums, the greatest remainder (rows by prog/c11.py). -/
section C11
variable {d : Nat} {hp : am_H}
theorem c_fill {a n : Nat} {f : Nat → Int32} (h : hp[a]? = some (100, am_ia f n)) (ha : 2 ≤ a) (hn : n < 2 ^ 31) (x : Int32) : am_Rq d 67 0 (am_en [.ref a, .int x] 4) [] hp (am_Ret fun hp1 v => v = none ∧ hp1[a]? = some (100, am_ia (fun _ => x) n) ∧ am_fr (fun q => q = a) hp hp1) := by
  show am_Rq _ 67 0 [some (.ref a), some (.int x), none, none] [] _ _
  refine am_Rq.blk (is := [(.iconst 0, 1), (.istore_n 2, 1), (.aload_n 0, 1)]) (q := (3, [some (.ref a), some (.int x), some (.int (nI 0)), none], [.ref a])) (by decide +kernel) rfl ?_
  dsimp only
  refine am_Rq.alen (show decode (am_by 67) 3 = .ok (.arraylength, 1) by decide +kernel) h (by decide) ?_
  rw [am_ia_len]
  refine am_Rq.blk (is := [(.istore_n 3, 1)]) (q := (5, [some (.ref a), some (.int x), some (.int (nI 0)), some (.int (nI n))], [])) (by decide +kernel) rfl ?_
  dsimp only
  have key : ∀ hz, hz = hp → am_Rq d 67 5 [some (.ref a), some (.int x), some (.int (nI 0)), some (.int (nI n))] [] hz (am_Ret fun hp1 v => v = none ∧ hp1[a]? = some (100, am_ia (fun _ => x) n) ∧ am_fr (fun q => q = a) hp hp1) := ?_
  · exact key hp rfl
  intro hz hze
  subst hze
  refine am_for (n := n) (fun i lo hp => lo = [some (.ref a), some (.int x), some (.int (nI i)), some (.int (nI n))] ∧ (∃ f1 : Nat → Int32, hp[a]? = some (100, am_ia f1 n) ∧ ∀ k, k < i → f1 k = x) ∧ am_fr (fun q => q = a) hz hp) ?_ ?_ (i := 0) (by omega) ⟨rfl, ⟨f, h, fun k hk => by omega⟩, am_fr.rf⟩
  · rintro i lo hp hi ⟨rfl, ⟨f1, h, hx⟩, hf0⟩ ih
    refine am_Rq.blk (is := [(.iload_n 2, 1), (.iload_n 3, 1)]) (q := (7, [some (.ref a), some (.int x), some (.int (nI i)), some (.int (nI n))], [.int (nI n), .int (nI i)])) (by decide +kernel) rfl ?_
    dsimp only
    refine am_Rq.if2F (show decode (am_by 67) 7 = .ok (.if_icmp .ge 13, 3) by decide +kernel) (by decide) (by rw [nm_ge (by omega) (by omega)]; exact decide_eq_false (by omega)) ?_
    refine am_Rq.blk (is := [(.aload_n 0, 1), (.iload_n 2, 1), (.iload_n 1, 1)]) (q := (13, [some (.ref a), some (.int x), some (.int (nI i)), some (.int (nI n))], [.int x, .int (nI i), .ref a])) (by decide +kernel) rfl ?_
    dsimp only
    refine am_Rq.ias (k := i) (x := x) (show decode (am_by 67) 13 = .ok (.iastore, 1) by decide +kernel) h (by omega) (by omega) (by omega) ?_
    refine am_Rq.blk (is := [(.iinc 2 1, 3)]) (q := (17, [some (.ref a), some (.int x), some (.int ((nI i) + (nI 1))), some (.int (nI n))], [])) (by decide +kernel) rfl ?_
    dsimp only
    rw [show (nI i) + (nI 1) = nI (i + 1) from nI_add _ _]
    refine am_Rq.blk (is := [(.goto (-12), 3)]) (q := (5, [some (.ref a), some (.int x), some (.int (nI (i + 1))), some (.int (nI n))], [])) (by decide +kernel) rfl ?_
    dsimp only
    exact ih _ _ ⟨rfl, ⟨_, am_ss h, fun k hk => by
      by_cases e : k = i
      · rw [e, va_up_self]
      · rw [va_up_ne _ _ e]; exact hx k (by omega)⟩, hf0.set rfl h (by simp [am_ia_len])⟩
  · rintro lo hp ⟨rfl, ⟨f1, h, hx⟩, hf0⟩
    refine am_Rq.blk (is := [(.iload_n 2, 1), (.iload_n 3, 1)]) (q := (7, [some (.ref a), some (.int x), some (.int (nI n)), some (.int (nI n))], [.int (nI n), .int (nI n)])) (by decide +kernel) rfl ?_
    dsimp only
    refine am_Rq.if2T (t := 20) (show decode (am_by 67) 7 = .ok (.if_icmp .ge 13, 3) by decide +kernel) (by decide) (by rw [nm_ge (by omega) (by omega)]; exact decide_eq_true (by omega)) ?_
    refine am_Rq.ret (v := none) (show decode (am_by 67) 20 = .ok (.return_, 1) by decide +kernel) rfl rfl ?_
    exact ⟨_, rfl, rfl, by rw [h, c_ia_congr (fun k hk => hx k hk)], hf0⟩
theorem c_sumOf {a n : Nat} {u : Nat → Nat} (h : hp[a]? = some (100, am_ia (fun k => nI (u k)) n)) (hn : n < 2 ^ 31) (hu : ∀ k, k < n → u k < 2 ^ 31) : am_Rq d 73 0 (am_en [.ref a] 7) [] hp (am_Ret fun hp1 v => hp1 = hp ∧ v = some (.long (lN (sp_sm u n)))) := by
  show am_Rq _ 73 0 [some (.ref a), none, none, none, none, none, none] [] _ _
  refine am_Rq.blk (is := [(.lconst 0, 1), (.lstore_n 1, 1), (.aload_n 0, 1), (.astore_n 3, 1), (.aload_n 3, 1)]) (q := (5, [some (.ref a), some (.long (lN 0)), none, some (.ref a), none, none, none], [.ref a])) (by decide +kernel) rfl ?_
  dsimp only
  refine am_Rq.alen (show decode (am_by 73) 5 = .ok (.arraylength, 1) by decide +kernel) h (by decide) ?_
  rw [am_ia_len]
  refine am_Rq.blk (is := [(.istore 4, 2), (.iconst 0, 1), (.istore 5, 2)]) (q := (11, [some (.ref a), some (.long (lN 0)), none, some (.ref a), some (.int (nI n)), some (.int (nI 0)), none], [])) (by decide +kernel) rfl ?_
  dsimp only
  have key : ∀ hz, hz = hp → am_Rq d 73 11 [some (.ref a), some (.long (lN 0)), none, some (.ref a), some (.int (nI n)), some (.int (nI 0)), none] [] hz (am_Ret fun hp1 v => hp1 = hp ∧ v = some (.long (lN (sp_sm u n)))) := ?_
  · exact key hp rfl
  intro hz hze
  subst hze
  refine am_for (n := n) (fun i lo hp => ∃ z : Option Value, lo = [some (.ref a), some (.long (lN (sp_sm u i))), none, some (.ref a), some (.int (nI n)), some (.int (nI i)), z] ∧ hp = hz) ?_ ?_ (i := 0) (by omega) ⟨_, rfl, rfl⟩
  · rintro i lo hp hi ⟨z, rfl, rfl⟩ ih
    refine am_Rq.blk (is := [(.iload 5, 2), (.iload 4, 2)]) (q := (15, [some (.ref a), some (.long (lN (sp_sm u i))), none, some (.ref a), some (.int (nI n)), some (.int (nI i)), z], [.int (nI n), .int (nI i)])) (by decide +kernel) rfl ?_
    dsimp only
    refine am_Rq.if2F (show decode (am_by 73) 15 = .ok (.if_icmp .ge 21, 3) by decide +kernel) (by decide) (by rw [nm_ge (by omega) (by omega)]; exact decide_eq_false (by omega)) ?_
    refine am_Rq.blk (is := [(.aload_n 3, 1), (.iload 5, 2)]) (q := (21, [some (.ref a), some (.long (lN (sp_sm u i))), none, some (.ref a), some (.int (nI n)), some (.int (nI i)), z], [.int (nI i), .ref a])) (by decide +kernel) rfl ?_
    dsimp only
    refine am_Rq.ial (k := i) (show decode (am_by 73) 21 = .ok (.iaload, 1) by decide +kernel) h (by omega) (by omega) ?_
    refine am_Rq.blk (is := [(.istore 6, 2), (.lload_n 1, 1), (.iload 6, 2), (.i2l, 1)]) (q := (28, [some (.ref a), some (.long (lN (sp_sm u i))), none, some (.ref a), some (.int (nI n)), some (.int (nI i)), some (.int (nI (u i)))], [.long ((nI (u i)).toInt64), .long (lN (sp_sm u i))])) (by decide +kernel) rfl ?_
    dsimp only
    rw [show (nI (u i)).toInt64 = lN (u i) from nm_l (hu i hi)]
    refine am_Rq.blk (is := [(.ladd, 1)]) (q := (29, [some (.ref a), some (.long (lN (sp_sm u i))), none, some (.ref a), some (.int (nI n)), some (.int (nI i)), some (.int (nI (u i)))], [.long ((lN (sp_sm u i)) + (lN (u i)))])) (by decide +kernel) rfl ?_
    dsimp only
    rw [show (lN (sp_sm u i)) + (lN (u i)) = lN ((sp_sm u i) + (u i)) from lN_add _ _]
    refine am_Rq.blk (is := [(.lstore_n 1, 1), (.iinc 5 1, 3)]) (q := (33, [some (.ref a), some (.long (lN ((sp_sm u i) + (u i)))), none, some (.ref a), some (.int (nI n)), some (.int ((nI i) + (nI 1))), some (.int (nI (u i)))], [])) (by decide +kernel) rfl ?_
    dsimp only
    rw [show (nI i) + (nI 1) = nI (i + 1) from nI_add _ _]
    refine am_Rq.blk (is := [(.goto (-22), 3)]) (q := (11, [some (.ref a), some (.long (lN ((sp_sm u i) + (u i)))), none, some (.ref a), some (.int (nI n)), some (.int (nI (i + 1))), some (.int (nI (u i)))], [])) (by decide +kernel) rfl ?_
    dsimp only
    exact ih _ _ ⟨_, rfl, rfl⟩
  · rintro lo hp ⟨z, rfl, rfl⟩
    refine am_Rq.blk (is := [(.iload 5, 2), (.iload 4, 2)]) (q := (15, [some (.ref a), some (.long (lN (sp_sm u n))), none, some (.ref a), some (.int (nI n)), some (.int (nI n)), z], [.int (nI n), .int (nI n)])) (by decide +kernel) rfl ?_
    dsimp only
    refine am_Rq.if2T (t := 36) (show decode (am_by 73) 15 = .ok (.if_icmp .ge 21, 3) by decide +kernel) (by decide) (by rw [nm_ge (by omega) (by omega)]; exact decide_eq_true (by omega)) ?_
    refine am_Rq.blk (is := [(.lload_n 1, 1)]) (q := (37, [some (.ref a), some (.long (lN (sp_sm u n))), none, some (.ref a), some (.int (nI n)), some (.int (nI n)), z], [.long (lN (sp_sm u n))])) (by decide +kernel) rfl ?_
    dsimp only
    refine am_Rq.ret (v := some (.long (lN (sp_sm u n)))) (show decode (am_by 73) 37 = .ok (.lreturn, 1) by decide +kernel) rfl rfl ?_
    exact ⟨_, rfl, rfl, rfl⟩
theorem c_greatest {a ap ar n : Nat} {q : Nat → Nat} {g : Nat → Int64} (hO : hp[a]? = some (5, [.ref ap, .ref ar])) (h : hp[ar]? = some (101, am_la g 8)) (hg : ∀ k, k < n → g k = lN (q k) - lN 1) (hq : ∀ k, k < n → q k < 2 ^ 62) (h1 : 1 ≤ n) (hn : n ≤ 8) : am_Rq d 75 0 (am_en [.ref a, .int (nI n)] 4) [] hp (am_Ret fun hp1 v => hp1 = hp ∧ v = some (.int (nI (sp_b q n)))) := by
  show am_Rq _ 75 0 [some (.ref a), some (.int (nI n)), none, none] [] _ _
  refine am_Rq.blk (is := [(.iconst 0, 1), (.istore_n 2, 1), (.iconst 1, 1), (.istore_n 3, 1)]) (q := (4, [some (.ref a), some (.int (nI n)), some (.int (nI 0)), some (.int (nI 1))], [])) (by decide +kernel) rfl ?_
  dsimp only
  have key : ∀ hz, hz = hp → am_Rq d 75 4 [some (.ref a), some (.int (nI n)), some (.int (nI 0)), some (.int (nI 1))] [] hz (am_Ret fun hp1 v => hp1 = hp ∧ v = some (.int (nI (sp_b q n)))) := ?_
  · exact key hp rfl
  intro hz hze
  subst hze
  refine am_for (n := n) (fun i lo hp => lo = [some (.ref a), some (.int (nI n)), some (.int (nI (sp_b q i))), some (.int (nI i))] ∧ hp = hz ∧ 1 ≤ i) ?_ ?_ (i := 1) (by omega) ⟨by rw [show sp_b q 1 = 0 by simp [sp_b]], rfl, by omega⟩
  · rintro i lo hp hi ⟨rfl, rfl, h9⟩ ih
    have hb := sp_b_lt (q := q) (n := i) (by omega)
    refine am_Rq.blk (is := [(.iload_n 3, 1), (.iload_n 1, 1)]) (q := (6, [some (.ref a), some (.int (nI n)), some (.int (nI (sp_b q i))), some (.int (nI i))], [.int (nI n), .int (nI i)])) (by decide +kernel) rfl ?_
    dsimp only
    refine am_Rq.if2F (show decode (am_by 75) 6 = .ok (.if_icmp .ge 27, 3) by decide +kernel) (by decide) (by rw [nm_ge (by omega) (by omega)]; exact decide_eq_false (by omega)) ?_
    refine am_Rq.blk (is := [(.aload_n 0, 1)]) (q := (10, [some (.ref a), some (.int (nI n)), some (.int (nI (sp_b q i))), some (.int (nI i))], [.ref a])) (by decide +kernel) rfl ?_
    dsimp only
    refine am_Rq.getf (v := .ref ar) (show decode (am_by 75) 10 = .ok (.getfield 15, 3) by decide +kernel) rfl hO rfl ?_
    refine am_Rq.blk (is := [(.iload_n 3, 1)]) (q := (14, [some (.ref a), some (.int (nI n)), some (.int (nI (sp_b q i))), some (.int (nI i))], [.int (nI i), .ref ar])) (by decide +kernel) rfl ?_
    dsimp only
    refine am_Rq.lal (k := i) (show decode (am_by 75) 14 = .ok (.laload, 1) by decide +kernel) h (by omega) (by omega) ?_
    refine am_Rq.blk (is := [(.aload_n 0, 1)]) (q := (16, [some (.ref a), some (.int (nI n)), some (.int (nI (sp_b q i))), some (.int (nI i))], [.ref a, .long (g i)])) (by decide +kernel) rfl ?_
    dsimp only
    refine am_Rq.getf (v := .ref ar) (show decode (am_by 75) 16 = .ok (.getfield 15, 3) by decide +kernel) rfl hO rfl ?_
    refine am_Rq.blk (is := [(.iload_n 2, 1)]) (q := (20, [some (.ref a), some (.int (nI n)), some (.int (nI (sp_b q i))), some (.int (nI i))], [.int (nI (sp_b q i)), .ref ar, .long (g i)])) (by decide +kernel) rfl ?_
    dsimp only
    refine am_Rq.lal (k := sp_b q i) (show decode (am_by 75) 20 = .ok (.laload, 1) by decide +kernel) h (by omega) (by omega) ?_
    refine am_Rq.blk (is := [(.lcmp, 1)]) (q := (22, [some (.ref a), some (.int (nI n)), some (.int (nI (sp_b q i))), some (.int (nI i))], [.int (lg_cmp (g i) (g (sp_b q i)))])) (by decide +kernel) rfl ?_
    dsimp only
    refine am_Rq.if1 (t := 27) (show decode (am_by 75) 22 = .ok (.ifCond .le 5, 3) by decide +kernel) (by decide) (fun he => ?_) (fun he => ?_)
    ·
      rw [nm_cle, hg i hi, hg _ (by omega)] at he
      have he := of_decide_eq_true he
      rw [nm_mk (hq _ hi) (hq _ (by omega))] at he
      refine am_Rq.blk (is := [(.iinc 3 1, 3)]) (q := (30, [some (.ref a), some (.int (nI n)), some (.int (nI (sp_b q i))), some (.int ((nI i) + (nI 1)))], [])) (by decide +kernel) rfl ?_
      dsimp only
      rw [show (nI i) + (nI 1) = nI (i + 1) from nI_add _ _]
      refine am_Rq.blk (is := [(.goto (-26), 3)]) (q := (4, [some (.ref a), some (.int (nI n)), some (.int (nI (sp_b q i))), some (.int (nI (i + 1)))], [])) (by decide +kernel) rfl ?_
      dsimp only
      exact ih _ _ ⟨by simp only [sp_b]; rw [if_neg (by omega)], rfl, by omega⟩
    ·
      rw [nm_cle, hg i hi, hg _ (by omega)] at he
      have he := of_decide_eq_false he
      rw [nm_mk (hq _ hi) (hq _ (by omega))] at he
      refine am_Rq.blk (is := [(.iload_n 3, 1), (.istore_n 2, 1), (.iinc 3 1, 3)]) (q := (30, [some (.ref a), some (.int (nI n)), some (.int (nI i)), some (.int ((nI i) + (nI 1)))], [])) (by decide +kernel) rfl ?_
      dsimp only
      rw [show (nI i) + (nI 1) = nI (i + 1) from nI_add _ _]
      refine am_Rq.blk (is := [(.goto (-26), 3)]) (q := (4, [some (.ref a), some (.int (nI n)), some (.int (nI i)), some (.int (nI (i + 1)))], [])) (by decide +kernel) rfl ?_
      dsimp only
      exact ih _ _ ⟨by simp only [sp_b]; rw [if_pos (by omega)], rfl, by omega⟩
  · rintro lo hp ⟨rfl, rfl, h9⟩
    refine am_Rq.blk (is := [(.iload_n 3, 1), (.iload_n 1, 1)]) (q := (6, [some (.ref a), some (.int (nI n)), some (.int (nI (sp_b q n))), some (.int (nI n))], [.int (nI n), .int (nI n)])) (by decide +kernel) rfl ?_
    dsimp only
    refine am_Rq.if2T (t := 33) (show decode (am_by 75) 6 = .ok (.if_icmp .ge 27, 3) by decide +kernel) (by decide) (by rw [nm_ge (by omega) (by omega)]; exact decide_eq_true (by omega)) ?_
    refine am_Rq.blk (is := [(.iload_n 2, 1)]) (q := (34, [some (.ref a), some (.int (nI n)), some (.int (nI (sp_b q n))), some (.int (nI n))], [.int (nI (sp_b q n))])) (by decide +kernel) rfl ?_
    dsimp only
    refine am_Rq.ret (v := some (.int (nI (sp_b q n)))) (show decode (am_by 75) 34 = .ok (.ireturn, 1) by decide +kernel) rfl rfl ?_
    exact ⟨_, rfl, rfl, rfl⟩
end C11
