/-! The reference: what it remembers (rows by prog/m3.py). -/
def m_kn (kn : Nat) : Nat := if kn = 8 then 7 else kn
section M3
variable {d : Nat} {hp : am_H}
theorem m_rem2 {th kn co : Nat} (hM : hp[238]? = some (7, [.int (nI th), .ref 239, .ref 240, .int (nI kn), .ref 241, .ref 242, .ref 243, .ref 244, .long (lN co), .ref 245])) {s : Nat → Nat} (hS : hp[239]? = some (100, am_ia (fun i => nI (s i)) 160)) {f : Nat → Int32} (hO : hp[240]? = some (100, am_ia f 1280)) (hk : kn ≤ 7) {z : Option Value} : am_Rq d 94 50 [some (.ref 238), z] [] hp (am_Ret fun hp1 v => v = none ∧ hp1[238]? = some (7, m_ob th (kn + 1) co) ∧ (∃ f1 : Nat → Int32, hp1[240]? = some (100, am_ia f1 1280) ∧ (∀ k, k < 160 → f1 (160 * kn + k) = nI (s k)) ∧ ∀ q, (q < 160 * kn ∨ 160 * kn + 160 ≤ q) → f1 q = f q) ∧ am_fr (fun x => x = 238 ∨ x = 240) hp hp1) := by
  refine am_Rq.blk (is := [(.iconst 0, 1), (.istore_n 1, 1)]) (q := (52, [some (.ref 238), some (.int (nI 0))], [])) (by decide +kernel) rfl ?_
  dsimp only
  have key : ∀ hz, hz = hp → am_Rq d 94 52 [some (.ref 238), some (.int (nI 0))] [] hz (am_Ret fun hp1 v => v = none ∧ hp1[238]? = some (7, m_ob th (kn + 1) co) ∧ (∃ f1 : Nat → Int32, hp1[240]? = some (100, am_ia f1 1280) ∧ (∀ k, k < 160 → f1 (160 * kn + k) = nI (s k)) ∧ ∀ q, (q < 160 * kn ∨ 160 * kn + 160 ≤ q) → f1 q = f q) ∧ am_fr (fun x => x = 238 ∨ x = 240) hp hp1) := ?_
  · exact key hp rfl
  intro hz hze
  subst hze
  refine am_for (n := 160) (fun i lo hp => lo = [some (.ref 238), some (.int (nI i))] ∧ (∃ f1 : Nat → Int32, hp[240]? = some (100, am_ia f1 1280) ∧ (∀ k, k < i → f1 (160 * kn + k) = nI (s k)) ∧ ∀ q, (q < 160 * kn ∨ 160 * kn + i ≤ q) → f1 q = f q) ∧ hp[238]? = some (7, [.int (nI th), .ref 239, .ref 240, .int (nI kn), .ref 241, .ref 242, .ref 243, .ref 244, .long (lN co), .ref 245]) ∧ hp[239]? = some (100, am_ia (fun i => nI (s i)) 160) ∧ am_fr (fun x => x = 238 ∨ x = 240) hz hp) ?_ ?_ (i := 0) (by omega) ⟨rfl, ⟨f, hO, fun k hk => by omega, fun q _ => rfl⟩, hM, hS, am_fr.rf⟩
  · rintro i lo hp hi ⟨rfl, ⟨f1, hO, hx, hy⟩, hM, hS, hf0⟩ ih
    refine am_Rq.blk (is := [(.iload_n 1, 1), (.sipush 160, 3)]) (q := (56, [some (.ref 238), some (.int (nI i))], [.int (nI 160), .int (nI i)])) (by decide +kernel) rfl ?_
    dsimp only
    refine am_Rq.if2F (show decode (am_by 94) 56 = .ok (.if_icmp .ge 30, 3) by decide +kernel) (by decide) (by rw [nm_ge (by omega) (by omega)]; exact decide_eq_false (by omega)) ?_
    refine am_Rq.blk (is := [(.aload_n 0, 1)]) (q := (60, [some (.ref 238), some (.int (nI i))], [.ref 238])) (by decide +kernel) rfl ?_
    dsimp only
    refine am_Rq.getf (v := .ref 240) (show decode (am_by 94) 60 = .ok (.getfield 13, 3) by decide +kernel) rfl hM rfl ?_
    refine am_Rq.blk (is := [(.sipush 160, 3), (.aload_n 0, 1)]) (q := (67, [some (.ref 238), some (.int (nI i))], [.ref 238, .int (nI 160), .ref 240])) (by decide +kernel) rfl ?_
    dsimp only
    refine am_Rq.getf (v := .int (nI kn)) (show decode (am_by 94) 67 = .ok (.getfield 32, 3) by decide +kernel) rfl hM rfl ?_
    refine am_Rq.blk (is := [(.imul, 1)]) (q := (71, [some (.ref 238), some (.int (nI i))], [.int ((nI 160) * (nI kn)), .ref 240])) (by decide +kernel) rfl ?_
    dsimp only
    rw [show (nI 160) * (nI kn) = nI (160 * kn) from nm_imul _ _]
    refine am_Rq.blk (is := [(.iload_n 1, 1), (.iadd, 1)]) (q := (73, [some (.ref 238), some (.int (nI i))], [.int ((nI (160 * kn)) + (nI i)), .ref 240])) (by decide +kernel) rfl ?_
    dsimp only
    rw [show (nI (160 * kn)) + (nI i) = nI ((160 * kn) + i) from nI_add _ _]
    refine am_Rq.blk (is := [(.aload_n 0, 1)]) (q := (74, [some (.ref 238), some (.int (nI i))], [.ref 238, .int (nI ((160 * kn) + i)), .ref 240])) (by decide +kernel) rfl ?_
    dsimp only
    refine am_Rq.getf (v := .ref 239) (show decode (am_by 94) 74 = .ok (.getfield 7, 3) by decide +kernel) rfl hM rfl ?_
    refine am_Rq.blk (is := [(.iload_n 1, 1)]) (q := (78, [some (.ref 238), some (.int (nI i))], [.int (nI i), .ref 239, .int (nI ((160 * kn) + i)), .ref 240])) (by decide +kernel) rfl ?_
    dsimp only
    refine am_Rq.ial (k := i) (show decode (am_by 94) 78 = .ok (.iaload, 1) by decide +kernel) hS (by omega) (by omega) ?_
    refine am_Rq.ias (k := (160 * kn) + i) (x := nI (s i)) (show decode (am_by 94) 79 = .ok (.iastore, 1) by decide +kernel) hO (by omega) (by omega) (by omega) ?_
    refine am_Rq.blk (is := [(.iinc 1 1, 3)]) (q := (83, [some (.ref 238), some (.int ((nI i) + (nI 1)))], [])) (by decide +kernel) rfl ?_
    dsimp only
    rw [show (nI i) + (nI 1) = nI (i + 1) from nI_add _ _]
    refine am_Rq.blk (is := [(.goto (-31), 3)]) (q := (52, [some (.ref 238), some (.int (nI (i + 1)))], [])) (by decide +kernel) rfl ?_
    dsimp only
    refine ih _ _ ⟨rfl, ⟨_, (am_ss hO), fun k hk => ?_, fun q hq => ?_⟩, ((am_sn (by decide)).trans hM), ((am_sn (by decide)).trans hS), (hf0.set (Or.inr rfl) hO (by simp [am_ia_len]))⟩
    · by_cases e : k = i
      · rw [e, va_up_self]
      · rw [va_up_ne _ _ (by omega)]; exact hx k (by omega)
    · rw [va_up_ne _ _ (by omega)]; exact hy q (by omega)
  · rintro lo hp ⟨rfl, ⟨f1, hO, hx, hy⟩, hM, hS, hf0⟩
    refine am_Rq.blk (is := [(.iload_n 1, 1), (.sipush 160, 3)]) (q := (56, [some (.ref 238), some (.int (nI 160))], [.int (nI 160), .int (nI 160)])) (by decide +kernel) rfl ?_
    dsimp only
    refine am_Rq.if2T (t := 86) (show decode (am_by 94) 56 = .ok (.if_icmp .ge 30, 3) by decide +kernel) (by decide) (by rw [nm_ge (by omega) (by omega)]; exact decide_eq_true (by omega)) ?_
    refine am_Rq.blk (is := [(.aload_n 0, 1), (.dup, 1)]) (q := (88, [some (.ref 238), some (.int (nI 160))], [.ref 238, .ref 238])) (by decide +kernel) rfl ?_
    dsimp only
    refine am_Rq.getf (v := .int (nI kn)) (show decode (am_by 94) 88 = .ok (.getfield 32, 3) by decide +kernel) rfl hM rfl ?_
    refine am_Rq.blk (is := [(.iconst 1, 1), (.iadd, 1)]) (q := (93, [some (.ref 238), some (.int (nI 160))], [.int ((nI kn) + (nI 1)), .ref 238])) (by decide +kernel) rfl ?_
    dsimp only
    rw [show (nI kn) + (nI 1) = nI (kn + 1) from nI_add _ _]
    refine am_Rq.putf (show decode (am_by 94) 93 = .ok (.putfield 32, 3) by decide +kernel) rfl hM (Nat.le_of_ble_eq_true rfl) rfl (Or.inl rfl) (by omega) ?_
    have hc1_238 := am_ss (c' := (7, [.int (nI th), .ref 239, .ref 240, .int (nI (kn + 1)), .ref 241, .ref 242, .ref 243, .ref 244, .long (lN co), .ref 245])) hM
    have hc1_239 := (am_sn (c' := (7, [.int (nI th), .ref 239, .ref 240, .int (nI (kn + 1)), .ref 241, .ref 242, .ref 243, .ref 244, .long (lN co), .ref 245])) (show 238 ≠ 239 by omega)).trans hS
    have hc1_240 := (am_sn (c' := (7, [.int (nI th), .ref 239, .ref 240, .int (nI (kn + 1)), .ref 241, .ref 242, .ref 243, .ref 244, .long (lN co), .ref 245])) (show 238 ≠ 240 by omega)).trans hO
    have hf1 := (am_fr.rf (A := fun q => q = 238)).set (c' := (7, [.int (nI th), .ref 239, .ref 240, .int (nI (kn + 1)), .ref 241, .ref 242, .ref 243, .ref 244, .long (lN co), .ref 245])) rfl hM rfl
    refine am_Rq.ret (v := none) (show decode (am_by 94) 96 = .ok (.return_, 1) by decide +kernel) rfl rfl ?_
    refine ⟨_, rfl, rfl, hc1_238, ⟨f1, hc1_240, hx, hy⟩, hf0.trans (hf1.mono (fun x q => Or.inl q))⟩
theorem m_remember {th kn co : Nat} (hM : hp[238]? = some (7, [.int (nI th), .ref 239, .ref 240, .int (nI kn), .ref 241, .ref 242, .ref 243, .ref 244, .long (lN co), .ref 245])) {s : Nat → Nat} (hS : hp[239]? = some (100, am_ia (fun i => nI (s i)) 160)) {f : Nat → Int32} (hO : hp[240]? = some (100, am_ia f 1280)) (hk : kn ≤ 8) : am_Rq d 94 0 (am_en [.ref 238] 2) [] hp (am_Ret fun hp1 v => v = none ∧ hp1[238]? = some (7, m_ob th (m_kn kn + 1) co) ∧ (∃ f1 : Nat → Int32, hp1[240]? = some (100, am_ia f1 1280) ∧ (∀ k, k < 160 → f1 (160 * m_kn kn + k) = nI (s k)) ∧ ∀ q, q < 160 * m_kn kn → f1 q = if kn = 8 then f (q + 160) else f q) ∧ am_fr (fun x => x = 238 ∨ x = 240) hp hp1) := by
  show am_Rq _ 94 0 [some (.ref 238), none] [] _ _
  refine am_Rq.blk (is := [(.aload_n 0, 1)]) (q := (1, [some (.ref 238), none], [.ref 238])) (by decide +kernel) rfl ?_
  dsimp only
  refine am_Rq.getf (v := .int (nI kn)) (show decode (am_by 94) 1 = .ok (.getfield 32, 3) by decide +kernel) rfl hM rfl ?_
  refine am_Rq.blk (is := [(.bipush 8, 2)]) (q := (6, [some (.ref 238), none], [.int (nI 8), .int (nI kn)])) (by decide +kernel) rfl ?_
  dsimp only
  refine am_Rq.if2 (t := 50) (show decode (am_by 94) 6 = .ok (.if_icmp .ne 44, 3) by decide +kernel) (by decide) (fun he => ?_) (fun he => ?_)
  ·
    rw [nm_ne (by omega) (by omega)] at he
    have he := of_decide_eq_true he
    refine (m_rem2 hM hS hO (by omega)).mono (fun hp1 o q => ?_)
    obtain ⟨v, q0, q1, q2, ⟨f1, q3, q4, q5⟩, q6⟩ := q
    have e : m_kn kn = kn := by unfold m_kn; rw [if_neg he]
    refine ⟨v, q0, q1, by rw [e]; exact q2, ⟨f1, q3, by rw [e]; exact q4, fun q hq => ?_⟩, q6⟩
    rw [if_neg he, q5 q (Or.inl (by omega))]
  ·
    rw [nm_ne (by omega) (by omega)] at he
    have he := of_decide_eq_false he
    have he : kn = 8 := by omega
    subst he
    refine am_Rq.blk (is := [(.iconst 0, 1), (.istore_n 1, 1)]) (q := (11, [some (.ref 238), some (.int (nI 0))], [])) (by decide +kernel) rfl ?_
    dsimp only
    have key : ∀ hz, hz = hp → am_Rq d 94 11 [some (.ref 238), some (.int (nI 0))] [] hz (am_Ret fun hp1 v => v = none ∧ hp1[238]? = some (7, m_ob th (m_kn 8 + 1) co) ∧ (∃ f1 : Nat → Int32, hp1[240]? = some (100, am_ia f1 1280) ∧ (∀ k, k < 160 → f1 (160 * m_kn 8 + k) = nI (s k)) ∧ ∀ q, q < 160 * m_kn 8 → f1 q = if 8 = 8 then f (q + 160) else f q) ∧ am_fr (fun x => x = 238 ∨ x = 240) hp hp1) := ?_
    · exact key hp rfl
    intro hz hze
    subst hze
    refine am_for (n := 1120) (fun i lo hp => lo = [some (.ref 238), some (.int (nI i))] ∧ (∃ f1 : Nat → Int32, hp[240]? = some (100, am_ia f1 1280) ∧ (∀ k, k < i → f1 k = f (k + 160)) ∧ ∀ q, i ≤ q → f1 q = f q) ∧ hp[238]? = some (7, [.int (nI th), .ref 239, .ref 240, .int (nI 8), .ref 241, .ref 242, .ref 243, .ref 244, .long (lN co), .ref 245]) ∧ hp[239]? = some (100, am_ia (fun i => nI (s i)) 160) ∧ am_fr (fun x => x = 238 ∨ x = 240) hz hp) ?_ ?_ (i := 0) (by omega) ⟨rfl, ⟨f, hO, fun k hk => by omega, fun q _ => rfl⟩, hM, hS, am_fr.rf⟩
    · rintro i lo hp hi ⟨rfl, ⟨f1, hO, hx, hy⟩, hM, hS, hf0⟩ ih
      refine am_Rq.blk (is := [(.iload_n 1, 1), (.sipush 1120, 3)]) (q := (15, [some (.ref 238), some (.int (nI i))], [.int (nI 1120), .int (nI i)])) (by decide +kernel) rfl ?_
      dsimp only
      refine am_Rq.if2F (show decode (am_by 94) 15 = .ok (.if_icmp .ge 25, 3) by decide +kernel) (by decide) (by rw [nm_ge (by omega) (by omega)]; exact decide_eq_false (by omega)) ?_
      refine am_Rq.blk (is := [(.aload_n 0, 1)]) (q := (19, [some (.ref 238), some (.int (nI i))], [.ref 238])) (by decide +kernel) rfl ?_
      dsimp only
      refine am_Rq.getf (v := .ref 240) (show decode (am_by 94) 19 = .ok (.getfield 13, 3) by decide +kernel) rfl hM rfl ?_
      refine am_Rq.blk (is := [(.iload_n 1, 1), (.aload_n 0, 1)]) (q := (24, [some (.ref 238), some (.int (nI i))], [.ref 238, .int (nI i), .ref 240])) (by decide +kernel) rfl ?_
      dsimp only
      refine am_Rq.getf (v := .ref 240) (show decode (am_by 94) 24 = .ok (.getfield 13, 3) by decide +kernel) rfl hM rfl ?_
      refine am_Rq.blk (is := [(.iload_n 1, 1), (.sipush 160, 3), (.iadd, 1)]) (q := (32, [some (.ref 238), some (.int (nI i))], [.int ((nI i) + (nI 160)), .ref 240, .int (nI i), .ref 240])) (by decide +kernel) rfl ?_
      dsimp only
      rw [show (nI i) + (nI 160) = nI (i + 160) from nI_add _ _]
      refine am_Rq.ial (k := i + 160) (show decode (am_by 94) 32 = .ok (.iaload, 1) by decide +kernel) hO (by omega) (by omega) ?_
      refine am_Rq.ias (k := i) (x := f1 (i + 160)) (show decode (am_by 94) 33 = .ok (.iastore, 1) by decide +kernel) hO (by omega) (by omega) (by omega) ?_
      refine am_Rq.blk (is := [(.iinc 1 1, 3)]) (q := (37, [some (.ref 238), some (.int ((nI i) + (nI 1)))], [])) (by decide +kernel) rfl ?_
      dsimp only
      rw [show (nI i) + (nI 1) = nI (i + 1) from nI_add _ _]
      refine am_Rq.blk (is := [(.goto (-26), 3)]) (q := (11, [some (.ref 238), some (.int (nI (i + 1)))], [])) (by decide +kernel) rfl ?_
      dsimp only
      refine ih _ _ ⟨rfl, ⟨_, (am_ss hO), fun k hk => ?_, fun q hq => ?_⟩, ((am_sn (by decide)).trans hM), ((am_sn (by decide)).trans hS), (hf0.set (Or.inr rfl) hO (by simp [am_ia_len]))⟩
      · by_cases e : k = i
        · rw [e, va_up_self]; exact hy (i + 160) (by omega)
        · rw [va_up_ne _ _ e]; exact hx k (by omega)
      · rw [va_up_ne _ _ (by omega)]; exact hy q (by omega)
    · rintro lo hp ⟨rfl, ⟨f1, hO, hx, hy⟩, hM, hS, hf0⟩
      refine am_Rq.blk (is := [(.iload_n 1, 1), (.sipush 1120, 3)]) (q := (15, [some (.ref 238), some (.int (nI 1120))], [.int (nI 1120), .int (nI 1120)])) (by decide +kernel) rfl ?_
      dsimp only
      refine am_Rq.if2T (t := 40) (show decode (am_by 94) 15 = .ok (.if_icmp .ge 25, 3) by decide +kernel) (by decide) (by rw [nm_ge (by omega) (by omega)]; exact decide_eq_true (by omega)) ?_
      refine am_Rq.blk (is := [(.aload_n 0, 1), (.dup, 1)]) (q := (42, [some (.ref 238), some (.int (nI 1120))], [.ref 238, .ref 238])) (by decide +kernel) rfl ?_
      dsimp only
      refine am_Rq.getf (v := .int (nI 8)) (show decode (am_by 94) 42 = .ok (.getfield 32, 3) by decide +kernel) rfl hM rfl ?_
      refine am_Rq.blk (is := [(.iconst 1, 1), (.isub, 1)]) (q := (47, [some (.ref 238), some (.int (nI 1120))], [.int ((nI 8) - (nI 1)), .ref 238])) (by decide +kernel) rfl ?_
      dsimp only
      rw [show (nI 8) - (nI 1) = nI (8 - 1) from nm_isub (by omega)]
      refine am_Rq.putf (show decode (am_by 94) 47 = .ok (.putfield 32, 3) by decide +kernel) rfl hM (Nat.le_of_ble_eq_true rfl) rfl (Or.inl rfl) (by omega) ?_
      have hc1_238 := am_ss (c' := (7, [.int (nI th), .ref 239, .ref 240, .int (nI (8 - 1)), .ref 241, .ref 242, .ref 243, .ref 244, .long (lN co), .ref 245])) hM
      have hc1_239 := (am_sn (c' := (7, [.int (nI th), .ref 239, .ref 240, .int (nI (8 - 1)), .ref 241, .ref 242, .ref 243, .ref 244, .long (lN co), .ref 245])) (show 238 ≠ 239 by omega)).trans hS
      have hc1_240 := (am_sn (c' := (7, [.int (nI th), .ref 239, .ref 240, .int (nI (8 - 1)), .ref 241, .ref 242, .ref 243, .ref 244, .long (lN co), .ref 245])) (show 238 ≠ 240 by omega)).trans hO
      have hf1 := (am_fr.rf (A := fun q => q = 238)).set (c' := (7, [.int (nI th), .ref 239, .ref 240, .int (nI (8 - 1)), .ref 241, .ref 242, .ref 243, .ref 244, .long (lN co), .ref 245])) rfl hM rfl
      refine (m_rem2 (kn := 7) hc1_238 hc1_239 hc1_240 (by omega)).mono (fun hp1 o q => ?_)
      obtain ⟨v, q0, q1, q2, ⟨f2, q3, q4, q5⟩, q6⟩ := q
      refine ⟨v, q0, q1, q2, ⟨f2, q3, q4, fun q hq => ?_⟩, (hf0.trans (hf1.mono (fun x q => Or.inl q))).trans q6⟩
      have hq' : q < 1120 := hq
      rw [if_pos rfl, q5 q (Or.inl (by omega)), hx q hq']
end M3
