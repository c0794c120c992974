/-! The class: copies, grants (rows by prog/c3.py). -/
theorem am_bool {n : Nat} (h : n ≤ 1) : am_fv (am_ft 2 6) (.int (nI n)) = true := by
  have : n = 0 ∨ n = 1 := by omega
  rcases this with rfl | rfl <;> rfl
section C3
variable {d : Nat} {hp : am_H}
theorem c_scCopy {b c : Nat} {t : Nat → Nat} (h : Led hp b t) (hc : c < 5) {b2 : Nat} {t2 : Nat → Nat} (h2 : Led hp b2 t2) (hdis : b + 23 ≤ b2 ∨ b2 + 23 ≤ b) : am_Rq d 18 0 (am_en [.ref (b + 2 + 2 * c), .ref (b2 + 2 + 2 * c)] 2) [] hp (am_Ret fun hp1 v => v = none ∧ Led hp1 b (c_mix (c_row c) t t2) ∧ am_fr (c_in b) hp hp1) := by
  show am_Rq _ 18 0 [some (.ref (b + 2 + 2 * c)), some (.ref (b2 + 2 + 2 * c))] [] _ _
  refine am_Rq.blk (is := [(.aload_n 0, 1), (.aload_n 1, 1)]) (q := (2, [some (.ref (b + 2 + 2 * c)), some (.ref (b2 + 2 + 2 * c))], [.ref (b2 + 2 + 2 * c), .ref (b + 2 + 2 * c)])) (by decide +kernel) rfl ?_
  dsimp only
  refine am_Rq.getf (v := .int (nI (t2 (8 * c)))) (show decode (am_by 18) 2 = .ok (.getfield 9, 3) by decide +kernel) rfl (Led.sc h2 (by omega)) rfl ?_
  refine Led.pSc (c := c) (k := 0) (v := t2 (8 * c)) h (by omega) (show decode (am_by 18) 5 = .ok (.putfield 9, 3) by decide +kernel) rfl (by decide) (by first | rfl | exact rfl) rfl ?_
  intro hp1 hL1 hf1
  have hL1y := Led.kept h2 (fun a ha => hf1.2.2 a (fun q => by obtain ⟨_, _⟩ := q; obtain ⟨_, _⟩ := ha; omega))
  refine am_Rq.blk (is := [(.aload_n 0, 1), (.aload_n 1, 1)]) (q := (10, [some (.ref (b + 2 + 2 * c)), some (.ref (b2 + 2 + 2 * c))], [.ref (b2 + 2 + 2 * c), .ref (b + 2 + 2 * c)])) (by decide +kernel) rfl ?_
  dsimp only
  refine am_Rq.getf (v := .int (nI (t2 (8 * c + 1)))) (show decode (am_by 18) 10 = .ok (.getfield 22, 3) by decide +kernel) rfl (Led.sc hL1y (by omega)) rfl ?_
  refine Led.pSc (c := c) (k := 1) (v := t2 (8 * c + 1)) hL1 (by omega) (show decode (am_by 18) 13 = .ok (.putfield 22, 3) by decide +kernel) rfl (by decide) (by first | rfl | exact rfl) rfl ?_
  intro hp2 hL2 hf2
  have hL2y := Led.kept hL1y (fun a ha => hf2.2.2 a (fun q => by obtain ⟨_, _⟩ := q; obtain ⟨_, _⟩ := ha; omega))
  refine am_Rq.blk (is := [(.aload_n 0, 1), (.aload_n 1, 1)]) (q := (18, [some (.ref (b + 2 + 2 * c)), some (.ref (b2 + 2 + 2 * c))], [.ref (b2 + 2 + 2 * c), .ref (b + 2 + 2 * c)])) (by decide +kernel) rfl ?_
  dsimp only
  refine am_Rq.getf (v := .int (nI (t2 (8 * c + 2)))) (show decode (am_by 18) 18 = .ok (.getfield 25, 3) by decide +kernel) rfl (Led.sc hL2y (by omega)) rfl ?_
  refine Led.pSc (c := c) (k := 2) (v := t2 (8 * c + 2)) hL2 (by omega) (show decode (am_by 18) 21 = .ok (.putfield 25, 3) by decide +kernel) rfl (by decide) (by first | rfl | exact rfl) rfl ?_
  intro hp3 hL3 hf3
  have hL3y := Led.kept hL2y (fun a ha => hf3.2.2 a (fun q => by obtain ⟨_, _⟩ := q; obtain ⟨_, _⟩ := ha; omega))
  refine am_Rq.blk (is := [(.aload_n 0, 1), (.aload_n 1, 1)]) (q := (26, [some (.ref (b + 2 + 2 * c)), some (.ref (b2 + 2 + 2 * c))], [.ref (b2 + 2 + 2 * c), .ref (b + 2 + 2 * c)])) (by decide +kernel) rfl ?_
  dsimp only
  refine am_Rq.getf (v := .int (nI (t2 (8 * c + 3)))) (show decode (am_by 18) 26 = .ok (.getfield 28, 3) by decide +kernel) rfl (Led.sc hL3y (by omega)) rfl ?_
  refine Led.pSc (c := c) (k := 3) (v := t2 (8 * c + 3)) hL3 (by omega) (show decode (am_by 18) 29 = .ok (.putfield 28, 3) by decide +kernel) rfl (by decide) (by first | rfl | exact rfl) rfl ?_
  intro hp4 hL4 hf4
  have hL4y := Led.kept hL3y (fun a ha => hf4.2.2 a (fun q => by obtain ⟨_, _⟩ := q; obtain ⟨_, _⟩ := ha; omega))
  refine am_Rq.blk (is := [(.aload_n 0, 1), (.aload_n 1, 1)]) (q := (34, [some (.ref (b + 2 + 2 * c)), some (.ref (b2 + 2 + 2 * c))], [.ref (b2 + 2 + 2 * c), .ref (b + 2 + 2 * c)])) (by decide +kernel) rfl ?_
  dsimp only
  refine am_Rq.getf (v := .int (nI (t2 (8 * c + 4)))) (show decode (am_by 18) 34 = .ok (.getfield 31, 3) by decide +kernel) rfl (Led.sc hL4y (by omega)) rfl ?_
  refine Led.pSc (c := c) (k := 4) (v := t2 (8 * c + 4)) hL4 (by omega) (show decode (am_by 18) 37 = .ok (.putfield 31, 3) by decide +kernel) rfl (by decide) (by first | rfl | exact rfl) rfl ?_
  intro hp5 hL5 hf5
  have hL5y := Led.kept hL4y (fun a ha => hf5.2.2 a (fun q => by obtain ⟨_, _⟩ := q; obtain ⟨_, _⟩ := ha; omega))
  refine am_Rq.blk (is := [(.aload_n 0, 1), (.aload_n 1, 1)]) (q := (42, [some (.ref (b + 2 + 2 * c)), some (.ref (b2 + 2 + 2 * c))], [.ref (b2 + 2 + 2 * c), .ref (b + 2 + 2 * c)])) (by decide +kernel) rfl ?_
  dsimp only
  refine am_Rq.getf (v := .int (nI (t2 (8 * c + 5)))) (show decode (am_by 18) 42 = .ok (.getfield 34, 3) by decide +kernel) rfl (Led.sc hL5y (by omega)) rfl ?_
  refine Led.pSc (c := c) (k := 5) (v := t2 (8 * c + 5)) hL5 (by omega) (show decode (am_by 18) 45 = .ok (.putfield 34, 3) by decide +kernel) rfl (by decide) (by first | rfl | exact rfl) rfl ?_
  intro hp6 hL6 hf6
  have hL6y := Led.kept hL5y (fun a ha => hf6.2.2 a (fun q => by obtain ⟨_, _⟩ := q; obtain ⟨_, _⟩ := ha; omega))
  refine am_Rq.blk (is := [(.aload_n 0, 1), (.aload_n 1, 1)]) (q := (50, [some (.ref (b + 2 + 2 * c)), some (.ref (b2 + 2 + 2 * c))], [.ref (b2 + 2 + 2 * c), .ref (b + 2 + 2 * c)])) (by decide +kernel) rfl ?_
  dsimp only
  refine am_Rq.getf (v := .int (nI (t2 (8 * c + 6)))) (show decode (am_by 18) 50 = .ok (.getfield 15, 3) by decide +kernel) rfl (Led.sc hL6y (by omega)) rfl ?_
  refine Led.pSc (c := c) (k := 6) (v := t2 (8 * c + 6)) hL6 (by omega) (show decode (am_by 18) 53 = .ok (.putfield 15, 3) by decide +kernel) rfl (by decide) (by first | rfl | exact rfl) rfl ?_
  intro hp7 hL7 hf7
  have hL7y := Led.kept hL6y (fun a ha => hf7.2.2 a (fun q => by obtain ⟨_, _⟩ := q; obtain ⟨_, _⟩ := ha; omega))
  refine am_Rq.blk (is := [(.aload_n 0, 1), (.aload_n 1, 1)]) (q := (58, [some (.ref (b + 2 + 2 * c)), some (.ref (b2 + 2 + 2 * c))], [.ref (b2 + 2 + 2 * c), .ref (b + 2 + 2 * c)])) (by decide +kernel) rfl ?_
  dsimp only
  refine am_Rq.getf (v := .int (nI (t2 (8 * c + 7)))) (show decode (am_by 18) 58 = .ok (.getfield 37, 3) by decide +kernel) rfl (Led.sc hL7y (by omega)) rfl ?_
  refine Led.pSc (c := c) (k := 7) (v := t2 (8 * c + 7)) hL7 (by omega) (show decode (am_by 18) 61 = .ok (.putfield 37, 3) by decide +kernel) rfl (by decide) (by first | rfl | exact rfl) rfl ?_
  intro hp8 hL8 hf8
  have hL8y := Led.kept hL7y (fun a ha => hf8.2.2 a (fun q => by obtain ⟨_, _⟩ := q; obtain ⟨_, _⟩ := ha; omega))
  refine am_Rq.blk (is := [(.aload_n 1, 1)]) (q := (65, [some (.ref (b + 2 + 2 * c)), some (.ref (b2 + 2 + 2 * c))], [.ref (b2 + 2 + 2 * c)])) (by decide +kernel) rfl ?_
  dsimp only
  refine am_Rq.getf (v := .ref (b2 + 3 + 2 * c)) (show decode (am_by 18) 65 = .ok (.getfield 18, 3) by decide +kernel) rfl (Led.sc hL8y (by omega)) rfl ?_
  refine am_Rq.blk (is := [(.iconst 0, 1), (.aload_n 0, 1)]) (q := (70, [some (.ref (b + 2 + 2 * c)), some (.ref (b2 + 2 + 2 * c))], [.ref (b + 2 + 2 * c), .int (nI 0), .ref (b2 + 3 + 2 * c)])) (by decide +kernel) rfl ?_
  dsimp only
  refine am_Rq.getf (v := .ref (b + 3 + 2 * c)) (show decode (am_by 18) 70 = .ok (.getfield 18, 3) by decide +kernel) rfl (Led.sc hL8 (by omega)) rfl ?_
  refine am_Rq.blk (is := [(.iconst 0, 1), (.bipush 8, 2)]) (q := (76, [some (.ref (b + 2 + 2 * c)), some (.ref (b2 + 2 + 2 * c))], [.int (nI 8), .int (nI 0), .ref (b + 3 + 2 * c), .int (nI 0), .ref (b2 + 3 + 2 * c)])) (by decide +kernel) rfl ?_
  dsimp only
  refine Led.cpHd (c := c) hL8 hL8y hc (show decode (am_by 18) 76 = .ok (.invokestatic 40, 3) by decide +kernel) rfl rfl (Nat.le_of_ble_eq_true rfl) ?_
  intro hp9 hL9 hf9
  refine am_Rq.ret (v := none) (show decode (am_by 18) 79 = .ok (.return_, 1) by decide +kernel) rfl rfl ?_
  refine ⟨_, rfl, rfl, hL9.congr (fun i hi => ?_), ((((((((hf1.trans hf2).trans hf3).trans hf4).trans hf5).trans hf6).trans hf7).trans hf8).trans hf9)⟩
  by_cases e1 : 40 + 8 * c ≤ i ∧ i < 48 + 8 * c
  · rw [c_mix_t (c_hrow_iff.mpr e1), c_mix_t (c_row_iff.mpr (Or.inr e1))]
  · rw [c_mix_f (fun q => e1 (c_hrow_iff.mp q))]
    by_cases e2 : 8 * c ≤ i ∧ i < 8 * c + 8
    · rw [c_mix_t (c_row_iff.mpr (Or.inl e2))]
      unfold va_up
      repeat (split; (· subst_vars; rfl))
      omega
    · rw [c_mix_f (fun q => by rcases c_row_iff.mp q with z | z; exact e2 z; exact e1 z)]
      unfold va_up
      repeat (split; (· omega))
      rfl
theorem c_start {b g : Nat} {t : Nat → Nat} (h : Led hp b t) (hg : g < 10) {p0 p1 p2 p3 p4 : Nat} : am_Rq d 39 0 (am_en [.ref (b + 13 + 1 * g), .int (nI p0), .int (nI p1), .int (nI p2), .int (nI p3), .int (nI p4)] 6) [] hp (am_Ret fun hp1 v => v = none ∧ Led hp1 b (va_up (va_up (va_up (va_up (va_up (va_up (va_up t (83 + 7 * g + 0) p0) (83 + 7 * g + 1) p1) (83 + 7 * g + 4) p2) (83 + 7 * g + 2) p3) (83 + 7 * g + 3) p4) (83 + 7 * g + 6) 0) (83 + 7 * g + 5) 0) ∧ am_fr (c_in b) hp hp1) := by
  show am_Rq _ 39 0 [some (.ref (b + 13 + 1 * g)), some (.int (nI p0)), some (.int (nI p1)), some (.int (nI p2)), some (.int (nI p3)), some (.int (nI p4))] [] _ _
  refine am_Rq.blk (is := [(.aload_n 0, 1), (.iload_n 1, 1)]) (q := (2, [some (.ref (b + 13 + 1 * g)), some (.int (nI p0)), some (.int (nI p1)), some (.int (nI p2)), some (.int (nI p3)), some (.int (nI p4))], [.int (nI p0), .ref (b + 13 + 1 * g)])) (by decide +kernel) rfl ?_
  dsimp only
  refine Led.pGr (g := g) (k := 0) (p := 0) (v := p0) h (by omega) (show decode (am_by 39) 2 = .ok (.putfield 7, 3) by decide +kernel) rfl (by decide) (by first | rfl | exact rfl) rfl ?_
  intro hp1 hL1 hf1
  refine am_Rq.blk (is := [(.aload_n 0, 1), (.iload_n 2, 1)]) (q := (7, [some (.ref (b + 13 + 1 * g)), some (.int (nI p0)), some (.int (nI p1)), some (.int (nI p2)), some (.int (nI p3)), some (.int (nI p4))], [.int (nI p1), .ref (b + 13 + 1 * g)])) (by decide +kernel) rfl ?_
  dsimp only
  refine Led.pGr (g := g) (k := 1) (p := 1) (v := p1) hL1 (by omega) (show decode (am_by 39) 7 = .ok (.putfield 13, 3) by decide +kernel) rfl (by decide) (by first | rfl | exact rfl) rfl ?_
  intro hp2 hL2 hf2
  refine am_Rq.blk (is := [(.aload_n 0, 1), (.iload_n 3, 1)]) (q := (12, [some (.ref (b + 13 + 1 * g)), some (.int (nI p0)), some (.int (nI p1)), some (.int (nI p2)), some (.int (nI p3)), some (.int (nI p4))], [.int (nI p2), .ref (b + 13 + 1 * g)])) (by decide +kernel) rfl ?_
  dsimp only
  refine Led.pGr (g := g) (k := 2) (p := 4) (v := p2) hL2 (by omega) (show decode (am_by 39) 12 = .ok (.putfield 16, 3) by decide +kernel) rfl (by decide) (by first | rfl | exact rfl) rfl ?_
  intro hp3 hL3 hf3
  refine am_Rq.blk (is := [(.aload_n 0, 1), (.iload 4, 2)]) (q := (18, [some (.ref (b + 13 + 1 * g)), some (.int (nI p0)), some (.int (nI p1)), some (.int (nI p2)), some (.int (nI p3)), some (.int (nI p4))], [.int (nI p3), .ref (b + 13 + 1 * g)])) (by decide +kernel) rfl ?_
  dsimp only
  refine Led.pGr (g := g) (k := 3) (p := 2) (v := p3) hL3 (by omega) (show decode (am_by 39) 18 = .ok (.putfield 19, 3) by decide +kernel) rfl (by decide) (by first | rfl | exact rfl) rfl ?_
  intro hp4 hL4 hf4
  refine am_Rq.blk (is := [(.aload_n 0, 1), (.iload 5, 2)]) (q := (24, [some (.ref (b + 13 + 1 * g)), some (.int (nI p0)), some (.int (nI p1)), some (.int (nI p2)), some (.int (nI p3)), some (.int (nI p4))], [.int (nI p4), .ref (b + 13 + 1 * g)])) (by decide +kernel) rfl ?_
  dsimp only
  refine Led.pGr (g := g) (k := 4) (p := 3) (v := p4) hL4 (by omega) (show decode (am_by 39) 24 = .ok (.putfield 22, 3) by decide +kernel) rfl (by decide) (by first | rfl | exact rfl) rfl ?_
  intro hp5 hL5 hf5
  refine am_Rq.blk (is := [(.aload_n 0, 1), (.iconst 0, 1)]) (q := (29, [some (.ref (b + 13 + 1 * g)), some (.int (nI p0)), some (.int (nI p1)), some (.int (nI p2)), some (.int (nI p3)), some (.int (nI p4))], [.int (nI 0), .ref (b + 13 + 1 * g)])) (by decide +kernel) rfl ?_
  dsimp only
  refine Led.pGr (g := g) (k := 5) (p := 6) (v := 0) hL5 (by omega) (show decode (am_by 39) 29 = .ok (.putfield 25, 3) by decide +kernel) rfl (by decide) (by first | rfl | exact rfl) rfl ?_
  intro hp6 hL6 hf6
  refine am_Rq.blk (is := [(.aload_n 0, 1), (.iconst 0, 1)]) (q := (34, [some (.ref (b + 13 + 1 * g)), some (.int (nI p0)), some (.int (nI p1)), some (.int (nI p2)), some (.int (nI p3)), some (.int (nI p4))], [.int (nI 0), .ref (b + 13 + 1 * g)])) (by decide +kernel) rfl ?_
  dsimp only
  refine Led.pGr (g := g) (k := 6) (p := 5) (v := 0) hL6 (by omega) (show decode (am_by 39) 34 = .ok (.putfield 28, 3) by decide +kernel) rfl (by decide) (by first | rfl | exact rfl) rfl ?_
  intro hp7 hL7 hf7
  refine am_Rq.ret (v := none) (show decode (am_by 39) 37 = .ok (.return_, 1) by decide +kernel) rfl rfl ?_
  exact ⟨_, rfl, rfl, hL7, ((((((hf1.trans hf2).trans hf3).trans hf4).trans hf5).trans hf6).trans hf7)⟩
theorem c_grCopy {b g : Nat} {t : Nat → Nat} (h : Led hp b t) (hg : g < 10) {b2 : Nat} {t2 : Nat → Nat} (h2 : Led hp b2 t2) (hdis : b + 23 ≤ b2 ∨ b2 + 23 ≤ b) (he : t2 (83 + 7 * g + 5) ≤ 1) : am_Rq d 19 0 (am_en [.ref (b + 13 + 1 * g), .ref (b2 + 13 + 1 * g)] 2) [] hp (am_Ret fun hp1 v => v = none ∧ Led hp1 b (c_mix (c_grow g) t t2) ∧ am_fr (c_in b) hp hp1) := by
  show am_Rq _ 19 0 [some (.ref (b + 13 + 1 * g)), some (.ref (b2 + 13 + 1 * g))] [] _ _
  refine am_Rq.blk (is := [(.aload_n 0, 1), (.aload_n 1, 1)]) (q := (2, [some (.ref (b + 13 + 1 * g)), some (.ref (b2 + 13 + 1 * g))], [.ref (b2 + 13 + 1 * g), .ref (b + 13 + 1 * g)])) (by decide +kernel) rfl ?_
  dsimp only
  refine am_Rq.getf (v := .int (nI (t2 (83 + 7 * g)))) (show decode (am_by 19) 2 = .ok (.getfield 7, 3) by decide +kernel) rfl (Led.gr h2 (by omega)) rfl ?_
  refine Led.pGr (g := g) (k := 0) (p := 0) (v := t2 (83 + 7 * g)) h (by omega) (show decode (am_by 19) 5 = .ok (.putfield 7, 3) by decide +kernel) rfl (by decide) (by first | rfl | exact am_bool he) rfl ?_
  intro hp1 hL1 hf1
  have hL1y := Led.kept h2 (fun a ha => hf1.2.2 a (fun q => by obtain ⟨_, _⟩ := q; obtain ⟨_, _⟩ := ha; omega))
  refine am_Rq.blk (is := [(.aload_n 0, 1), (.aload_n 1, 1)]) (q := (10, [some (.ref (b + 13 + 1 * g)), some (.ref (b2 + 13 + 1 * g))], [.ref (b2 + 13 + 1 * g), .ref (b + 13 + 1 * g)])) (by decide +kernel) rfl ?_
  dsimp only
  refine am_Rq.getf (v := .int (nI (t2 (83 + 7 * g + 1)))) (show decode (am_by 19) 10 = .ok (.getfield 13, 3) by decide +kernel) rfl (Led.gr hL1y (by omega)) rfl ?_
  refine Led.pGr (g := g) (k := 1) (p := 1) (v := t2 (83 + 7 * g + 1)) hL1 (by omega) (show decode (am_by 19) 13 = .ok (.putfield 13, 3) by decide +kernel) rfl (by decide) (by first | rfl | exact am_bool he) rfl ?_
  intro hp2 hL2 hf2
  have hL2y := Led.kept hL1y (fun a ha => hf2.2.2 a (fun q => by obtain ⟨_, _⟩ := q; obtain ⟨_, _⟩ := ha; omega))
  refine am_Rq.blk (is := [(.aload_n 0, 1), (.aload_n 1, 1)]) (q := (18, [some (.ref (b + 13 + 1 * g)), some (.ref (b2 + 13 + 1 * g))], [.ref (b2 + 13 + 1 * g), .ref (b + 13 + 1 * g)])) (by decide +kernel) rfl ?_
  dsimp only
  refine am_Rq.getf (v := .int (nI (t2 (83 + 7 * g + 4)))) (show decode (am_by 19) 18 = .ok (.getfield 16, 3) by decide +kernel) rfl (Led.gr hL2y (by omega)) rfl ?_
  refine Led.pGr (g := g) (k := 2) (p := 4) (v := t2 (83 + 7 * g + 4)) hL2 (by omega) (show decode (am_by 19) 21 = .ok (.putfield 16, 3) by decide +kernel) rfl (by decide) (by first | rfl | exact am_bool he) rfl ?_
  intro hp3 hL3 hf3
  have hL3y := Led.kept hL2y (fun a ha => hf3.2.2 a (fun q => by obtain ⟨_, _⟩ := q; obtain ⟨_, _⟩ := ha; omega))
  refine am_Rq.blk (is := [(.aload_n 0, 1), (.aload_n 1, 1)]) (q := (26, [some (.ref (b + 13 + 1 * g)), some (.ref (b2 + 13 + 1 * g))], [.ref (b2 + 13 + 1 * g), .ref (b + 13 + 1 * g)])) (by decide +kernel) rfl ?_
  dsimp only
  refine am_Rq.getf (v := .int (nI (t2 (83 + 7 * g + 2)))) (show decode (am_by 19) 26 = .ok (.getfield 19, 3) by decide +kernel) rfl (Led.gr hL3y (by omega)) rfl ?_
  refine Led.pGr (g := g) (k := 3) (p := 2) (v := t2 (83 + 7 * g + 2)) hL3 (by omega) (show decode (am_by 19) 29 = .ok (.putfield 19, 3) by decide +kernel) rfl (by decide) (by first | rfl | exact am_bool he) rfl ?_
  intro hp4 hL4 hf4
  have hL4y := Led.kept hL3y (fun a ha => hf4.2.2 a (fun q => by obtain ⟨_, _⟩ := q; obtain ⟨_, _⟩ := ha; omega))
  refine am_Rq.blk (is := [(.aload_n 0, 1), (.aload_n 1, 1)]) (q := (34, [some (.ref (b + 13 + 1 * g)), some (.ref (b2 + 13 + 1 * g))], [.ref (b2 + 13 + 1 * g), .ref (b + 13 + 1 * g)])) (by decide +kernel) rfl ?_
  dsimp only
  refine am_Rq.getf (v := .int (nI (t2 (83 + 7 * g + 3)))) (show decode (am_by 19) 34 = .ok (.getfield 22, 3) by decide +kernel) rfl (Led.gr hL4y (by omega)) rfl ?_
  refine Led.pGr (g := g) (k := 4) (p := 3) (v := t2 (83 + 7 * g + 3)) hL4 (by omega) (show decode (am_by 19) 37 = .ok (.putfield 22, 3) by decide +kernel) rfl (by decide) (by first | rfl | exact am_bool he) rfl ?_
  intro hp5 hL5 hf5
  have hL5y := Led.kept hL4y (fun a ha => hf5.2.2 a (fun q => by obtain ⟨_, _⟩ := q; obtain ⟨_, _⟩ := ha; omega))
  refine am_Rq.blk (is := [(.aload_n 0, 1), (.aload_n 1, 1)]) (q := (42, [some (.ref (b + 13 + 1 * g)), some (.ref (b2 + 13 + 1 * g))], [.ref (b2 + 13 + 1 * g), .ref (b + 13 + 1 * g)])) (by decide +kernel) rfl ?_
  dsimp only
  refine am_Rq.getf (v := .int (nI (t2 (83 + 7 * g + 6)))) (show decode (am_by 19) 42 = .ok (.getfield 25, 3) by decide +kernel) rfl (Led.gr hL5y (by omega)) rfl ?_
  refine Led.pGr (g := g) (k := 5) (p := 6) (v := t2 (83 + 7 * g + 6)) hL5 (by omega) (show decode (am_by 19) 45 = .ok (.putfield 25, 3) by decide +kernel) rfl (by decide) (by first | rfl | exact am_bool he) rfl ?_
  intro hp6 hL6 hf6
  have hL6y := Led.kept hL5y (fun a ha => hf6.2.2 a (fun q => by obtain ⟨_, _⟩ := q; obtain ⟨_, _⟩ := ha; omega))
  refine am_Rq.blk (is := [(.aload_n 0, 1), (.aload_n 1, 1)]) (q := (50, [some (.ref (b + 13 + 1 * g)), some (.ref (b2 + 13 + 1 * g))], [.ref (b2 + 13 + 1 * g), .ref (b + 13 + 1 * g)])) (by decide +kernel) rfl ?_
  dsimp only
  refine am_Rq.getf (v := .int (nI (t2 (83 + 7 * g + 5)))) (show decode (am_by 19) 50 = .ok (.getfield 28, 3) by decide +kernel) rfl (Led.gr hL6y (by omega)) rfl ?_
  refine Led.pGr (g := g) (k := 6) (p := 5) (v := t2 (83 + 7 * g + 5)) hL6 (by omega) (show decode (am_by 19) 53 = .ok (.putfield 28, 3) by decide +kernel) rfl (by decide) (by first | rfl | exact am_bool he) rfl ?_
  intro hp7 hL7 hf7
  have hL7y := Led.kept hL6y (fun a ha => hf7.2.2 a (fun q => by obtain ⟨_, _⟩ := q; obtain ⟨_, _⟩ := ha; omega))
  refine am_Rq.ret (v := none) (show decode (am_by 19) 56 = .ok (.return_, 1) by decide +kernel) rfl rfl ?_
  refine ⟨_, rfl, rfl, hL7.congr (fun i hi => ?_), ((((((hf1.trans hf2).trans hf3).trans hf4).trans hf5).trans hf6).trans hf7)⟩
  by_cases e2 : 83 + 7 * g ≤ i ∧ i < 90 + 7 * g
  · rw [c_mix_t (c_grow_iff.mpr e2)]
    unfold va_up
    repeat (split; (· subst_vars; rfl))
    omega
  · rw [c_mix_f (fun q => e2 (c_grow_iff.mp q))]
    unfold va_up
    repeat (split; (· omega))
    rfl
theorem c_vested {b g : Nat} {t : Nat → Nat} (h : Led hp b t) (hg : g < 10) {m : Nat} (hB : ∀ i, i < 154 → t i < 2 ^ 31) (hm : m < 2 ^ 31) (hf : t (83 + 7 * g + 4) ≤ m) (hS : t (83 + 7 * g + 1) ≤ 2000) (hN : t (83 + 7 * g + 3) ≤ 60) : am_Rq d 46 0 (am_en [.ref (b + 13 + 1 * g), .int (nI m)] 3) [] hp (am_Ret fun hp1 v => hp1 = hp ∧ v = some (.int (nI (g_v (t (83 + 7 * g + 1)) (t (83 + 7 * g + 2)) (t (83 + 7 * g + 3)) (t (83 + 7 * g + 5)) (m - (t (83 + 7 * g + 4))))))) := by
  show am_Rq _ 46 0 [some (.ref (b + 13 + 1 * g)), some (.int (nI m)), none] [] _ _
  refine am_Rq.blk (is := [(.aload_n 0, 1)]) (q := (1, [some (.ref (b + 13 + 1 * g)), some (.int (nI m)), none], [.ref (b + 13 + 1 * g)])) (by decide +kernel) rfl ?_
  dsimp only
  refine am_Rq.getf (v := .int (nI (t (83 + 7 * g + 5)))) (show decode (am_by 46) 1 = .ok (.getfield 28, 3) by decide +kernel) rfl (Led.gr h (by omega)) rfl ?_
  refine am_Rq.if1 (t := 12) (show decode (am_by 46) 4 = .ok (.ifCond .eq 8, 3) by decide +kernel) (by decide) (fun h1 => ?_) (fun h1 => ?_)
  ·
    rw [nm_eq0 (hB _ (by omega))] at h1
    have h1 := of_decide_eq_true h1
    refine am_Rq.blk (is := [(.iload_n 1, 1), (.aload_n 0, 1)]) (q := (14, [some (.ref (b + 13 + 1 * g)), some (.int (nI m)), none], [.ref (b + 13 + 1 * g), .int (nI m)])) (by decide +kernel) rfl ?_
    dsimp only
    refine am_Rq.getf (v := .int (nI (t (83 + 7 * g + 4)))) (show decode (am_by 46) 14 = .ok (.getfield 16, 3) by decide +kernel) rfl (Led.gr h (by omega)) rfl ?_
    refine am_Rq.blk (is := [(.isub, 1)]) (q := (18, [some (.ref (b + 13 + 1 * g)), some (.int (nI m)), none], [.int ((nI m) - (nI (t (83 + 7 * g + 4))))])) (by decide +kernel) rfl ?_
    dsimp only
    rw [show (nI m) - (nI (t (83 + 7 * g + 4))) = nI (m - (t (83 + 7 * g + 4))) from nm_isub (by omega)]
    refine am_Rq.blk (is := [(.istore_n 2, 1), (.iload_n 2, 1), (.aload_n 0, 1)]) (q := (21, [some (.ref (b + 13 + 1 * g)), some (.int (nI m)), some (.int (nI (m - (t (83 + 7 * g + 4)))))], [.ref (b + 13 + 1 * g), .int (nI (m - (t (83 + 7 * g + 4))))])) (by decide +kernel) rfl ?_
    dsimp only
    refine am_Rq.getf (v := .int (nI (t (83 + 7 * g + 2)))) (show decode (am_by 46) 21 = .ok (.getfield 19, 3) by decide +kernel) rfl (Led.gr h (by omega)) rfl ?_
    refine am_Rq.if2 (t := 29) (show decode (am_by 46) 24 = .ok (.if_icmp .ge 5, 3) by decide +kernel) (by decide) (fun h2 => ?_) (fun h2 => ?_)
    ·
      rw [nm_ge (by omega) (hB _ (by omega))] at h2
      have h2 := of_decide_eq_true h2
      refine am_Rq.blk (is := [(.iload_n 2, 1), (.aload_n 0, 1)]) (q := (31, [some (.ref (b + 13 + 1 * g)), some (.int (nI m)), some (.int (nI (m - (t (83 + 7 * g + 4)))))], [.ref (b + 13 + 1 * g), .int (nI (m - (t (83 + 7 * g + 4))))])) (by decide +kernel) rfl ?_
      dsimp only
      refine am_Rq.getf (v := .int (nI (t (83 + 7 * g + 3)))) (show decode (am_by 46) 31 = .ok (.getfield 22, 3) by decide +kernel) rfl (Led.gr h (by omega)) rfl ?_
      refine am_Rq.if2 (t := 45) (show decode (am_by 46) 34 = .ok (.if_icmp .ge 11, 3) by decide +kernel) (by decide) (fun h3 => ?_) (fun h3 => ?_)
      ·
        rw [nm_ge (by omega) (hB _ (by omega))] at h3
        have h3 := of_decide_eq_true h3
        refine am_Rq.blk (is := [(.aload_n 0, 1)]) (q := (46, [some (.ref (b + 13 + 1 * g)), some (.int (nI m)), some (.int (nI (m - (t (83 + 7 * g + 4)))))], [.ref (b + 13 + 1 * g)])) (by decide +kernel) rfl ?_
        dsimp only
        refine am_Rq.getf (v := .int (nI (t (83 + 7 * g + 1)))) (show decode (am_by 46) 46 = .ok (.getfield 13, 3) by decide +kernel) rfl (Led.gr h (by omega)) rfl ?_
        refine am_Rq.ret (v := some (.int (nI (t (83 + 7 * g + 1))))) (show decode (am_by 46) 49 = .ok (.ireturn, 1) by decide +kernel) rfl rfl ?_
        refine ⟨_, rfl, rfl, ?_⟩
        have e : g_v (t (83 + 7 * g + 1)) (t (83 + 7 * g + 2)) (t (83 + 7 * g + 3)) (t (83 + 7 * g + 5)) (m - (t (83 + 7 * g + 4))) = _ := rfl
        unfold g_v at e
        unfold g_v
        first
          | (rw [if_pos (by omega)]; done)
          | (rw [if_neg (by omega), if_pos (by omega)]; done)
          | (rw [if_neg (by omega), if_neg (by omega), if_pos (by omega)]; done)
          | (rw [if_neg (by omega), if_neg (by omega), if_neg (by omega)]; done)
      ·
        rw [nm_ge (by omega) (hB _ (by omega))] at h3
        have h3 := of_decide_eq_false h3
        refine am_Rq.blk (is := [(.aload_n 0, 1)]) (q := (38, [some (.ref (b + 13 + 1 * g)), some (.int (nI m)), some (.int (nI (m - (t (83 + 7 * g + 4)))))], [.ref (b + 13 + 1 * g)])) (by decide +kernel) rfl ?_
        dsimp only
        refine am_Rq.getf (v := .int (nI (t (83 + 7 * g + 3)))) (show decode (am_by 46) 38 = .ok (.getfield 22, 3) by decide +kernel) rfl (Led.gr h (by omega)) rfl ?_
        refine am_Rq.blk (is := [(.iconst 1, 1)]) (q := (42, [some (.ref (b + 13 + 1 * g)), some (.int (nI m)), some (.int (nI (m - (t (83 + 7 * g + 4)))))], [.int (nI 1), .int (nI (t (83 + 7 * g + 3)))])) (by decide +kernel) rfl ?_
        dsimp only
        refine am_Rq.if2 (t := 50) (show decode (am_by 46) 42 = .ok (.if_icmp .ge 8, 3) by decide +kernel) (by decide) (fun h4 => ?_) (fun h4 => ?_)
        ·
          rw [nm_ge (hB _ (by omega)) (by omega)] at h4
          have h4 := of_decide_eq_true h4
          refine am_Rq.blk (is := [(.aload_n 0, 1)]) (q := (51, [some (.ref (b + 13 + 1 * g)), some (.int (nI m)), some (.int (nI (m - (t (83 + 7 * g + 4)))))], [.ref (b + 13 + 1 * g)])) (by decide +kernel) rfl ?_
          dsimp only
          refine am_Rq.getf (v := .int (nI (t (83 + 7 * g + 1)))) (show decode (am_by 46) 51 = .ok (.getfield 13, 3) by decide +kernel) rfl (Led.gr h (by omega)) rfl ?_
          refine am_Rq.blk (is := [(.iload_n 2, 1), (.imul, 1)]) (q := (56, [some (.ref (b + 13 + 1 * g)), some (.int (nI m)), some (.int (nI (m - (t (83 + 7 * g + 4)))))], [.int ((nI (t (83 + 7 * g + 1))) * (nI (m - (t (83 + 7 * g + 4)))))])) (by decide +kernel) rfl ?_
          dsimp only
          rw [show (nI (t (83 + 7 * g + 1))) * (nI (m - (t (83 + 7 * g + 4)))) = nI ((t (83 + 7 * g + 1)) * (m - (t (83 + 7 * g + 4)))) from nm_imul _ _]
          refine am_Rq.blk (is := [(.aload_n 0, 1)]) (q := (57, [some (.ref (b + 13 + 1 * g)), some (.int (nI m)), some (.int (nI (m - (t (83 + 7 * g + 4)))))], [.ref (b + 13 + 1 * g), .int (nI ((t (83 + 7 * g + 1)) * (m - (t (83 + 7 * g + 4)))))])) (by decide +kernel) rfl ?_
          dsimp only
          refine am_Rq.getf (v := .int (nI (t (83 + 7 * g + 3)))) (show decode (am_by 46) 57 = .ok (.getfield 22, 3) by decide +kernel) rfl (Led.gr h (by omega)) rfl ?_
          refine am_Rq.idivN (a := (t (83 + 7 * g + 1)) * (m - (t (83 + 7 * g + 4)))) (b := t (83 + 7 * g + 3)) (show decode (am_by 46) 60 = .ok (.idiv, 1) by decide +kernel) (by omega) (by have := Nat.mul_le_mul hS (show m - t (83 + 7 * g + 4) ≤ 60 by omega); omega) (hB _ (by omega)) ?_
          refine am_Rq.ret (v := some (.int (nI (((t (83 + 7 * g + 1)) * (m - (t (83 + 7 * g + 4)))) / (t (83 + 7 * g + 3)))))) (show decode (am_by 46) 61 = .ok (.ireturn, 1) by decide +kernel) rfl rfl ?_
          refine ⟨_, rfl, rfl, ?_⟩
          have e : g_v (t (83 + 7 * g + 1)) (t (83 + 7 * g + 2)) (t (83 + 7 * g + 3)) (t (83 + 7 * g + 5)) (m - (t (83 + 7 * g + 4))) = _ := rfl
          unfold g_v at e
          unfold g_v
          first
            | (rw [if_pos (by omega)]; done)
            | (rw [if_neg (by omega), if_pos (by omega)]; done)
            | (rw [if_neg (by omega), if_neg (by omega), if_pos (by omega)]; done)
            | (rw [if_neg (by omega), if_neg (by omega), if_neg (by omega)]; done)
        ·
          rw [nm_ge (hB _ (by omega)) (by omega)] at h4
          have h4 := of_decide_eq_false h4
          refine am_Rq.blk (is := [(.aload_n 0, 1)]) (q := (46, [some (.ref (b + 13 + 1 * g)), some (.int (nI m)), some (.int (nI (m - (t (83 + 7 * g + 4)))))], [.ref (b + 13 + 1 * g)])) (by decide +kernel) rfl ?_
          dsimp only
          refine am_Rq.getf (v := .int (nI (t (83 + 7 * g + 1)))) (show decode (am_by 46) 46 = .ok (.getfield 13, 3) by decide +kernel) rfl (Led.gr h (by omega)) rfl ?_
          refine am_Rq.ret (v := some (.int (nI (t (83 + 7 * g + 1))))) (show decode (am_by 46) 49 = .ok (.ireturn, 1) by decide +kernel) rfl rfl ?_
          refine ⟨_, rfl, rfl, ?_⟩
          have e : g_v (t (83 + 7 * g + 1)) (t (83 + 7 * g + 2)) (t (83 + 7 * g + 3)) (t (83 + 7 * g + 5)) (m - (t (83 + 7 * g + 4))) = _ := rfl
          unfold g_v at e
          unfold g_v
          first
            | (rw [if_pos (by omega)]; done)
            | (rw [if_neg (by omega), if_pos (by omega)]; done)
            | (rw [if_neg (by omega), if_neg (by omega), if_pos (by omega)]; done)
            | (rw [if_neg (by omega), if_neg (by omega), if_neg (by omega)]; done)
    ·
      rw [nm_ge (by omega) (hB _ (by omega))] at h2
      have h2 := of_decide_eq_false h2
      refine am_Rq.blk (is := [(.iconst 0, 1)]) (q := (28, [some (.ref (b + 13 + 1 * g)), some (.int (nI m)), some (.int (nI (m - (t (83 + 7 * g + 4)))))], [.int (nI 0)])) (by decide +kernel) rfl ?_
      dsimp only
      refine am_Rq.ret (v := some (.int (nI 0))) (show decode (am_by 46) 28 = .ok (.ireturn, 1) by decide +kernel) rfl rfl ?_
      refine ⟨_, rfl, rfl, ?_⟩
      have e : g_v (t (83 + 7 * g + 1)) (t (83 + 7 * g + 2)) (t (83 + 7 * g + 3)) (t (83 + 7 * g + 5)) (m - (t (83 + 7 * g + 4))) = _ := rfl
      unfold g_v at e
      unfold g_v
      first
        | (rw [if_pos (by omega)]; done)
        | (rw [if_neg (by omega), if_pos (by omega)]; done)
        | (rw [if_neg (by omega), if_neg (by omega), if_pos (by omega)]; done)
        | (rw [if_neg (by omega), if_neg (by omega), if_neg (by omega)]; done)
  ·
    rw [nm_eq0 (hB _ (by omega))] at h1
    have h1 := of_decide_eq_false h1
    refine am_Rq.blk (is := [(.aload_n 0, 1)]) (q := (8, [some (.ref (b + 13 + 1 * g)), some (.int (nI m)), none], [.ref (b + 13 + 1 * g)])) (by decide +kernel) rfl ?_
    dsimp only
    refine am_Rq.getf (v := .int (nI (t (83 + 7 * g + 1)))) (show decode (am_by 46) 8 = .ok (.getfield 13, 3) by decide +kernel) rfl (Led.gr h (by omega)) rfl ?_
    refine am_Rq.ret (v := some (.int (nI (t (83 + 7 * g + 1))))) (show decode (am_by 46) 11 = .ok (.ireturn, 1) by decide +kernel) rfl rfl ?_
    refine ⟨_, rfl, rfl, ?_⟩
    have e : g_v (t (83 + 7 * g + 1)) (t (83 + 7 * g + 2)) (t (83 + 7 * g + 3)) (t (83 + 7 * g + 5)) (m - (t (83 + 7 * g + 4))) = _ := rfl
    unfold g_v at e
    unfold g_v
    first
      | (rw [if_pos (by omega)]; done)
      | (rw [if_neg (by omega), if_pos (by omega)]; done)
      | (rw [if_neg (by omega), if_neg (by omega), if_pos (by omega)]; done)
      | (rw [if_neg (by omega), if_neg (by omega), if_neg (by omega)]; done)
theorem c_endIn {b g : Nat} {t : Nat → Nat} (h : Led hp b t) (hg : g < 10) {m : Nat} (hB : ∀ i, i < 154 → t i < 2 ^ 31) (hm : m < 2 ^ 31) (hf : t (83 + 7 * g + 4) ≤ m) (hS : t (83 + 7 * g + 1) ≤ 2000) (hN : t (83 + 7 * g + 3) ≤ 60) (hV : g_v (t (83 + 7 * g + 1)) (t (83 + 7 * g + 2)) (t (83 + 7 * g + 3)) (t (83 + 7 * g + 5)) (m - (t (83 + 7 * g + 4))) < 2 ^ 31) : am_Rq (d + 1) 45 0 (am_en [.ref (b + 13 + 1 * g), .int (nI m)] 3) [] hp (am_Ret fun hp1 v => v = some (.int (nI (am_b (decide (g_v (t (83 + 7 * g + 1)) (t (83 + 7 * g + 2)) (t (83 + 7 * g + 3)) (t (83 + 7 * g + 5)) (m - (t (83 + 7 * g + 4))) < t (83 + 7 * g + 1)))))) ∧ Led hp1 b (va_up (va_up t (83 + 7 * g + 1) (g_v (t (83 + 7 * g + 1)) (t (83 + 7 * g + 2)) (t (83 + 7 * g + 3)) (t (83 + 7 * g + 5)) (m - (t (83 + 7 * g + 4))))) (83 + 7 * g + 5) 1) ∧ am_fr (c_in b) hp hp1) := by
  show am_Rq _ 45 0 [some (.ref (b + 13 + 1 * g)), some (.int (nI m)), none] [] _ _
  refine am_Rq.blk (is := [(.aload_n 0, 1)]) (q := (1, [some (.ref (b + 13 + 1 * g)), some (.int (nI m)), none], [.ref (b + 13 + 1 * g)])) (by decide +kernel) rfl ?_
  dsimp only
  refine am_Rq.getf (v := .int (nI (t (83 + 7 * g + 1)))) (show decode (am_by 45) 1 = .ok (.getfield 13, 3) by decide +kernel) rfl (Led.gr h (by omega)) rfl ?_
  refine am_Rq.blk (is := [(.istore_n 2, 1), (.aload_n 0, 1), (.aload_n 0, 1), (.iload_n 1, 1)]) (q := (8, [some (.ref (b + 13 + 1 * g)), some (.int (nI m)), some (.int (nI (t (83 + 7 * g + 1))))], [.int (nI m), .ref (b + 13 + 1 * g), .ref (b + 13 + 1 * g)])) (by decide +kernel) rfl ?_
  dsimp only
  refine am_Rq.callV (show decode (am_by 45) 8 = .ok (.invokevirtual 32, 3) by decide +kernel) rfl [.int (nI m)] [.ref (b + 13 + 1 * g)] rfl rfl (Nat.le_of_ble_eq_true rfl) rfl (Led.gr h (by omega)) rfl (c_vested h hg hB hm hf hS hN) ?_
  rintro _ _ ⟨rfl, rfl⟩
  show am_Rq _ 45 11 [some (.ref (b + 13 + 1 * g)), some (.int (nI m)), some (.int (nI (t (83 + 7 * g + 1))))] [.int (nI (g_v (t (83 + 7 * g + 1)) (t (83 + 7 * g + 2)) (t (83 + 7 * g + 3)) (t (83 + 7 * g + 5)) (m - (t (83 + 7 * g + 4))))), .ref (b + 13 + 1 * g)] _ _
  refine Led.pGr (g := g) (k := 1) (p := 1) (v := g_v (t (83 + 7 * g + 1)) (t (83 + 7 * g + 2)) (t (83 + 7 * g + 3)) (t (83 + 7 * g + 5)) (m - (t (83 + 7 * g + 4)))) h (by omega) (show decode (am_by 45) 11 = .ok (.putfield 13, 3) by decide +kernel) rfl (by decide) (by first | rfl | exact rfl) rfl ?_
  intro hp1 hL1 hf1
  refine am_Rq.blk (is := [(.aload_n 0, 1), (.iconst 1, 1)]) (q := (16, [some (.ref (b + 13 + 1 * g)), some (.int (nI m)), some (.int (nI (t (83 + 7 * g + 1))))], [.int (nI 1), .ref (b + 13 + 1 * g)])) (by decide +kernel) rfl ?_
  dsimp only
  refine Led.pGr (g := g) (k := 6) (p := 5) (v := 1) hL1 (by omega) (show decode (am_by 45) 16 = .ok (.putfield 28, 3) by decide +kernel) rfl (by decide) (by first | rfl | exact rfl) rfl ?_
  intro hp2 hL2 hf2
  refine am_Rq.blk (is := [(.aload_n 0, 1)]) (q := (20, [some (.ref (b + 13 + 1 * g)), some (.int (nI m)), some (.int (nI (t (83 + 7 * g + 1))))], [.ref (b + 13 + 1 * g)])) (by decide +kernel) rfl ?_
  dsimp only
  refine am_Rq.getf (v := .int (nI ((va_up (va_up t (83 + 7 * g + 1) (g_v (t (83 + 7 * g + 1)) (t (83 + 7 * g + 2)) (t (83 + 7 * g + 3)) (t (83 + 7 * g + 5)) (m - (t (83 + 7 * g + 4))))) (83 + 7 * g + 5) (1)) (83 + 7 * g + 1)))) (show decode (am_by 45) 20 = .ok (.getfield 13, 3) by decide +kernel) rfl (Led.gr hL2 (by omega)) rfl ?_
  refine am_Rq.blk (is := [(.iload_n 2, 1)]) (q := (24, [some (.ref (b + 13 + 1 * g)), some (.int (nI m)), some (.int (nI (t (83 + 7 * g + 1))))], [.int (nI (t (83 + 7 * g + 1))), .int (nI ((va_up (va_up t (83 + 7 * g + 1) (g_v (t (83 + 7 * g + 1)) (t (83 + 7 * g + 2)) (t (83 + 7 * g + 3)) (t (83 + 7 * g + 5)) (m - (t (83 + 7 * g + 4))))) (83 + 7 * g + 5) (1)) (83 + 7 * g + 1)))])) (by decide +kernel) rfl ?_
  dsimp only
  rw [va_up_ne _ _ (show 83 + 7 * g + 1 ≠ 83 + 7 * g + 5 by omega), va_up_self]
  refine am_Rq.if2 (t := 31) (show decode (am_by 45) 24 = .ok (.if_icmp .ge 7, 3) by decide +kernel) (by decide) (fun h1 => ?_) (fun h1 => ?_)
  ·
    rw [nm_ge (hV) (hB _ (by omega))] at h1
    have h1 := of_decide_eq_true h1
    refine am_Rq.blk (is := [(.iconst 0, 1)]) (q := (32, [some (.ref (b + 13 + 1 * g)), some (.int (nI m)), some (.int (nI (t (83 + 7 * g + 1))))], [.int (nI 0)])) (by decide +kernel) rfl ?_
    dsimp only
    refine am_Rq.ret (v := some (.int (nI 0))) (show decode (am_by 45) 32 = .ok (.ireturn, 1) by decide +kernel) rfl rfl ?_
    exact ⟨_, rfl, by rw [decide_eq_false (by omega)]; rfl, hL2, (hf1.trans hf2)⟩
  ·
    rw [nm_ge (hV) (hB _ (by omega))] at h1
    have h1 := of_decide_eq_false h1
    refine am_Rq.blk (is := [(.iconst 1, 1), (.goto 4, 3)]) (q := (32, [some (.ref (b + 13 + 1 * g)), some (.int (nI m)), some (.int (nI (t (83 + 7 * g + 1))))], [.int (nI 1)])) (by decide +kernel) rfl ?_
    dsimp only
    refine am_Rq.ret (v := some (.int (nI 1))) (show decode (am_by 45) 32 = .ok (.ireturn, 1) by decide +kernel) rfl rfl ?_
    exact ⟨_, rfl, by rw [decide_eq_true (by omega)]; rfl, hL2, (hf1.trans hf2)⟩
end C3
