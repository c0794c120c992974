/-! Runs of the abstract machine: more fuel does no harm; a rule an instruction. -/
theorem am_cal_mono {f g : am_Fn} (h : ∀ d j pc lo st hp r, f d j pc lo st hp = some r → g d j pc lo st hp = some r) {d j j2 : Nat} {i : Instr} {pc : Nat} {lo : am_L} {st : List Value} {hp : am_H} {r : am_H × am_R}
    (hf : am_cal f d j j2 i pc lo st hp = some r) : am_cal g d j j2 i pc lo st hp = some r := by
  cases d with
  | zero => cases hf
  | succ d2 =>
    simp only [am_cal] at hf ⊢
    split at hf
    · rename_i hc
      rw [if_pos hc]
      cases h1 : f d2 j2 0 (am_en (st.take (am_na j2)).reverse (am_mx j2)) [] hp with
      | none => rw [h1] at hf; cases hf
      | some q =>
        obtain ⟨hp1, o⟩ := q
        rw [h1] at hf
        rw [h _ _ _ _ _ _ _ h1]
        cases o with
        | inl v => exact h _ _ _ _ _ _ _ hf
        | inr x =>
          dsimp only at hf ⊢
          cases h2 : am_fi (am_hd j) pc x.1 with
          | none => rw [h2] at hf; exact hf
          | some k => rw [h2] at hf; exact h _ _ _ _ _ _ _ hf
    · cases hf
theorem am_F_mono {f g : am_Fn} (h : ∀ d j pc lo st hp r, f d j pc lo st hp = some r → g d j pc lo st hp = some r) {d j pc : Nat} {lo : am_L} {st : List Value} {hp : am_H} {r : am_H × am_R}
    (hf : am_F f d j pc lo st hp = some r) : am_F g d j pc lo st hp = some r := by
  unfold am_F at hf ⊢
  cases hd : decode (am_by j) pc with
  | error e => rw [hd] at hf; cases hf
  | ok q =>
    obtain ⟨i, len⟩ := q
    rw [hd] at hf
    dsimp only at hf ⊢
    split at hf
    · rename_i hl
      rw [if_pos hl]
      unfold am_G at hf ⊢
      cases h1 : am_re (am_rt j) i st with
      | some v => rw [h1] at hf; exact hf
      | none =>
        rw [h1] at hf
        dsimp only at hf ⊢
        cases h2 : am_tg (am_w j) i with
        | some j2 => rw [h2] at hf; exact am_cal_mono h hf
        | none =>
          rw [h2] at hf
          dsimp only at hf ⊢
          cases h3 : am_th d j (am_w j) i pc st with
          | some k => rw [h3] at hf; exact hf
          | none =>
            rw [h3] at hf
            dsimp only at hf ⊢
            cases h4 : am_nx j (am_w j) i pc len lo st hp with
            | none => rw [h4] at hf; cases hf
            | some q => rw [h4] at hf; exact h _ _ _ _ _ _ _ hf
    · cases hf
theorem am_mono1 : ∀ (n d j pc : Nat) (lo : am_L) (st : List Value) (hp : am_H) (r : am_H × am_R), am_run n d j pc lo st hp = some r → am_run (n + 1) d j pc lo st hp = some r
  | 0, _, _, _, _, _, _, _, h => by cases h
  | n + 1, _, _, _, _, _, _, _, h => am_F_mono (am_mono1 n) h
theorem am_mono {n m : Nat} (hnm : n ≤ m) {d j pc : Nat} {lo : am_L} {st : List Value} {hp : am_H} {r : am_H × am_R} (h : am_run n d j pc lo st hp = some r) : am_run m d j pc lo st hp = some r := by
  induction hnm with
  | refl => exact h
  | step _ ih => exact am_mono1 _ _ _ _ _ _ _ _ ih
section AMR
/-- a run comes to an end with Q -/
def am_Rq (d j pc : Nat) (lo : am_L) (st : List Value) (hp : am_H) (Q : am_H → am_R → Prop) : Prop := ∃ (n : Nat) (r : am_H × am_R), am_run n d j pc lo st hp = some r ∧ Q r.1 r.2
/-- it returns -/
def am_Ret (P : am_H → Option Value → Prop) : am_H → am_R → Prop := fun hp o => ∃ v, o = .inl v ∧ P hp v
variable {d j pc len : Nat} {lo : am_L} {st : List Value} {hp : am_H} {Q : am_H → am_R → Prop} {i : Instr}
theorem am_Rq.mono {Q' : am_H → am_R → Prop} (h : am_Rq d j pc lo st hp Q) (hq : ∀ hp1 o, Q hp1 o → Q' hp1 o) : am_Rq d j pc lo st hp Q' := by
  obtain ⟨n, r, h1, h2⟩ := h
  exact ⟨n, r, h1, hq _ _ h2⟩
theorem am_Rq.nx (hd : decode (am_by j) pc = .ok (i, len)) (hl : am_lk i len = true) (h1 : am_re (am_rt j) i st = none) (h2 : am_tg (am_w j) i = none) (h3 : am_th d j (am_w j) i pc st = none) {q : Nat × am_L × List Value × am_H} (h4 : am_nx j (am_w j) i pc len lo st hp = some q)
    (k : am_Rq d j q.1 q.2.1 q.2.2.1 q.2.2.2 Q) : am_Rq d j pc lo st hp Q := by
  obtain ⟨n, r, hn, hq⟩ := k
  refine ⟨n + 1, r, ?_, hq⟩
  show am_F (am_run n) d j pc lo st hp = some r
  unfold am_F
  rw [hd]
  dsimp only
  rw [if_pos hl]
  unfold am_G
  rw [h1]
  dsimp only
  rw [h2]
  dsimp only
  rw [h3]
  dsimp only
  rw [h4]
  exact hn
theorem am_Rq.ret (hd : decode (am_by j) pc = .ok (i, len)) (hl : am_lk i len = true) {v : Option Value} (h1 : am_re (am_rt j) i st = some v) (hq : Q hp (.inl v)) : am_Rq d j pc lo st hp Q := by
  refine ⟨1, (hp, .inl v), ?_, hq⟩
  show am_F (am_run 0) d j pc lo st hp = _
  unfold am_F
  rw [hd]
  dsimp only
  rw [if_pos hl]
  unfold am_G
  rw [h1]
theorem am_Rq.thr (hd : decode (am_by j) pc = .ok (i, len)) (hl : am_lk i len = true) (h1 : am_re (am_rt j) i st = none) (h2 : am_tg (am_w j) i = none) {k : Nat} (h3 : am_th d j (am_w j) i pc st = some k) (hq : Q (hp ++ [(200 + k, List.replicate 6 .null)]) (.inr (k, hp.length))) : am_Rq d j pc lo st hp Q := by
  refine ⟨1, (hp ++ [(200 + k, List.replicate 6 .null)], .inr (k, hp.length)), ?_, hq⟩
  show am_F (am_run 0) d j pc lo st hp = _
  unfold am_F
  rw [hd]
  dsimp only
  rw [if_pos hl]
  unfold am_G
  rw [h1]
  dsimp only
  rw [h2]
  dsimp only
  rw [h3]
/-- what follows a call -/
def am_Aft (d j pc : Nat) (lo : am_L) (rest : List Value) (Q : am_H → am_R → Prop) (hp1 : am_H) (o : am_R) : Prop := match o with
  | .inl v => am_Rq d j (pc + 3) lo (v.toList ++ rest) hp1 Q
  | .inr x => match am_fi (am_hd j) pc x.1 with
    | some t => am_Rq d j t lo [.ref x.2] hp1 Q
    | none => am_hd j = [] ∧ Q hp1 (.inr x)
theorem am_Rq.callX (hd : decode (am_by j) pc = .ok (i, len)) (hl : am_lk i len = true) (h1 : am_re (am_rt j) i st = none) {j2 : Nat} (h2 : am_tg (am_w j) i = some j2) (vs rest : List Value) (hst : st = vs.reverse ++ rest) (hn : vs.length = am_na j2) (hw : (rest.map fun v => v.category).sum ≤ 8) (hrc : am_rc i j2 vs hp = true) (hen : (am_en vs (am_mx j2)).length = am_mx j2)
    {Qc : am_H → am_R → Prop} (hc : am_Rq d j2 0 (am_en vs (am_mx j2)) [] hp Qc) (k : ∀ hp1 o, Qc hp1 o → am_Aft (d + 1) j pc lo rest Q hp1 o) : am_Rq (d + 1) j pc lo st hp Q := by
  obtain ⟨n, ⟨hp1, o⟩, hn1, hq1⟩ := hc
  have hk := k hp1 o hq1
  have e1 : st.take (am_na j2) = vs.reverse := by rw [hst, ← hn]; simp [List.take_append]
  have e2 : st.drop (am_na j2) = rest := by rw [hst, ← hn]; simp [List.drop_append]
  have e3 : ∀ m, n ≤ m → am_F (am_run m) (d + 1) j pc lo st hp = (match (some (hp1, o) : Option (am_H × am_R)) with
      | some (hp1, .inl v) => am_run m (d + 1) j (pc + 3) lo (v.toList ++ rest) hp1
      | some (hp1, .inr x) => (match am_fi (am_hd j) pc x.1 with
        | some h => am_run m (d + 1) j h lo [.ref x.2] hp1
        | none => if am_hd j = [] then some (hp1, .inr x) else none)
      | none => none) := by
    intro m hm
    unfold am_F
    rw [hd]
    dsimp only
    rw [if_pos hl]
    unfold am_G
    rw [h1]
    dsimp only
    rw [h2]
    dsimp only [am_cal]
    rw [e1, e2, List.reverse_reverse, if_pos ⟨by rw [hst, ← hn]; simp, hw, hrc, hen⟩, am_mono hm hn1]
    cases o <;> rfl
  cases o with
  | inl v =>
    obtain ⟨m, r, hm, hq⟩ := hk
    refine ⟨max n m + 1, r, ?_, hq⟩
    show am_F (am_run (max n m)) (d + 1) j pc lo st hp = some r
    rw [e3 _ (Nat.le_max_left n m)]
    exact am_mono (Nat.le_max_right n m) hm
  | inr x =>
    unfold am_Aft at hk
    dsimp only at hk
    cases hf : am_fi (am_hd j) pc x.1 with
    | none =>
      rw [hf] at hk
      refine ⟨n + 1, (hp1, .inr x), ?_, hk.2⟩
      show am_F (am_run n) (d + 1) j pc lo st hp = _
      rw [e3 _ (Nat.le_refl n)]
      dsimp only
      rw [hf]
      dsimp only
      rw [if_pos hk.1]
    | some t =>
      rw [hf] at hk
      obtain ⟨m, r, hm, hq⟩ := hk
      refine ⟨max n m + 1, r, ?_, hq⟩
      show am_F (am_run (max n m)) (d + 1) j pc lo st hp = some r
      rw [e3 _ (Nat.le_max_left n m)]
      dsimp only
      rw [hf]
      exact am_mono (Nat.le_max_right n m) hm
/-- a call of a method that returns -/
theorem am_Rq.call (hd : decode (am_by j) pc = .ok (i, len)) (hl : am_lk i len = true) (h1 : am_re (am_rt j) i st = none) {j2 : Nat} (h2 : am_tg (am_w j) i = some j2) (vs rest : List Value) (hst : st = vs.reverse ++ rest) (hn : vs.length = am_na j2) (hw : (rest.map fun v => v.category).sum ≤ 8) (hrc : am_rc i j2 vs hp = true) (hen : (am_en vs (am_mx j2)).length = am_mx j2)
    {P : am_H → Option Value → Prop} (hc : am_Rq d j2 0 (am_en vs (am_mx j2)) [] hp (am_Ret P)) (k : ∀ hp1 v, P hp1 v → am_Rq (d + 1) j (pc + 3) lo (v.toList ++ rest) hp1 Q) : am_Rq (d + 1) j pc lo st hp Q := by
  refine am_Rq.callX hd hl h1 h2 vs rest hst hn hw hrc hen hc ?_
  rintro hp1 o ⟨v, rfl, hv⟩
  exact k hp1 v hv
/-- plain stretches -/
def am_ev (w : Nat) : List (Instr × Nat) → Nat → am_L → List Value → Option (Nat × am_L × List Value)
  | [], pc, lo, st => some (pc, lo, st)
  | q :: t, pc, lo, st => match am_pl w q.1 pc lo st with
    | some x => if x.1 = pc + q.2 ∨ t = [] then am_ev w t x.1 x.2.1 x.2.2 else none
    | none => none
def am_at (b : ByteArray) : List (Instr × Nat) → Nat → Bool
  | [], _ => true
  | q :: t, pc => (decide (decode b pc = .ok (q.1, q.2)) && am_lk q.1 q.2) && am_at b t (pc + q.2)
theorem am_pl_no {w : Nat} {q : Nat × am_L × List Value} (h : am_pl w i pc lo st = some q) : (∀ ret, am_re ret i st = none) ∧ am_tg w i = none ∧ ∀ d j, am_th d j w i pc st = none := by
  cases i <;> first | exact ⟨fun _ => rfl, rfl, fun _ _ => rfl⟩ | (simp [am_pl] at h)
theorem am_Rq.blk {is : List (Instr × Nat)} {q : Nat × am_L × List Value} (ha : am_at (am_by j) is pc = true) (he : am_ev (am_w j) is pc lo st = some q) (k : am_Rq d j q.1 q.2.1 q.2.2 hp Q) : am_Rq d j pc lo st hp Q := by
  induction is generalizing pc lo st with
  | nil =>
    cases he
    exact k
  | cons x t ih =>
    simp only [am_at, Bool.and_eq_true, decide_eq_true_eq] at ha
    simp only [am_ev] at he
    cases hp1 : am_pl (am_w j) x.1 pc lo st with
    | none => rw [hp1] at he; cases he
    | some y =>
      rw [hp1] at he
      dsimp only at he
      obtain ⟨n1, n2, n3⟩ := am_pl_no hp1
      refine am_Rq.nx ha.1.1 ha.1.2 (n1 _) n2 (n3 _ _) (q := (y.1, y.2.1, y.2.2, hp)) (by simp [am_nx, hp1]) ?_
      split at he
      · rename_i hc
        rcases hc with hc | hc
        · refine ih ?_ he
          rw [hc]
          exact ha.2
        · subst hc
          cases he
          exact k
      · cases he
/-- jumps -/
theorem am_Rq.if1 {c : ClassFile.Cond} {off : Int} {t : Nat} {x : Int32} (hd : decode (am_by j) pc = .ok (.ifCond c off, 3)) (ht : (pc : Int) + off = (t : Int)) (kt : am_c1 c x = true → am_Rq d j t lo st hp Q) (kf : am_c1 c x = false → am_Rq d j (pc + 3) lo st hp Q) : am_Rq d j pc lo (.int x :: st) hp Q := by
  have h0 : am_ok pc off = true := by simp only [am_ok, ht]; exact decide_eq_true (Int.natCast_nonneg t)
  have h1 : am_to pc off = t := by simp only [am_to, ht]; exact Int.toNat_natCast t
  cases hc : am_c1 c x with
  | true => exact am_Rq.nx hd rfl rfl rfl rfl (q := (t, lo, st, hp)) (by simp [am_nx, am_pl, am_jp, h0, h1, hc]) (kt hc)
  | false => exact am_Rq.nx hd rfl rfl rfl rfl (q := (pc + 3, lo, st, hp)) (by simp [am_nx, am_pl, am_jp, h0, h1, hc]) (kf hc)
theorem am_Rq.if2 {c : ClassFile.Cond} {off : Int} {t : Nat} {x y : Int32} (hd : decode (am_by j) pc = .ok (.if_icmp c off, 3)) (ht : (pc : Int) + off = (t : Int)) (kt : am_c2 c x y = true → am_Rq d j t lo st hp Q) (kf : am_c2 c x y = false → am_Rq d j (pc + 3) lo st hp Q) : am_Rq d j pc lo (.int y :: .int x :: st) hp Q := by
  have h0 : am_ok pc off = true := by simp only [am_ok, ht]; exact decide_eq_true (Int.natCast_nonneg t)
  have h1 : am_to pc off = t := by simp only [am_to, ht]; exact Int.toNat_natCast t
  cases hc : am_c2 c x y with
  | true => exact am_Rq.nx hd rfl rfl rfl rfl (q := (t, lo, st, hp)) (by simp [am_nx, am_pl, am_jp, h0, h1, hc]) (kt hc)
  | false => exact am_Rq.nx hd rfl rfl rfl rfl (q := (pc + 3, lo, st, hp)) (by simp [am_nx, am_pl, am_jp, h0, h1, hc]) (kf hc)
/-- fields -/
theorem am_Rq.getf {ix ci k a : Nat} {fs : List Value} {v : Value} (hd : decode (am_by j) pc = .ok (.getfield ix, 3)) (hf : am_fd (am_w j) ix = some (ci, k)) (hc : hp[a]? = some (ci, fs)) (hv : fs[k]? = some v) (kk : am_Rq d j (pc + 3) lo (v :: st) hp Q) : am_Rq d j pc lo (.ref a :: st) hp Q :=
  am_Rq.nx hd rfl rfl rfl rfl (q := (pc + 3, lo, v :: st, hp)) (by simp [am_nx, am_pl, am_jp, am_hs, hf, hc, hv]) kk
theorem am_Rq.putf {ix ci k a : Nat} {fs : List Value} {v : Value} (hd : decode (am_by j) pc = .ok (.putfield ix, 3)) (hf : am_fd (am_w j) ix = some (ci, k)) (hc : hp[a]? = some (ci, fs)) (hk : k < fs.length) (ht : am_fv (am_ft ci k) v = true) (hfin : am_fin ci k = false ∨ (am_ini j = true ∧ ci = am_w j)) (ha : 2 ≤ a)
    (kk : am_Rq d j (pc + 3) lo st (hp.set a (ci, fs.set k v)) Q) : am_Rq d j pc lo (v :: .ref a :: st) hp Q :=
  am_Rq.nx hd rfl rfl rfl rfl (q := (pc + 3, lo, st, hp.set a (ci, fs.set k v))) (by simp [am_nx, am_pl, am_jp, am_hs, hf, hc, hk, ht, hfin, ha]) kk
/-- arrays -/
theorem am_Rq.iald {a n : Nat} {fs : List Value} {v : Value} (hd : decode (am_by j) pc = .ok (.iaload, 1)) (hc : hp[a]? = some (100, fs)) (hn : n < 2 ^ 31) (hv : fs[n]? = some v) (kk : am_Rq d j (pc + 1) lo (v :: st) hp Q) : am_Rq d j pc lo (.int (nI n) :: .ref a :: st) hp Q :=
  am_Rq.nx hd rfl rfl rfl rfl (q := (pc + 1, lo, v :: st, hp)) (by simp [am_nx, am_pl, am_jp, am_hs, am_ald, hc, nI_pos hn, nI_clamp hn, hv]) kk
theorem am_Rq.lald {a n : Nat} {fs : List Value} {v : Value} (hd : decode (am_by j) pc = .ok (.laload, 1)) (hc : hp[a]? = some (101, fs)) (hn : n < 2 ^ 31) (hv : fs[n]? = some v) (kk : am_Rq d j (pc + 1) lo (v :: st) hp Q) : am_Rq d j pc lo (.int (nI n) :: .ref a :: st) hp Q :=
  am_Rq.nx hd rfl rfl rfl rfl (q := (pc + 1, lo, v :: st, hp)) (by simp [am_nx, am_pl, am_jp, am_hs, am_ald, hc, nI_pos hn, nI_clamp hn, hv]) kk
theorem am_Rq.zald {a n : Nat} {fs : List Value} {v : Value} (hd : decode (am_by j) pc = .ok (.baload, 1)) (hc : hp[a]? = some (102, fs)) (hn : n < 2 ^ 31) (hv : fs[n]? = some v) (kk : am_Rq d j (pc + 1) lo (v :: st) hp Q) : am_Rq d j pc lo (.int (nI n) :: .ref a :: st) hp Q :=
  am_Rq.nx hd rfl rfl rfl rfl (q := (pc + 1, lo, v :: st, hp)) (by simp [am_nx, am_pl, am_jp, am_hs, am_ald, hc, nI_pos hn, nI_clamp hn, hv]) kk
theorem am_Rq.aald {a n k : Nat} {fs : List Value} {v : Value} (hd : decode (am_by j) pc = .ok (.aaload, 1)) (hc : hp[a]? = some (k, fs)) (hk : (decide (103 ≤ k) && decide (k < 200)) = true) (hn : n < 2 ^ 31) (hv : fs[n]? = some v) (kk : am_Rq d j (pc + 1) lo (v :: st) hp Q) : am_Rq d j pc lo (.int (nI n) :: .ref a :: st) hp Q :=
  am_Rq.nx hd rfl rfl rfl rfl (q := (pc + 1, lo, v :: st, hp)) (by simp only [am_nx, am_pl, am_jp, am_hs, am_ald, hc, hk, nI_clamp hn, hv]; simp [nI_pos hn]) kk
theorem am_Rq.iast {a n : Nat} {fs : List Value} {x : Int32} (hd : decode (am_by j) pc = .ok (.iastore, 1)) (hc : hp[a]? = some (100, fs)) (hn : n < 2 ^ 31) (hl : n < fs.length) (ha : 2 ≤ a) (kk : am_Rq d j (pc + 1) lo st (hp.set a (100, fs.set n (.int x))) Q) : am_Rq d j pc lo (.int x :: .int (nI n) :: .ref a :: st) hp Q :=
  am_Rq.nx hd rfl rfl rfl rfl (q := (pc + 1, lo, st, hp.set a (100, fs.set n (.int x)))) (by simp [am_nx, am_pl, am_jp, am_hs, am_ast, am_isI, hc, nI_pos hn, nI_clamp hn, hl, ha]) kk
theorem am_Rq.last {a n : Nat} {fs : List Value} {x : Int64} (hd : decode (am_by j) pc = .ok (.lastore, 1)) (hc : hp[a]? = some (101, fs)) (hn : n < 2 ^ 31) (hl : n < fs.length) (ha : 2 ≤ a) (kk : am_Rq d j (pc + 1) lo st (hp.set a (101, fs.set n (.long x))) Q) : am_Rq d j pc lo (.long x :: .int (nI n) :: .ref a :: st) hp Q :=
  am_Rq.nx hd rfl rfl rfl rfl (q := (pc + 1, lo, st, hp.set a (101, fs.set n (.long x)))) (by simp [am_nx, am_pl, am_jp, am_hs, am_ast, am_isL, hc, nI_pos hn, nI_clamp hn, hl, ha]) kk
theorem am_Rq.zast {a n : Nat} {fs : List Value} {x : Int32} (hd : decode (am_by j) pc = .ok (.bastore, 1)) (hc : hp[a]? = some (102, fs)) (hz : am_isZ (.int x) = true) (hn : n < 2 ^ 31) (hl : n < fs.length) (ha : 2 ≤ a) (kk : am_Rq d j (pc + 1) lo st (hp.set a (102, fs.set n (.int x))) Q) : am_Rq d j pc lo (.int x :: .int (nI n) :: .ref a :: st) hp Q :=
  am_Rq.nx hd rfl rfl rfl rfl (q := (pc + 1, lo, st, hp.set a (102, fs.set n (.int x)))) (by simp [am_nx, am_pl, am_jp, am_hs, am_ast, hz, hc, nI_pos hn, nI_clamp hn, hl, ha]) kk
theorem am_Rq.alen {a k : Nat} {fs : List Value} (hd : decode (am_by j) pc = .ok (.arraylength, 1)) (hc : hp[a]? = some (k, fs)) (hk : 100 ≤ k ∧ k < 200) (kk : am_Rq d j (pc + 1) lo (.int (nI fs.length) :: st) hp Q) : am_Rq d j pc lo (.ref a :: st) hp Q :=
  am_Rq.nx hd rfl rfl rfl rfl (q := (pc + 1, lo, .int (nI fs.length) :: st, hp)) (by simp [am_nx, am_pl, am_jp, am_hs, hc, hk]) kk
end AMR
/-- cells behind a write -/
theorem am_ss {hp : am_H} {a : Nat} {c c' : am_C} (h : hp[a]? = some c) : (hp.set a c')[a]? = some c' := by
  rw [List.getElem?_set_self (List.getElem?_eq_some_iff.mp h).1]
theorem am_sn {hp : am_H} {a b : Nat} {c' : am_C} (h : a ≠ b) : (hp.set a c')[b]? = hp[b]? := List.getElem?_set_ne h
