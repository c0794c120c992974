/-! Making objects: rules, and what grows. -/
section NW
variable {d j pc : Nat} {lo : am_L} {st : List Value} {hp : am_H} {Q : am_H → am_R → Prop}
theorem am_Rq.new {ix ci : Nat} (hd : decode (am_by j) pc = .ok (.new ix, 3)) (h : am_nw (am_w j) ix = some ci) (hx : am_ex (am_w j) ix = none) (kk : am_Rq d j (pc + 3) lo (.ref hp.length :: st) (hp ++ [(ci, am_df ci)]) Q) : am_Rq d j pc lo st hp Q :=
  am_Rq.nx hd rfl rfl rfl (by simp only [am_th, hx]) (q := (pc + 3, lo, .ref hp.length :: st, hp ++ [(ci, am_df ci)])) (by simp only [am_nx, am_pl, am_jp, am_hs, h]) kk
theorem am_Rq.oi {ix a : Nat} (hd : decode (am_by j) pc = .ok (.invokespecial ix, 3)) (h : am_oi (am_w j) ix = true) (ht : am_tg (am_w j) (.invokespecial ix) = none) (hw : (st.map fun v => v.category).sum ≤ 8) (kk : am_Rq d j (pc + 3) lo st hp Q) : am_Rq d j pc lo (.ref a :: st) hp Q :=
  am_Rq.nx hd rfl rfl ht rfl (q := (pc + 3, lo, st, hp)) (by simp only [am_nx, am_pl, am_jp, am_hs, h, hw]; rfl) kk
theorem am_Rq.callI {ix j2 a : Nat} (hd : decode (am_by j) pc = .ok (.invokespecial ix, 3)) (h2 : am_tg (am_w j) (.invokespecial ix) = some j2) (rest : List Value) (hst : st = .ref a :: rest) (hn : [Value.ref a].length = am_na j2) (hw : (rest.map fun v => v.category).sum ≤ 8) (hk : am_ini j2 = true) (hen : (am_en [.ref a] (am_mx j2)).length = am_mx j2) {P : am_H → Option Value → Prop} (hc : am_Rq d j2 0 (am_en [.ref a] (am_mx j2)) [] hp (am_Ret P)) (k : ∀ hp1 v, P hp1 v → am_Rq (d + 1) j (pc + 3) lo (v.toList ++ rest) hp1 Q) : am_Rq (d + 1) j pc lo st hp Q :=
  am_Rq.call hd rfl rfl h2 [.ref a] rest hst hn hw hk hen hc k
theorem am_rep_i {n : Nat} {x : Int32} : List.replicate n (Value.int x) = am_ia (fun _ => x) n := by
  simp [am_ia, List.map_const']
theorem am_rep_l {n : Nat} {x : Int64} : List.replicate n (Value.long x) = am_la (fun _ => x) n := by
  simp [am_la, List.map_const']
theorem am_Rq.nwI {n : Nat} (hd : decode (am_by j) pc = .ok (.newarray .int, 2)) (hn : n ≤ 65536) (kk : am_Rq d j (pc + 2) lo (.ref hp.length :: st) (hp ++ [(100, am_ia (fun _ => nI 0) n)]) Q) : am_Rq d j pc lo (.int (nI n) :: st) hp Q :=
  am_Rq.nx hd rfl rfl rfl rfl (q := (pc + 2, lo, .ref hp.length :: st, hp ++ [(100, am_ia (fun _ => nI 0) n)])) (by simp only [am_nx, am_pl, am_jp, am_hs, am_z, nI_clamp (show n < 2 ^ 31 by omega), nI_pos (show n < 2 ^ 31 by omega), am_rep_i]; rw [if_pos ⟨not_false, hn⟩]) kk
theorem am_Rq.nwL {n : Nat} (hd : decode (am_by j) pc = .ok (.newarray .long, 2)) (hn : n ≤ 65536) (kk : am_Rq d j (pc + 2) lo (.ref hp.length :: st) (hp ++ [(101, am_la (fun _ => lN 0) n)]) Q) : am_Rq d j pc lo (.int (nI n) :: st) hp Q :=
  am_Rq.nx hd rfl rfl rfl rfl (q := (pc + 2, lo, .ref hp.length :: st, hp ++ [(101, am_la (fun _ => lN 0) n)])) (by simp only [am_nx, am_pl, am_jp, am_hs, am_z, nI_clamp (show n < 2 ^ 31 by omega), nI_pos (show n < 2 ^ 31 by omega), am_rep_l]; rw [if_pos ⟨not_false, hn⟩]) kk
theorem am_Rq.nwZ {n : Nat} (hd : decode (am_by j) pc = .ok (.newarray .boolean, 2)) (hn : n ≤ 65536) (kk : am_Rq d j (pc + 2) lo (.ref hp.length :: st) (hp ++ [(102, am_ia (fun _ => nI 0) n)]) Q) : am_Rq d j pc lo (.int (nI n) :: st) hp Q :=
  am_Rq.nx hd rfl rfl rfl rfl (q := (pc + 2, lo, .ref hp.length :: st, hp ++ [(102, am_ia (fun _ => nI 0) n)])) (by simp only [am_nx, am_pl, am_jp, am_hs, am_z, nI_clamp (show n < 2 ^ 31 by omega), nI_pos (show n < 2 ^ 31 by omega), am_rep_i]; rw [if_pos ⟨not_false, hn⟩]) kk
/-- references of which i are there -/
def am_rn (b q n i : Nat) : List Value := (List.range n).map fun k => if k < i then .ref (b + q * k) else .null
theorem am_rn0 {b q n : Nat} : am_rn b q n 0 = List.replicate n .null := by
  simp [am_rn, List.map_const']
theorem am_rnN {b q n : Nat} : am_rn b q n n = am_ra b q n := by
  unfold am_rn am_ra
  exact List.map_congr_left (fun k hk => if_pos (List.mem_range.mp hk))
theorem am_rnS {b q n i : Nat} : (am_rn b q n i).set i (.ref (b + q * i)) = am_rn b q n (i + 1) := by
  refine List.ext_getElem? (fun m => ?_)
  have e : ∀ i m, (am_rn b q n i)[m]? = if m < n then some (if m < i then .ref (b + q * m) else .null) else none := fun i m => by
    unfold am_rn
    rw [List.getElem?_map]
    by_cases h : m < n
    · rw [List.getElem?_range h, if_pos h]; rfl
    · rw [if_neg h, List.getElem?_eq_none (by simp; omega)]; rfl
  rw [List.getElem?_set, e, e]
  have hl : (am_rn b q n i).length = n := by simp [am_rn]
  rw [hl]
  by_cases em : i = m
  · subst em
    rw [if_pos rfl, if_pos (show i < i + 1 by omega)]
    done
  · rw [if_neg em]
    by_cases h : m < n
    · rw [if_pos h, if_pos h]
      by_cases h2 : m < i
      · rw [if_pos h2, if_pos (by omega)]
      · rw [if_neg h2, if_neg (by omega)]
    · rw [if_neg h, if_neg h]
theorem am_rn_len {b q n i : Nat} : (am_rn b q n i).length = n := by simp [am_rn]
theorem am_Rq.ana {ix ci n : Nat} (b q : Nat) (hd : decode (am_by j) pc = .ok (.anewarray ix, 3)) (h : am_an (am_w j) ix = some ci) (hc : ci = 1 ∨ ci = 2 ∨ ci = 3) (hn : n ≤ 65536) (kk : am_Rq d j (pc + 3) lo (.ref hp.length :: st) (hp ++ [(110 + ci, am_rn b q n 0)]) Q) : am_Rq d j pc lo (.int (nI n) :: st) hp Q :=
  am_Rq.nx hd rfl rfl rfl rfl (q := (pc + 3, lo, .ref hp.length :: st, hp ++ [(110 + ci, am_rn b q n 0)])) (by simp only [am_nx, am_pl, am_jp, am_hs, h, nI_clamp (show n < 2 ^ 31 by omega), nI_pos (show n < 2 ^ 31 by omega), am_rn0]; rw [if_pos ⟨hc, not_false, hn⟩]) kk
theorem am_Rq.aas {a b q n k ci : Nat} {fs : List Value} (hd : decode (am_by j) pc = .ok (.aastore, 1)) (hc : hp[a]? = some (110 + ci, am_rn b q n k)) (hci : ci < 90) (hv : hp[b + q * k]? = some (ci, fs)) (hk : k < n) (hn : n < 2 ^ 31) (ha : 2 ≤ a) (kk : am_Rq d j (pc + 1) lo st (hp.set a (110 + ci, am_rn b q n (k + 1))) Q) : am_Rq d j pc lo (.ref (b + q * k) :: .int (nI k) :: .ref a :: st) hp Q := by
  refine am_Rq.nx hd rfl rfl rfl rfl (q := (pc + 1, lo, st, hp.set a (110 + ci, am_rn b q n (k + 1)))) ?_ kk
  simp only [am_nx, am_pl, am_jp, am_hs, am_ast, hc, nI_clamp (show k < 2 ^ 31 by omega), am_rn_len]
  have ho : am_isO hp ci (.ref (b + q * k)) = true := am_isO_of hv
  rw [if_pos ⟨by rw [decide_eq_true (show 110 ≤ 110 + ci by omega), decide_eq_true (show 110 + ci < 200 by omega), Nat.add_sub_cancel_left, ho]; rfl, nI_pos (by omega), hk, ha⟩, am_rnS]
/-- 16 rows of 6 -/
theorem am_Rq.mna {ix : Nat} (hd : decode (am_by j) pc = .ok (.multianewarray ix 2, 4)) (h : am_mn (am_w j) ix = true) (kk : am_Rq d j (pc + 4) lo (.ref hp.length :: st) (hp ++ ((103, am_ra (hp.length + 1) 1 16) :: List.replicate 16 (100, am_ia (fun _ => nI 0) 6))) Q) : am_Rq d j pc lo (.int (nI 6) :: .int (nI 16) :: st) hp Q := by
  refine am_Rq.nx hd rfl rfl rfl rfl (q := (pc + 4, lo, .ref hp.length :: st, hp ++ ((103, am_ra (hp.length + 1) 1 16) :: List.replicate 16 (100, am_ia (fun _ => nI 0) 6)))) ?_ kk
  simp only [am_nx, am_pl, am_jp, am_hs, h, nI_clamp (show 16 < 2 ^ 31 by omega), nI_clamp (show 6 < 2 ^ 31 by omega), am_rep_i]
  have e : am_ra (hp.length + 1) 1 16 = (List.range 16).map fun k => Value.ref (hp.length + 1 + k) := by
    unfold am_ra
    exact List.map_congr_left (fun k _ => by rw [Nat.one_mul])
  rw [e]
  simp [nI_pos (show 16 < 2 ^ 31 by omega), nI_pos (show 6 < 2 ^ 31 by omega)]
end NW
/-- the heap has grown by n cells and t slots; of the old ones only those of A have changed -/
def ex (A : Nat → Prop) (hp hp1 : am_H) (n t : Nat) : Prop := hp1.length = hp.length + n ∧ am_tot hp1 = am_tot hp + t ∧ ∀ b, b < hp.length → ¬ A b → hp1[b]? = hp[b]?
theorem ex.rf {A : Nat → Prop} {hp : am_H} : ex A hp hp 0 0 := ⟨rfl, rfl, fun _ _ _ => rfl⟩
theorem ap_old {hp : am_H} {a : Nat} {c x : am_C} (h : hp[a]? = some c) : (hp ++ [x])[a]? = some c := by
  rw [List.getElem?_append_left (List.getElem?_eq_some_iff.mp h).1]
  exact h
theorem ap_new {hp : am_H} {c : am_C} {N : Nat} (h : hp.length = N) : (hp ++ [c])[N]? = some c := by
  subst h
  simp
theorem ex.push {A : Nat → Prop} {hp hp1 : am_H} {n t : Nat} (h : ex A hp hp1 n t) (c : am_C) : ex A hp (hp1 ++ [c]) (n + 1) (t + c.2.length) := by
  refine ⟨by rw [List.length_append, h.1]; rfl, by rw [am_tot_app, h.2.1, Nat.add_assoc], fun b hb hA => ?_⟩
  rw [List.getElem?_append_left (by rw [h.1]; omega)]
  exact h.2.2 b hb hA
theorem ex.fr {A B : Nat → Prop} {hp hp1 hp2 : am_H} {n t : Nat} (h : ex A hp hp1 n t) (hf : am_fr B hp1 hp2) (hB : ∀ b, B b → b < hp.length → A b) : ex A hp hp2 n t :=
  ⟨hf.1.trans h.1, hf.2.1.trans h.2.1, fun b hb hA => (hf.2.2 b (fun q => hA (hB b q hb))).trans (h.2.2 b hb hA)⟩
theorem ex.trans {A B : Nat → Prop} {hp hp1 hp2 : am_H} {n t n' t' : Nat} (h : ex A hp hp1 n t) (hf : ex B hp1 hp2 n' t') (hB : ∀ b, B b → b < hp.length → A b) : ex A hp hp2 (n + n') (t + t') :=
  ⟨by rw [hf.1, h.1, Nat.add_assoc], by rw [hf.2.1, h.2.1, Nat.add_assoc], fun b hb hA => (hf.2.2 b (by rw [h.1]; omega) (fun q => hA (hB b q hb))).trans (h.2.2 b hb hA)⟩
theorem ap_len {hp : am_H} {c : am_C} {N : Nat} (h : hp.length = N) : (hp ++ [c]).length = N + 1 := by
  rw [List.length_append, h]
  rfl
theorem Led.ap {hp : am_H} {b : Nat} {t : Nat → Nat} {x : am_C} (h : Led hp b t) : Led (hp ++ [x]) b t := ⟨h.1, fun o ho => ap_old (h.2 o ho)⟩
theorem Led.exk {hp hp1 : am_H} {b n t' : Nat} {t : Nat → Nat} {A : Nat → Prop} (h : Led hp b t) (hx : ex A hp hp1 n t') (hA : ∀ a, c_in b a → ¬ A a) : Led hp1 b t := ⟨h.1, fun o ho => (hx.2.2 (b + o) (List.getElem?_eq_some_iff.mp (h.2 o ho)).1 (hA _ ⟨by omega, by omega⟩)).trans (h.2 o ho)⟩
theorem c_H.ap {hp : am_H} {hh nx ct : Nat} {ks : Nat → Nat → Nat} {x : am_C} (h : c_H hp hh nx ct ks) : c_H (hp ++ [x]) hh nx ct ks := ⟨h.1, h.2.1, h.2.2.1, ap_old h.2.2.2.1, ap_old h.2.2.2.2.1, fun i hi => (h.2.2.2.2.2 i hi).ap⟩
theorem c_H.exk {hp hp1 : am_H} {hh nx ct n t' : Nat} {ks : Nat → Nat → Nat} {A : Nat → Prop} (h : c_H hp hh nx ct ks) (hx : ex A hp hp1 n t') (hA : ∀ a, c_hin hh a → ¬ A a) : c_H hp1 hh nx ct ks := by
  obtain ⟨h1, h2, h3, h4, h5, h6⟩ := h
  refine ⟨h1, h2, h3, (hx.2.2 _ (List.getElem?_eq_some_iff.mp h4).1 (hA _ ⟨by omega, by omega⟩)).trans h4, (hx.2.2 _ (List.getElem?_eq_some_iff.mp h5).1 (hA _ ⟨by omega, by omega⟩)).trans h5, fun i hi => (h6 i hi).exk hx (fun a ha => hA a ?_)⟩
  obtain ⟨a1, a2⟩ := ha
  exact ⟨by omega, by omega⟩
theorem mn_rep {x : am_C} : ∀ {n k : Nat}, k < n → (List.replicate n x)[k]? = some x := fun {n k} h => by simp [h]
theorem mn_new {hp : am_H} {c x : am_C} {N : Nat} (h : hp.length = N) : (hp ++ (c :: List.replicate 16 x))[N]? = some c ∧ (∀ e, e < 16 → (hp ++ (c :: List.replicate 16 x))[N + 1 + 1 * e]? = some x) ∧ (hp ++ (c :: List.replicate 16 x)).length = N + 17 := by
  subst h
  refine ⟨by rw [List.getElem?_append_right (Nat.le_refl _), Nat.sub_self]; rfl, fun e he => ?_, by simp⟩
  rw [List.getElem?_append_right (by omega), show hp.length + 1 + 1 * e - hp.length = e + 1 by omega, List.getElem?_cons_succ]
  exact mn_rep he
theorem mn_old {hp : am_H} {c x d : am_C} {a : Nat} (h : hp[a]? = some d) : (hp ++ (c :: List.replicate 16 x))[a]? = some d := by
  rw [List.getElem?_append_left (List.getElem?_eq_some_iff.mp h).1]
  exact h
theorem am_tot_rep' (hp : am_H) (c x : am_C) : am_tot (hp ++ (c :: List.replicate 16 x)) = am_tot hp + (c.2.length + 16 * x.2.length) := by
  simp [am_tot]
  try omega
theorem ex.mn {A : Nat → Prop} {hp hp1 : am_H} {n t : Nat} (h : ex A hp hp1 n t) (c x : am_C) : ex A hp (hp1 ++ (c :: List.replicate 16 x)) (n + 17) (t + (c.2.length + 16 * x.2.length)) := by
  refine ⟨by rw [List.length_append, h.1]; simp; omega, by rw [am_tot_rep', h.2.1]; omega, fun b hb hA => ?_⟩
  rw [List.getElem?_append_left (by rw [h.1]; omega)]
  exact h.2.2 b hb hA
