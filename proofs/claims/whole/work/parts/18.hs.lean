/-! One heap instruction of the abstract machine is sound. -/
def am_tot (hp : am_H) : Nat := (hp.map fun c => c.2.length).sum
theorem am_tot_app (hp : am_H) (c : am_C) : am_tot (hp ++ [c]) = am_tot hp + c.2.length := by simp [am_tot]
theorem am_tot_set : ∀ {hp : am_H} {a : Nat} {c c' : am_C}, hp[a]? = some c → c'.2.length = c.2.length → am_tot (hp.set a c') = am_tot hp
  | [], _, _, _, h, _ => by cases h
  | x :: t, 0, c, c', h, hl => by
    cases h
    simp [am_tot, hl]
  | x :: t, a + 1, c, c', h, hl => by
    have h1 : t[a]? = some c := h
    have h2 := am_tot_set h1 hl
    simp only [am_tot, List.set_cons_succ, List.map_cons, List.sum_cons] at h2 ⊢
    rw [h2]
section AMS
variable {p : Program} {l : Launch} {e : Env} {R : Room} {s : State} {m : MethodId} {args : Array Value} {below : List Frame} {meth : Method} {c : Code} {H : Heap} {locs : List Loc} {cells slots : Nat} {Q : State → Prop}
variable {D : va_G} {B : Nat} {ad : Nat → Nat} {hp : am_H} {cc : ByteArray} {w pc : Nat} {ls : Array Slot} {lo : am_L}
theorem am_ald_inv {kd : Nat → Bool} {st : List Value} {q : Nat × am_L × List Value × am_H} (h : am_ald kd pc lo st hp = some q) : ∃ i a r k fs v, st = .int i :: .ref a :: r ∧ hp[a]? = some (k, fs) ∧ kd k = true ∧ ¬ i < 0 ∧ fs[i.toNatClampNeg]? = some v ∧ q = (pc + 1, lo, v :: r, hp) := by
  unfold am_ald at h
  split at h
  · rename_i i a r
    split at h
    · rename_i c hc
      split at h
      · rename_i hk
        cases hv : c.2[i.toNatClampNeg]? with
        | none => rw [hv] at h; cases h
        | some v => rw [hv] at h; cases h; exact ⟨i, a, r, c.1, c.2, v, rfl, hc, hk.1, hk.2, hv, rfl⟩
      · cases h
    · cases h
  · cases h
theorem am_ast_inv {kd : Nat → Value → Bool} {st : List Value} {q : Nat × am_L × List Value × am_H} (h : am_ast kd pc lo st hp = some q) : ∃ v i a r k fs, st = v :: .int i :: .ref a :: r ∧ hp[a]? = some (k, fs) ∧ kd k v = true ∧ ¬ i < 0 ∧ i.toNatClampNeg < fs.length ∧ 2 ≤ a ∧ q = (pc + 1, lo, r, hp.set a (k, fs.set i.toNatClampNeg v)) := by
  unfold am_ast at h
  split at h
  · rename_i v i a r
    split at h
    · rename_i c hc
      split at h
      · rename_i hk
        cases h
        exact ⟨v, i, a, r, c.1, c.2, rfl, hc, hk.1, hk.2.1, hk.2.2.1, hk.2.2.2, rfl⟩
      · cases h
    · cases h
  · cases h
/-- behind a store of a value into an array -/
theorem am_st_fin {a k n : Nat} {fs : List Value} {v : Value} {cell : Cell} (hH : am_HR D B ad s hp H) (hS : va_S (fun q => B ≤ q) s.heap H locs) (hc : hp[a]? = some (k, fs)) (hk : 100 ≤ k ∧ k < 200) (hn : n < fs.length) (ha : 2 ≤ a) (hcell : H[ad a]? = some cell) {H' : Heap} (e1 : H'[ad a]? = some (cell.setSlot n (am_tv ad v))) (e2 : H'.size = H.size) (e3 : ∀ q, q ≠ ad a → H'[q]? = H[q]?) :
    am_HR D B ad s (hp.set a (k, fs.set n v)) H' ∧ va_S (fun q => B ≤ q) s.heap H' (locs ++ [⟨ad a, n⟩]) :=
  ⟨hH.put ha (Or.inr (Or.inl ⟨hk, ((hH.2.2.2 a _ hc).arr hk).set hcell hn e1⟩)) e3 e2, hS.put e2 e3 (hH.1.ge ha)⟩
/-- behind a making -/
theorem am_nw_fin {cl : am_C} (hH : am_HR D B ad s hp H) (hS : va_S (fun q => B ≤ q) s.heap H locs) {H' : Heap} (hn : am_CR D ad s H' hp.length cl) (ho : ∀ q, q < H.size → H'[q]? = H[q]?) (hz : H'.size = H.size + 1) : am_HR D B ad s (hp ++ [cl]) H' ∧ va_S (fun q => B ≤ q) s.heap H' locs :=
  ⟨hH.push hn ho hz, ⟨by have := hS.1; omega, fun q h1 h2 => (ho q (by have := hS.1; omega)).trans (hS.2.1 q h1 h2), hS.2.2⟩⟩
theorem am_bz : ∀ x : Int32, am_isZ (.int x) = true → narrow .boolean (.int x) = .int x := by
  intro x h
  rcases am_tvZ h with z | z <;> cases z <;> decide +kernel
theorem am_newA {k N : Nat} {z : Value} {cA : ClassId} {ty : FieldType} {H' : Heap} (hk : 100 ≤ k ∧ k < 110) (hty : am_aty k = ty) (hz : am_tv ad z = defaultValue ty) (hc : H'[ad hp.length]? = some (arrV cA N (fun _ => defaultValue ty))) (ha : ArrOfT s cA ty) : am_CR D ad s H' hp.length (k, List.replicate N z) := by
  refine Or.inr (Or.inl ⟨⟨hk.1, by show k < 200; omega⟩, _, hc, by rw [hty]; exact ha _ _, (fun q => by cases q), (fun q => by dsimp only at q; omega), by rw [arrV_size, List.length_replicate]; exact Nat.le_refl _, by rw [arrV_size, List.length_replicate], fun j v hj => ?_⟩)
  rw [List.getElem?_replicate] at hj
  split at hj
  · cases hj
    rename_i hlt
    rw [arrV_read _ _ hlt, hz]
  · cases hj
end AMS
theorem am_aty_o {k : Nat} (h : 110 ≤ k) : am_aty k = .object (am_on (k - 110)) := by
  unfold am_aty
  split <;> first | omega | rfl
theorem am_isO_inv {hp : am_H} {ci : Nat} {v : Value} (h : am_isO hp ci v = true) : ∃ b fs, v = .ref b ∧ hp[b]? = some (ci, fs) := by
  unfold am_isO at h
  split at h
  · rename_i b
    split at h
    · rename_i c hc
      refine ⟨b, c.2, rfl, ?_⟩
      rw [hc, ← of_decide_eq_true h]
    · cases h
  · cases h
theorem am_tv_df (ad : Nat → Nat) (ty : FieldType) : am_tv ad (defaultValue ty) = defaultValue ty := by cases ty <;> rfl
def am_okG (w : Nat) (ix : Nat) : Bool := decide (Cond.fieldLinkNest (am_on w) ix "StableSale" "SETS_IN_ORDER" "[I" "StableSale" ∈ lw_tbl)
set_option maxRecDepth 100000 in
theorem am_okG_all : am_gsL.zipIdx.all (fun x => x.1.all (am_okG x.2)) = true := by decide +kernel
theorem am_gs_ok {w ix a : Nat} (h : am_gs w ix = some a) : a = 1 ∧ Cond.fieldLinkNest (am_on w) ix "StableSale" "SETS_IN_ORDER" "[I" "StableSale" ∈ lw_tbl := by
  unfold am_gs at h
  split at h
  · rename_i hc
    refine ⟨(Option.some.inj h).symm, ?_⟩
    rw [List.getD_eq_getElem?_getD] at hc
    cases hr : am_gsL[w]? with
    | none => rw [hr] at hc; cases hc
    | some r =>
      rw [hr] at hc
      exact of_decide_eq_true (List.all_eq_true.mp (am_zall am_okG_all hr) ix (List.elem_iff.mp hc))
  · cases h
set_option maxRecDepth 100000 in
theorem am_oi1 : Cond.instanceMethod objectInit ∈ lw_tbl := by decide +kernel
set_option maxRecDepth 100000 in
theorem am_oi2 : Cond.code objectInit ⟨#[0xb1]⟩ 1 none ∈ lw_tbl := by decide +kernel
set_option maxRecDepth 100000 in
theorem am_ac1 : Cond.native arraycopyName ∈ lw_tbl := by decide +kernel
set_option maxRecDepth 100000 in
theorem am_ac2 : Cond.static arraycopyName ∈ lw_tbl := by decide +kernel
set_option maxRecDepth 100000 in
theorem am_ac3 : Cond.initialized "java/lang/System" ∈ lw_tbl := by decide +kernel
theorem am_pairs : ∀ (xs : List Value) (i at_ : Nat) (cd : Cell) (k : Nat), at_ + i + xs.length ≤ cd.slots.size → (cd.storePairs at_ (xs.zipIdx i)).slots[k]? = if at_ + i ≤ k ∧ k < at_ + i + xs.length then xs[k - (at_ + i)]? else cd.slots[k]?
  | [], i, at_, cd, k, _ => by
    rw [if_neg (by simp only [List.length_nil]; omega)]
    rfl
  | x :: xs, i, at_, cd, k, h => by
    rw [List.zipIdx_cons]
    show ((cd.setSlot (at_ + i) x).storePairs at_ (xs.zipIdx (i + 1))).slots[k]? = _
    simp only [List.length_cons] at h
    rw [am_pairs xs (i + 1) at_ _ k (by rw [k2_slotsz]; omega)]
    by_cases hk : k = at_ + i
    · subst hk
      rw [if_neg (by omega), if_pos (by simp only [List.length_cons]; omega), Nat.sub_self]
      have : at_ + i < cd.slots.size := by omega
      simp [Cell.setSlot, this]
    · by_cases h2 : at_ + (i + 1) ≤ k ∧ k < at_ + (i + 1) + xs.length
      · rw [if_pos h2, if_pos (by simp only [List.length_cons]; omega)]
        have e : k - (at_ + i) = (k - (at_ + (i + 1))) + 1 := by omega
        rw [e, List.getElem?_cons_succ]
      · rw [if_neg h2, if_neg (by simp only [List.length_cons]; omega)]
        exact slot_ne _ _ (fun q => hk q.symm)
theorem am_nnI {z : Int32} (hz : ¬ z < 0) : z.toInt = (z.toNatClampNeg : Int) := by
  have hz0 : (0 : Int) ≤ z.toInt := by
    have := Int32.not_lt.mp hz
    simpa using Int32.le_iff_toInt_le.mp this
  show z.toInt = ((z.toInt.toNat : Nat) : Int)
  omega
section AMS3
variable {p : Program} {l : Launch} {e : Env} {R : Room} {s : State} {m : MethodId} {args : Array Value} {below : List Frame} {meth : Method} {c : Code} {H : Heap} {locs : List Loc} {cells slots : Nat} {Q : State → Prop}
variable {D : va_G} {B : Nat} {ad : Nat → Nat} {hp : am_H} {cc : ByteArray} {w pc : Nat} {ls : Array Slot} {lo : am_L}
theorem am_W_copy {own : String} (hx : p.tables.exec = Jvm.exec) (hb : c.code = cc) (hml : c.maxLocals = lo.length) (hown : s.vm.findClass own = some m.cls) {ix : Nat} (hlink : (Cond.methodLink own ix arraycopyName).before args s = true) (hnat : (Cond.native arraycopyName).before args s = true) (hstat : (Cond.static arraycopyName).before args s = true) (hini : (Cond.initialized "java/lang/System").before args s = true)
    (hfr : 1 ≤ R.frames) (hlo : 100 ≤ R.locals) (hH : am_HR D B ad s hp H) (hS : va_S (fun q => B ≤ q) s.heap H locs) (hL : am_LR ad lo ls) {a b : Nat} {f g r : List Value} {n : Int32} (hf : hp[a]? = some (100, f)) (hg : hp[b]? = some (100, g)) (hb2 : 2 ≤ b) (hn : ¬ n < 0) (hnl : n.toNatClampNeg = f.length) (hgl : g.length = f.length) (hall : f.all am_isI = true) (hw : (r.map fun v => v.category).sum ≤ 8) (hd : decode cc pc = .ok (.invokestatic ix, 3))
    (kk : ∀ (H1 : Heap) (locs1 : List Loc), am_HR D B ad s (hp.set b (100, f)) H1 → va_S (fun q => B ≤ q) s.heap H1 locs1 → W p l e R s m args below meth c H1 locs1 cells slots Q (F0 m (pc + 3) ls (r.map (am_tv ad)))) : W p l e R s m args below meth c H locs cells slots Q (F0 m pc ls (.int n :: .int 0 :: .ref (ad b) :: .int 0 :: .ref (ad a) :: r.map (am_tv ad))) := by
  obtain ⟨cs, s1, s2, s3, -, s5, s6, s7⟩ := (hH.2.2.2 a _ hf).arr (by decide)
  obtain ⟨cd, d1, d2, d3, d4, d5, d6, d7⟩ := (hH.2.2.2 b _ hg).arr (by decide)
  obtain ⟨s8, ks, hks, cks, hkk⟩ := id s2
  obtain ⟨d8, kd, hkd, ckd, hkk2⟩ := id d2
  have z0 : (0 : Int32).toNatClampNeg = 0 := rfl
  have z1 : (0 : Int32).toInt = 0 := rfl
  intro T hT X
  obtain ⟨vm', X', step⟩ := X.arraycopy hx hown hlink hnat hstat hini (src := ad a) (dst := ad b) (cs := cs) (cd := cd) (srcPos := 0) (destPos := 0) (n := n) (by rw [hT]; exact s1) (by rw [hT]; exact d1) s8 d8 s3 d3 hks hkd hkk hkk2 (by decide) (by decide) (by decide) hn
    (by rw [z1, am_nnI hn, hnl]; omega) (by rw [z1, am_nnI hn, hnl]; omega)
    (fun vm₁ _ i hi => by
      rw [z0, Nat.zero_add]
      rw [hnl] at hi
      have h1 : f[i]? = some f[i] := List.getElem?_eq_getElem hi
      obtain ⟨x, hxi⟩ := am_tvI (ad := ad) (List.all_eq_true.mp hall _ (List.mem_of_getElem? h1))
      have h2 := s7 i _ h1
      rw [hxi] at h2
      have e : cs.slots.getD i .null = .int x := by rw [Array.getD_eq_getD_getElem?, h2]; rfl
      rw [e]
      exact ⟨rfl, trivial⟩)
    (g := F0 m pc ls (.int n :: .int 0 :: .ref (ad b) :: .int 0 :: .ref (ad a) :: r.map (am_tv ad))) rfl (hL.1.trans hml.symm) (rest := r.map (am_tv ad)) rfl (by rw [hb]; exact hd) hfr (by
      show 2 * 0 + ((r.map (am_tv ad)).map fun v => v.category).sum + (nativeFrameWords "java/lang/System" "arraycopy" 5 + 11) ≤ R.locals
      rw [am_sum_cat]
      have : nativeFrameWords "java/lang/System" "arraycopy" 5 ≤ 60 := by decide +kernel
      omega)
  have hlt : ad b < H.size := (Array.getElem?_eq_some_iff.mp d1).1
  have hheap : ((T.setVm vm').setCell (ad b) (copied cs cd 0 0 n)).heap = H.setIfInBounds (ad b) (copied cs cd 0 0 n) := by rw [← hT]; rfl
  have oq : ∀ q : Nat, q ≠ ad b → (H.setIfInBounds (ad b) (copied cs cd 0 0 n))[q]? = H[q]? := fun q hq => by simp [Array.getElem?_setIfInBounds, Ne.symm hq]
  have hself : (H.setIfInBounds (ad b) (copied cs cd 0 0 n))[ad b]? = some (copied cs cd 0 0 n) := by simp [Array.getElem?_setIfInBounds, hlt]
  have hcf := Cell.storePairs_facts cd 0 ((cs.stretch 0 f.length).zipIdx)
  have hce : copied cs cd 0 0 n = cd.storePairs 0 ((cs.stretch 0 f.length).zipIdx 0) := by
    unfold copied Cell.storeRun
    rw [z0, hnl]
  have hlen : (cs.stretch 0 f.length).length = f.length := by simp [Cell.stretch]
  have hcr : am_CR D ad s (H.setIfInBounds (ad b) (copied cs cd 0 0 n)) b (100, f) := by
    refine Or.inr (Or.inl ⟨⟨Nat.le_refl 100, by show 100 < 200; decide⟩, _, hself, ?_, ?_, (fun q => by dsimp only at q; omega), ?_, ?_, fun k v hk => ?_⟩)
    · rw [hce]
      exact ⟨fun k q => d8 k (hcf.2.1 ▸ q), kd, by rw [hcf.1]; exact hkd, ckd, hkk2⟩
    · rw [hce]; exact fun q => d3 (hcf.2.1 ▸ q)
    · rw [hce]; show f.length ≤ _; rw [hcf.2.2.1]; omega
    · rw [hce]; show _ = Int32.ofNat f.length; rw [hcf.2.2.1, d6, hgl]
    · dsimp only at hk
      have hkl := (List.getElem?_eq_some_iff.mp hk).1
      rw [hce, am_pairs _ 0 0 cd k (by rw [hlen]; omega), if_pos (by rw [hlen]; omega)]
      have h2 := s7 k v hk
      simp only [Cell.stretch, Nat.zero_add, Nat.sub_zero, List.getElem?_map, List.getElem?_range hkl, Option.map_some, Array.getD_eq_getD_getElem?, h2, Option.getD_some]
  obtain ⟨t, a1, b1⟩ := kk _ _ (hH.put hb2 hcr oq (by simp)) ⟨by simp; exact hS.1, fun q g1 g2 => by
      rw [oq q (fun e => g2 (by rw [e]; exact hH.1.ge hb2))]
      exact hS.2.1 q g1 g2, fun q hq => by
      rcases List.mem_append.mp hq with h | h
      · exact hS.2.2 q h
      · obtain ⟨z, -, hz⟩ := List.mem_map.mp h
        rw [← hz]
        exact hH.1.ge hb2⟩ _ hheap X'
  exact ⟨t, step t a1, b1⟩
end AMS3
section AMSM
variable {p : Program} {l : Launch} {e : Env} {R : Room} {s : State} {m : MethodId} {args : Array Value} {below : List Frame} {meth : Method} {c : Code} {H : Heap} {locs : List Loc} {cells slots : Nat} {Q : State → Prop}
variable {D : va_G} {B : Nat} {ad : Nat → Nat} {hp : am_H} {cc : ByteArray} {w pc : Nat} {ls : Array Slot} {lo : am_L}
theorem am_mn_ok {w ix : Nat} (h : am_mn w ix = true) : w = 6 ∧ ix = 18 := by
  by_cases hw : w < 11
  · have : w = 0 ∨ w = 1 ∨ w = 2 ∨ w = 3 ∨ w = 4 ∨ w = 5 ∨ w = 6 ∨ w = 7 ∨ w = 8 ∨ w = 9 ∨ w = 10 := by omega
    rcases this with z | z | z | z | z | z | z | z | z | z | z <;> subst z <;> simp [am_mn, am_mnL] at h
    exact ⟨rfl, h⟩
  · unfold am_mn at h
    rw [List.getD_eq_getElem?_getD, List.getElem?_eq_none (by show 11 ≤ w; omega)] at h
    simp at h
set_option maxRecDepth 100000 in
theorem am_mn1 : Cond.classLink (am_on 6) 18 ("[" ++ (FieldType.array .int).toString) ∈ lw_tbl := by decide +kernel
set_option maxRecDepth 100000 in
theorem am_mn2 : Cond.arrayClass .int ∈ lw_tbl := by decide +kernel
theorem am_tot_rep (hp : am_H) (c : am_C) (K : Nat) (d : am_C) : am_tot (hp ++ (c :: List.replicate K d)) = am_tot hp + c.2.length + K * d.2.length := by
  simp [am_tot]
  omega
theorem am_W_mna {own : String} {ix n0 t0 : Nat} (hx : p.tables.exec = Jvm.exec) (hb : c.code = cc) (hown : s.vm.findClass own = some m.cls) (hlink : (Cond.classLink own ix ("[" ++ (FieldType.array .int).toString)).before args s = true) (hAO : am_AO2 s) (hAC : (Cond.arrayClass .int).before args s = true)
    (hH : am_HR D B ad s hp H) (hS : va_S (fun q => B ≤ q) s.heap H locs) (hL : am_LR ad lo ls) (hc0 : cells + n0 = hp.length) (hs0 : slots + t0 = am_tot hp) {n k : Int32} {r : List Value} (hd : decode cc pc = .ok (.multianewarray ix 2, 4)) (h1 : ¬ n < 0) (h2 : ¬ k < 0) (h3 : n.toNatClampNeg ≤ 1024) (h4 : k.toNatClampNeg ≤ 1024)
    (hcb : (hp ++ ((103, (List.range k.toNatClampNeg).map fun j => Value.ref (hp.length + 1 + j)) :: List.replicate k.toNatClampNeg (100, List.replicate n.toNatClampNeg (.int (nI 0))))).length ≤ R.cells + n0) (hsb : am_tot (hp ++ ((103, (List.range k.toNatClampNeg).map fun j => Value.ref (hp.length + 1 + j)) :: List.replicate k.toNatClampNeg (100, List.replicate n.toNatClampNeg (.int (nI 0))))) ≤ R.slots + t0)
    (kk : ∀ (H1 : Heap) (locs1 : List Loc) (cells1 slots1 : Nat) (ls1 : Array Slot), cells1 + n0 = (hp ++ ((103, (List.range k.toNatClampNeg).map fun j => Value.ref (hp.length + 1 + j)) :: List.replicate k.toNatClampNeg (100, List.replicate n.toNatClampNeg (.int (nI 0))))).length → slots1 + t0 = am_tot (hp ++ ((103, (List.range k.toNatClampNeg).map fun j => Value.ref (hp.length + 1 + j)) :: List.replicate k.toNatClampNeg (100, List.replicate n.toNatClampNeg (.int (nI 0))))) → am_HR D B ad s (hp ++ ((103, (List.range k.toNatClampNeg).map fun j => Value.ref (hp.length + 1 + j)) :: List.replicate k.toNatClampNeg (100, List.replicate n.toNatClampNeg (.int (nI 0))))) H1 → va_S (fun q => B ≤ q) s.heap H1 locs1 → am_LR ad lo ls1 → W p l e R s m args below meth c H1 locs1 cells1 slots1 Q (F0 m (pc + 4) ls1 ((.ref hp.length :: r).map (am_tv ad)))) :
    W p l e R s m args below meth c H locs cells slots Q (F0 m pc ls ((.int n :: .int k :: r).map (am_tv ad))) := by
  have hlen : (hp ++ ((103, (List.range k.toNatClampNeg).map fun j => Value.ref (hp.length + 1 + j)) :: List.replicate k.toNatClampNeg (100, List.replicate n.toNatClampNeg (Value.int (nI 0))))).length = hp.length + 1 + k.toNatClampNeg := by
    simp; omega
  have htot : am_tot (hp ++ ((103, (List.range k.toNatClampNeg).map fun j => Value.ref (hp.length + 1 + j)) :: List.replicate k.toNatClampNeg (100, List.replicate n.toNatClampNeg (Value.int (nI 0))))) = am_tot hp + k.toNatClampNeg + k.toNatClampNeg * n.toNatClampNeg := by
    rw [am_tot_rep]; simp
  rw [hlen] at hcb
  rw [htot] at hsb
  intro T hT X
  have hb2 : n.toNatClampNeg * componentBytes .int ≤ 536870912 := by
    show n.toNatClampNeg * 4 ≤ 536870912
    omega
  obtain ⟨vm₁, cA, comp, hW, fA, fC, hO, hI, X', step⟩ := X.multianewarray2F hx hown hlink hAO hAC (g := F0 m pc ls ((.int n :: .int k :: r).map (am_tv ad))) rfl (by rw [hb]; exact hd) (n := k) (k := n) (rest := r.map (am_tv ad)) rfl h2 h1 (by omega) hb2 (by omega) rfl rfl (by omega) (by omega)
  obtain ⟨f1, f2, f3, f4⟩ := Jvm.Free.Multi.fill_facts (T.setVm vm₁) cA comp k.toNatClampNeg n.toNatClampNeg (defaultValue .int) k.toNatClampNeg
  have hTs : (T.setVm vm₁).heap = H := hT
  rw [hTs] at f1 f2
  have htop : ad hp.length = H.size := hH.top
  have hadk : ∀ j, ad (hp.length + 1 + j) = H.size + 1 + j := fun j => by
    have h9 := hH.2.2.1
    have h10 := hH.2.1
    obtain ⟨q, hq⟩ : ∃ q, hp.length + 1 + j = q + 2 := ⟨hp.length + 1 + j - 2, by omega⟩
    rw [hq, hH.1.2.2 q]
    omega
  generalize hF : Jvm.Free.Multi.fill (T.setVm vm₁) cA comp k.toNatClampNeg n.toNatClampNeg (defaultValue .int) k.toNatClampNeg = TF at f1 f2 f3 f4 X' step
  have hold : ∀ q, q < H.size → TF.heap[q]? = H[q]? := fun q hq => by
    rw [← hF, Jvm.Free.Multi.fill_old (T.setVm vm₁) cA comp _ _ _ (by rw [hTs]; exact hq), hTs]
  have hinn : ∀ j, j < k.toNatClampNeg → TF.heap[H.size + 1 + j]? = some (Jvm.Free.Multi.innerC comp n.toNatClampNeg (defaultValue .int)) := fun j hj => by
    have := Jvm.Free.Multi.fill_inner (T.setVm vm₁) cA comp k.toNatClampNeg n.toNatClampNeg (defaultValue .int) k.toNatClampNeg j hj
    rw [hTs, hF] at this
    exact this
  have hHR : am_HR D B ad s (hp ++ ((103, (List.range k.toNatClampNeg).map fun j => Value.ref (hp.length + 1 + j)) :: List.replicate k.toNatClampNeg (100, List.replicate n.toNatClampNeg (Value.int (nI 0))))) TF.heap := by
    refine ⟨hH.1, by rw [hlen]; have := hH.2.1; omega, by rw [hlen, f1]; have := hH.2.2.1; omega, fun b d hbd => ?_⟩
    by_cases e1 : b < hp.length
    · rw [List.getElem?_append_left e1] at hbd
      have h9 := hH.2.2.2 b d hbd
      exact h9.kept (hold _ h9.lt)
    · rw [List.getElem?_append_right (by omega)] at hbd
      by_cases e2 : b = hp.length
      · subst e2
        rw [Nat.sub_self, List.getElem?_cons_zero] at hbd
        cases hbd
        obtain ⟨o1, o2, o3⟩ := Jvm.Free.Multi.outerC_facts cA k.toNatClampNeg H.size k.toNatClampNeg
        refine Or.inr (Or.inl ⟨⟨by dsimp only; omega, by dsimp only; omega⟩, _, by rw [htop]; exact f2, (hO _ _ _).1, (hO _ _ _).2, fun z => by dsimp only at z; omega, ?_, ?_, fun j v hj => ?_⟩)
        · rw [o3]; simp
        · rw [o3]; simp [Nat.toInt32]
        · rw [List.getElem?_map] at hj
          by_cases hjk : j < k.toNatClampNeg
          · rw [List.getElem?_range hjk] at hj
            cases hj
            rw [Jvm.Free.Multi.outerC_slot cA _ _ _ _ hjk, if_pos hjk]
            show some (Value.ref (H.size + 1 + j)) = some (Value.ref (ad (hp.length + 1 + j)))
            rw [hadk]
          · rw [List.getElem?_eq_none (by simp; omega)] at hj
            cases hj
      · obtain ⟨q, hq⟩ : ∃ q, b = hp.length + 1 + q := ⟨b - hp.length - 1, by omega⟩
        subst hq
        rw [show hp.length + 1 + q - hp.length = q + 1 by omega, List.getElem?_cons_succ, List.getElem?_replicate] at hbd
        split at hbd
        · rename_i hqk
          cases hbd
          refine Or.inr (Or.inl ⟨⟨by dsimp only; omega, by dsimp only; omega⟩, _, by rw [hadk]; exact hinn q hqk, (hI _ _).1, (hI _ _).2, fun z => by dsimp only at z; omega, ?_, ?_, fun j v hj => ?_⟩)
          · simp [Jvm.Free.Multi.innerC]
          · simp [Jvm.Free.Multi.innerC, Nat.toInt32]
          · rw [List.getElem?_replicate] at hj
            split at hj
            · rename_i hjn
              cases hj
              simp only [Jvm.Free.Multi.innerC, Array.getElem?_replicate, hjn, if_true]
              rfl
            · cases hj
        · cases hbd
  obtain ⟨t, a1, b1⟩ := kk TF.heap locs (cells + 1 + k.toNatClampNeg) (slots + k.toNatClampNeg + k.toNatClampNeg * n.toNatClampNeg) ls (by rw [hlen]; omega) (by rw [htot]; omega) hHR ⟨by rw [f1]; have := hS.1; omega, fun q g1 g2 => (hold q (by have := hS.1; omega)).trans (hS.2.1 q g1 g2), hS.2.2⟩ hL TF rfl X'
  refine ⟨t, step t ?_, b1⟩
  have : (Value.ref hp.length :: r).map (am_tv ad) = .ref T.heap.size :: r.map (am_tv ad) := by
    show Value.ref (ad hp.length) :: _ = _
    rw [htop, hT]
  rw [this] at a1
  exact a1
end AMSM
section AMS2
variable {p : Program} {l : Launch} {e : Env} {R : Room} {s : State} {m : MethodId} {args : Array Value} {below : List Frame} {meth : Method} {c : Code} {H : Heap} {locs : List Loc} {cells slots : Nat} {Q : State → Prop}
variable {D : va_G} {B : Nat} {ad : Nat → Nat} {hp : am_H} {cc : ByteArray} {w pc : Nat} {ls : Array Slot} {lo : am_L}
set_option maxHeartbeats 4000000 in
theorem am_W_hs {j n0 t0 : Nat} (hx : p.tables.exec = Jvm.exec) (hb : c.code = cc) (hml : c.maxLocals = lo.length) (hown : s.vm.findClass (am_on w) = some m.cls) (hin : am_ini j = true → meth.name = "<init>") (hK : am_K D s) (hZ : va_Z "StableSale" "SETS_IN_ORDER" "[I" (.ref (ad 1)) (fun q => B ≤ q) s s.heap)
    (hfr : 1 ≤ R.frames) (hlo : 100 ≤ R.locals) (hH : am_HR D B ad s hp H) (hS : va_S (fun q => B ≤ q) s.heap H locs) (hL : am_LR ad lo ls) (hc0 : cells + n0 = hp.length) (hs0 : slots + t0 = am_tot hp)
    {i : Instr} {len : Nat} {st : List Value} {q : Nat × am_L × List Value × am_H} (hd : decode cc pc = .ok (i, len)) (hl : am_lk i len = true) (h : am_hs j w i pc lo st hp = some q) (hcb : q.2.2.2.length ≤ R.cells + n0) (hsb : am_tot q.2.2.2 ≤ R.slots + t0)
    (kk : ∀ (H1 : Heap) (locs1 : List Loc) (cells1 slots1 : Nat) (ls1 : Array Slot), cells1 + n0 = q.2.2.2.length → slots1 + t0 = am_tot q.2.2.2 → am_HR D B ad s q.2.2.2 H1 → va_S (fun q => B ≤ q) s.heap H1 locs1 → am_LR ad q.2.1 ls1 → W p l e R s m args below meth c H1 locs1 cells1 slots1 Q (F0 m q.1 ls1 (q.2.2.1.map (am_tv ad)))) :
    W p l e R s m args below meth c H locs cells slots Q (F0 m pc ls (st.map (am_tv ad))) := by
  cases i
  case getfield ix =>
    obtain rfl : len = 3 := of_decide_eq_true hl
    simp only [am_hs] at h
    split at h
    · rename_i ci k hf
      split at h
      · rename_i a r
        split at h
        · rename_i c2 hc
          split at h
          · rename_i he
            subst he
            cases hv : c2.2[k]? with
            | none => rw [hv] at h; cases h
            | some v =>
              rw [hv] at h
              cases h
              exact am_W_getf hx hb hown hK hH hd hf hc hv (kk H locs cells slots ls hc0 hs0 hH hS hL)
          · cases h
        · cases h
      · cases h
    · cases h
  case putfield ix =>
    obtain rfl : len = 3 := of_decide_eq_true hl
    simp only [am_hs] at h
    split at h
    · rename_i ci k hf
      split at h
      · rename_i v a r
        split at h
        · rename_i c2 hc
          split at h
          · rename_i he
            obtain ⟨he, h1, h2, h3, h4⟩ := he
            subst he
            cases h
            exact am_W_putf hx hb hown hK hH hS hd hf hc h1 h2 (h3.imp id (fun z => ⟨hin z.1, z.2⟩)) h4 (fun H1 locs1 a1 a2 => kk H1 locs1 cells slots ls (by rw [List.length_set]; exact hc0) (by rw [am_tot_set hc (by simp)]; exact hs0) a1 a2 hL)
          · cases h
        · cases h
      · cases h
    · cases h
  case iaload =>
    obtain rfl : len = 1 := of_decide_eq_true hl
    obtain ⟨i, a, r, k, fs, v, rfl, hc, hk, h0, hv, rfl⟩ := am_ald_inv (by simpa only [am_hs] using h)
    obtain rfl : k = 100 := of_decide_eq_true hk
    obtain ⟨cell, q1, q2, q3, q4, q5⟩ := ((hH.2.2.2 a _ hc).arr (by decide)).rd h0 hv
    exact W.iald hx hb q1 q2 q3 q4 q5 rfl rfl hd (kk H locs cells slots ls hc0 hs0 hH hS hL)
  case laload =>
    obtain rfl : len = 1 := of_decide_eq_true hl
    obtain ⟨i, a, r, k, fs, v, rfl, hc, hk, h0, hv, rfl⟩ := am_ald_inv (by simpa only [am_hs] using h)
    obtain rfl : k = 101 := of_decide_eq_true hk
    obtain ⟨cell, q1, q2, q3, q4, q5⟩ := ((hH.2.2.2 a _ hc).arr (by decide)).rd h0 hv
    exact W.lald hx hb q1 q2 q3 q4 q5 rfl rfl hd (kk H locs cells slots ls hc0 hs0 hH hS hL)
  case baload =>
    obtain rfl : len = 1 := of_decide_eq_true hl
    obtain ⟨i, a, r, k, fs, v, rfl, hc, hk, h0, hv, rfl⟩ := am_ald_inv (by simpa only [am_hs] using h)
    obtain rfl : k = 102 := of_decide_eq_true hk
    obtain ⟨cell, q1, q2, q3, q4, q5⟩ := ((hH.2.2.2 a _ hc).arr (by decide)).rd h0 hv
    exact W.zald hx hb q1 q2 q3 q4 q5 rfl rfl hd (kk H locs cells slots ls hc0 hs0 hH hS hL)
  case aaload =>
    obtain rfl : len = 1 := of_decide_eq_true hl
    obtain ⟨i, a, r, k, fs, v, rfl, hc, hk, h0, hv, rfl⟩ := am_ald_inv (by simpa only [am_hs] using h)
    simp only [Bool.and_eq_true, decide_eq_true_eq] at hk
    obtain ⟨cell, q1, q2, q3, q4, q5⟩ := ((hH.2.2.2 a _ hc).arr ⟨by omega, hk.2⟩).rd h0 hv
    have href : (am_aty k).isReference = true := by
      unfold am_aty
      split <;> first | rfl | omega
    exact W.aald hx hb q1 q2 href q3 q4 q5 rfl rfl hd (kk H locs cells slots ls hc0 hs0 hH hS hL)
  case iastore =>
    obtain rfl : len = 1 := of_decide_eq_true hl
    obtain ⟨v, i, a, r, k, fs, rfl, hc, hk, h0, hn, ha, rfl⟩ := am_ast_inv (by simpa only [am_hs] using h)
    simp only [Bool.and_eq_true, decide_eq_true_eq] at hk
    obtain ⟨rfl, hv⟩ := hk
    obtain ⟨x, rfl⟩ := am_tvI (ad := ad) hv
    obtain ⟨cell, q1, q2, q3, q4, q5, q6, q7⟩ := (hH.2.2.2 a _ hc).arr (by decide)
    refine W.iast hx hb q1 q2 q3 (fun z => by rcases z with z | z; exact h0 z; omega) rfl rfl hd (fun H' e1 e2 e3 => ?_)
    obtain ⟨g1, g2⟩ := am_st_fin (v := .int x) hH hS hc (by decide) hn ha q1 e1 e2 e3
    exact kk H' _ cells slots ls (by rw [List.length_set]; exact hc0) (by rw [am_tot_set hc (by simp)]; exact hs0) g1 g2 hL
  case lastore =>
    obtain rfl : len = 1 := of_decide_eq_true hl
    obtain ⟨v, i, a, r, k, fs, rfl, hc, hk, h0, hn, ha, rfl⟩ := am_ast_inv (by simpa only [am_hs] using h)
    simp only [Bool.and_eq_true, decide_eq_true_eq] at hk
    obtain ⟨rfl, hv⟩ := hk
    obtain ⟨x, rfl⟩ := am_tvL (ad := ad) hv
    obtain ⟨cell, q1, q2, q3, q4, q5, q6, q7⟩ := (hH.2.2.2 a _ hc).arr (by decide)
    refine W.last hx hb q1 q2 q3 (fun z => by rcases z with z | z; exact h0 z; omega) rfl rfl hd (fun H' e1 e2 e3 => ?_)
    obtain ⟨g1, g2⟩ := am_st_fin (v := .long x) hH hS hc (by decide) hn ha q1 e1 e2 e3
    exact kk H' _ cells slots ls (by rw [List.length_set]; exact hc0) (by rw [am_tot_set hc (by simp)]; exact hs0) g1 g2 hL
  case bastore =>
    obtain rfl : len = 1 := of_decide_eq_true hl
    obtain ⟨v, i, a, r, k, fs, rfl, hc, hk, h0, hn, ha, rfl⟩ := am_ast_inv (by simpa only [am_hs] using h)
    simp only [Bool.and_eq_true, decide_eq_true_eq] at hk
    obtain ⟨rfl, hv⟩ := hk
    obtain ⟨x, rfl⟩ : ∃ x, v = .int x := by rcases am_tvZ hv with z | z <;> exact ⟨_, z⟩
    obtain ⟨cell, q1, q2, q3, q4, q5, q6, q7⟩ := (hH.2.2.2 a _ hc).arr (by decide)
    refine W.zast hx hb q1 q2 q3 (fun z => by rcases z with z | z; exact h0 z; omega) rfl rfl hd (fun H' e1 e2 e3 => ?_)
    rw [am_bz x hv] at e1
    obtain ⟨g1, g2⟩ := am_st_fin (v := .int x) hH hS hc (by decide) hn ha q1 e1 e2 e3
    exact kk H' _ cells slots ls (by rw [List.length_set]; exact hc0) (by rw [am_tot_set hc (by simp)]; exact hs0) g1 g2 hL
  case arraylength =>
    obtain rfl : len = 1 := of_decide_eq_true hl
    simp only [am_hs] at h
    split at h
    · rename_i a r
      split at h
      · rename_i c2 hc
        split at h
        · rename_i hk
          cases h
          obtain ⟨cell, q1, q2, q3, q4, q5, q6, q7⟩ := (hH.2.2.2 a _ hc).arr hk
          exact W.alen hx hb q1 q2 q6 rfl rfl hd (kk H locs cells slots ls hc0 hs0 hH hS hL)
        · cases h
      · cases h
    · cases h
  case newarray t =>
    obtain rfl : len = 2 := of_decide_eq_true hl
    simp only [am_hs] at h
    split at h
    · rename_i k z hz
      split at h
      · rename_i n r
        split at h
        · rename_i hn
          cases h
          dsimp only at hcb hsb kk
          rw [List.length_append, List.length_singleton] at hcb
          rw [am_tot_app, List.length_replicate] at hsb
          have key : (∃ ty, newarray.typeOf t = ty ∧ am_aty k = ty ∧ (100 ≤ k ∧ k < 110) ∧ am_tv ad z = defaultValue ty ∧ Cond.arrayClass ty ∈ lw_tbl ∧ componentBytes ty ≤ 8) := by
            cases t <;> simp only [am_z, Option.some.injEq, Prod.mk.injEq, reduceCtorEq] at hz
            · obtain ⟨rfl, rfl⟩ := hz; exact ⟨_, rfl, rfl, by decide, rfl, by decide +kernel, by decide +kernel⟩
            · obtain ⟨rfl, rfl⟩ := hz; exact ⟨_, rfl, rfl, by decide, rfl, by decide +kernel, by decide +kernel⟩
            · obtain ⟨rfl, rfl⟩ := hz; exact ⟨_, rfl, rfl, by decide, rfl, by decide +kernel, by decide +kernel⟩
          obtain ⟨ty, hty, hak, hk, hzz, hwd, hcbz⟩ := key
          have hbt : n.toNatClampNeg * componentBytes (newarray.typeOf t) ≤ 536870912 := by
            rw [hty]
            have := Nat.mul_le_mul hn.2 hcbz
            omega
          refine W.newaK hx hb (hK.1 _ (by rw [hty]; exact hwd) rfl args) rfl hd rfl hn.1 rfl hbt (by omega) (by omega) hH.top.symm (fun H' cA e1 e2 e3 hA => ?_)
          rw [hty] at e1 hA
          rw [hH.top] at e2 e3
          obtain ⟨g1, g2⟩ := am_nw_fin (cl := (k, List.replicate n.toNatClampNeg z)) hH hS (am_newA hk hak hzz e1 hA) e3 e2
          exact kk H' locs _ _ ls (by rw [List.length_append, List.length_singleton]; omega) (by rw [am_tot_app, List.length_replicate]; omega) g1 g2 hL
        · cases h
      · cases h
    · cases h
  case anewarray ix =>
    obtain rfl : len = 3 := of_decide_eq_true hl
    simp only [am_hs] at h
    split at h
    · rename_i ci hci
      split at h
      · rename_i n r
        split at h
        · rename_i hn
          cases h
          dsimp only at hcb hsb kk
          rw [List.length_append, List.length_singleton] at hcb
          rw [am_tot_app, List.length_replicate] at hsb
          obtain ⟨-, hwd⟩ := am_nw_ok (am_an_eq w ix ▸ hci)
          refine W.anew hx hb hown (hK.1 _ hwd rfl args) (va_AO.use (hK.2.2.1.1 ci hn.1)) rfl hd rfl hn.2.1 (by omega) (by omega) (by omega) (fun cA kA comp h1 h2 h3 h4 => ?_)
          have hcr : am_CR D ad s (H.push { cls := cA, slots := Array.replicate n.toNatClampNeg .null, vm := .none }) hp.length (110 + ci, List.replicate n.toNatClampNeg .null) := by
            have hty := am_aty_o (k := 110 + ci) (by omega)
            rw [show 110 + ci - 110 = ci by omega] at hty
            refine Or.inr (Or.inl ⟨⟨by show 100 ≤ 110 + ci; omega, by show 110 + ci < 200; omega⟩, _, by rw [hH.top]; exact Array.getElem?_push_size, ⟨(fun z q => by cases q), kA, h2, comp, by rw [hty]; exact h3⟩, (fun q => by cases q), fun _ => ⟨rfl, by rw [hty]; exact ⟨kA, comp, h2, h3, h4, h1⟩⟩, ?_, ?_, fun j v hj => ?_⟩)
            · show (List.replicate n.toNatClampNeg Value.null).length ≤ (Array.replicate n.toNatClampNeg Value.null).size
              simp
            · show (Array.replicate n.toNatClampNeg Value.null).size.toInt32 = Int32.ofNat (List.replicate n.toNatClampNeg Value.null).length
              rw [Array.size_replicate, List.length_replicate]
            · dsimp only at hj ⊢
              rw [List.getElem?_replicate] at hj
              rw [Array.getElem?_replicate]
              split at hj
              · rename_i hlt
                cases hj
                rw [if_pos hlt]
                rfl
              · cases hj
          obtain ⟨g1, g2⟩ := am_nw_fin (cl := (110 + ci, List.replicate n.toNatClampNeg .null)) hH hS hcr (fun q hq => by rw [Array.getElem?_push_lt hq, Array.getElem?_eq_getElem hq]) (by simp)
          have := kk _ locs (cells + 1) (slots + n.toNatClampNeg) ls (by rw [List.length_append, List.length_singleton]; omega) (by rw [am_tot_app, List.length_replicate]; omega) g1 g2 hL
          rw [List.map_cons] at this
          rw [← hH.top]
          exact this
        · cases h
      · cases h
    · cases h
  case multianewarray ix dim =>
    obtain rfl : len = 4 := of_decide_eq_true hl
    simp only [am_hs] at h
    split at h
    · rename_i hm
      obtain ⟨hmn, rfl⟩ := hm
      split at h
      · rename_i n k r
        split at h
        · rename_i hn
          cases h
          obtain ⟨h1, h2, h3, h4, h5⟩ := hn
          obtain ⟨hw, hix⟩ := am_mn_ok hmn
          subst hw
          subst hix
          exact am_W_mna hx hb hown (hK.1 _ am_mn1 rfl args) hK.2.2.1.2 (hK.1 _ am_mn2 rfl args) hH hS hL hc0 hs0 hd h1 h2 h3 h4 hcb hsb kk
        · cases h
      · cases h
    · cases h
  case aastore =>
    obtain rfl : len = 1 := of_decide_eq_true hl
    obtain ⟨v, i, a, r, k, fs, rfl, hc, hk, h0, hn, ha, rfl⟩ := am_ast_inv (by simpa only [am_hs] using h)
    simp only [Bool.and_eq_true, decide_eq_true_eq] at hk
    obtain ⟨hk1, hk2, hv⟩ := hk
    obtain ⟨b, fs2, rfl, hb2⟩ := am_isO_inv hv
    obtain ⟨cell, q1, q2, q3, q4, q5, q6, q7⟩ := (hH.2.2.2 a _ hc).arr ⟨by omega, hk2⟩
    obtain ⟨r4, hRA⟩ := q4 hk1
    rw [am_aty_o hk1] at hRA
    obtain ⟨kA, comp, r1, r2, r3, -⟩ := hRA
    rcases hH.2.2.2 b _ hb2 with ⟨-, rr, h1, h2, cv, g1, g2, g3, g4⟩ | ⟨h0', -⟩ | ⟨h0', -⟩
    · obtain ⟨hS2, hat⟩ := hK.2.2.2.1.1 _ _ h1
      obtain ⟨hnm, -⟩ := am_cl_ok h1
      have hcomp : comp = D.1 (k - 110) := by
        have := hat.1
        rw [hnm, r3] at this
        exact Option.some.inj this
      obtain ⟨kC, hkC, hkind⟩ := hat.2
      refine W.aast hx hb q1 (by rw [r4]; exact fun q z => by cases z) q3 r1 r2 rfl (by rw [hcomp]; exact hkC) ⟨h0, by omega⟩ g1 (by rw [g3]; exact fun q z => by cases z) (by rw [g2]; exact hkC) (by rw [g2, hcomp]; exact va_assign hat) rfl rfl hd (fun H' e1 e2 e3 => ?_)
      obtain ⟨g1, g2⟩ := am_st_fin (v := .ref b) hH hS hc ⟨by omega, hk2⟩ hn ha q1 e1 e2 e3
      exact kk H' _ cells slots ls (by rw [List.length_set]; exact hc0) (by rw [am_tot_set hc (by simp)]; exact hs0) g1 g2 hL
    · dsimp only at h0'; omega
    · dsimp only at h0'; omega
  case new ix =>
    obtain rfl : len = 3 := of_decide_eq_true hl
    simp only [am_hs] at h
    split at h
    · rename_i ci hci
      cases h
      dsimp only at hcb hsb kk
      obtain ⟨hc8, hwd⟩ := am_nw_ok hci
      obtain ⟨rr, hr⟩ : ∃ rr, am_cl[ci]? = some rr := ⟨_, List.getElem?_eq_getElem (l := am_cl) (i := ci) hc8⟩
      obtain ⟨hnm, hws, hty, hnn, hdl, hwi, hwt⟩ := am_cl_ok hr
      rw [List.length_append, List.length_singleton] at hcb
      rw [am_tot_app, hdl] at hsb
      have hKn := hK.2.2.2.1.1 ci _ hr
      rw [← hnm] at hwd
      refine W.newcK hx hb hown (hK.1 _ hwd rfl args) (hK.1 _ hwi rfl args) (hK.1 _ hwt rfl args) rfl hd (by omega) (by omega) hKn.2.1 hH.top.symm (fun H' kC hkC e1 e2 e3 => ?_)
      rw [hH.top] at e2 e3
      have hO := (u_born (am_ft ci) (fun z hz => hK.1 z (hws z hz).1 (hws z hz).2 args) (fun _ h => h) hKn hkC e1 (fun k hk => (hty k hk).1)).to (V' := vp_V ((am_df ci).map (am_tv ad))) (fun k hk => by
        simp only [vp_V, List.getD_eq_getElem?_getD, List.getElem?_map, (hty k hk).2.1, Option.map_some, Option.getD_some, am_tv_df])
      obtain ⟨g1, g2⟩ := am_nw_fin (cl := (ci, am_df ci)) hH hS (Or.inl ⟨by show ci < 100; omega, rr, hr, hdl, hO⟩) e3 e2
      have := kk H' locs (cells + 1) (slots + rr.2.2) ls (by rw [List.length_append, List.length_singleton]; omega) (by rw [am_tot_app, hdl]; omega) g1 g2 hL
      exact this
    · cases h
  case getstatic ix =>
    obtain rfl : len = 3 := of_decide_eq_true hl
    simp only [am_hs] at h
    split at h
    · rename_i a ha
      cases h
      obtain ⟨rfl, hwd⟩ := am_gs_ok ha
      exact va_getsN hx hb hZ hS hown (va_Nw.use rfl (hK.2.1 _ hwd rfl)) (fun _ z => z) hd (kk H locs cells slots ls hc0 hs0 hH hS hL)
    · cases h
  case invokespecial ix =>
    obtain rfl : len = 3 := of_decide_eq_true hl
    simp only [am_hs] at h
    split at h
    · rename_i ho
      split at h
      · rename_i a r
        split at h
        · rename_i hw
          cases h
          exact W.objInit hx hb hown (hK.1 _ (am_oi_ok ho) rfl args) (hK.1 _ am_oi1 rfl args) (hK.1 _ am_oi2 rfl args) rfl (hL.1.trans hml.symm) rfl hd hfr (by
            show 2 * 0 + ((List.map (am_tv ad) r).map fun v => v.category).sum + 12 ≤ R.locals
            rw [am_sum_cat]; omega) (kk H locs cells slots ls hc0 hs0 hH hS hL)
        · cases h
      · cases h
    · cases h
  case invokestatic ix =>
    obtain rfl : len = 3 := of_decide_eq_true hl
    simp only [am_hs] at h
    split at h
    · rename_i ho
      split at h
      · rename_i n dp b sp a r
        split at h
        · rename_i f g hf hg
          split at h
          · rename_i hk
            cases h
            obtain ⟨k1, k2, hb2, hn, rfl, rfl, hnl, hgl, hall, hw⟩ := hk
            obtain ⟨kf, ff⟩ := f
            obtain ⟨kg, gg⟩ := g
            dsimp only at k1 k2 hnl hgl hall kk
            subst k1
            subst k2
            exact am_W_copy hx hb hml hown (hK.1 _ (am_ac_ok ho) rfl args) (hK.1 _ am_ac1 rfl args) (hK.1 _ am_ac2 rfl args) (hK.1 _ am_ac3 rfl args) hfr hlo hH hS hL hf hg hb2 hn hnl hgl hall hw hd (fun H1 locs1 a1 a2 => kk H1 locs1 cells slots ls (by rw [List.length_set]; exact hc0) (by rw [am_tot_set hg (by dsimp only; exact hgl.symm)]; exact hs0) a1 a2 hL)
          · cases h
        · cases h
      · cases h
    · cases h
  all_goals (simp [am_hs] at h)
end AMS2
