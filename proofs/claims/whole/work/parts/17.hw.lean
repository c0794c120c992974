/-! Heap instructions of the abstract machine are sound. -/
theorem am_ci_lt {ci : Nat} {r : vw_C} (h : am_cl[ci]? = some r) : ci < 8 := (List.getElem?_eq_some_iff.mp h).1
theorem am_CR.obj {D : va_G} {ad : Nat → Nat} {s : State} {H : Heap} {a ci : Nat} {fs : List Value} {r : vw_C} (h : am_CR D ad s H a (ci, fs)) (hr : am_cl[ci]? = some r) : fs.length = r.2.2 ∧ t_OB (ad a) (D.1 ci) r.2.2 (D.2 ci) H (vp_V (fs.map (am_tv ad))) := by
  have hc := am_ci_lt hr
  rcases h with ⟨-, r2, h1, h2, h3⟩ | ⟨h0, -⟩ | ⟨h0, -⟩
  · cases Option.some.inj (h1.symm.trans hr)
    exact ⟨h2, h3⟩
  · have := h0.1; dsimp only at this; omega
  · dsimp only at h0; omega
theorem am_CR.arr {D : va_G} {ad : Nat → Nat} {s : State} {H : Heap} {a k : Nat} {fs : List Value} (h : am_CR D ad s H a (k, fs)) (hk : 100 ≤ k ∧ k < 200) : am_AR s ad (ad a) k fs H := by
  rcases h with ⟨h0, -⟩ | ⟨-, h⟩ | ⟨h0, -⟩
  · dsimp only at h0; omega
  · exact h
  · dsimp only at h0; omega
theorem am_tvI {ad : Nat → Nat} {v : Value} (h : am_isI v = true) : ∃ x, v = .int x := by cases v <;> first | exact ⟨_, rfl⟩ | cases h
theorem am_tvL {ad : Nat → Nat} {v : Value} (h : am_isL v = true) : ∃ x, v = .long x := by cases v <;> first | exact ⟨_, rfl⟩ | cases h
theorem am_tvZ {v : Value} (h : am_isZ v = true) : v = .int 0 ∨ v = .int 1 := by
  cases v <;> first | cases h | skip
  rename_i x
  simp only [am_isZ, Bool.or_eq_true, decide_eq_true_eq] at h
  rcases h with rfl | rfl
  · exact Or.inl rfl
  · exact Or.inr rfl
theorem am_fv_ok {ad : Nat → Nat} {ty : FieldType} {v : Value} (h : am_fv ty v = true) : narrow ty (am_tv ad v) = am_tv ad v ∧ fits ty (am_tv ad v) = true := by
  cases ty <;> simp only [am_fv] at h
  case int => obtain ⟨x, rfl⟩ := am_tvI (ad := ad) h; exact ⟨rfl, rfl⟩
  case long => obtain ⟨x, rfl⟩ := am_tvL (ad := ad) h; exact ⟨rfl, rfl⟩
  case boolean =>
    rcases am_tvZ h with rfl | rfl
    · exact (by decide +kernel : narrow .boolean (.int 0) = .int 0 ∧ fits .boolean (.int 0) = true)
    · exact (by decide +kernel : narrow .boolean (.int 1) = .int 1 ∧ fits .boolean (.int 1) = true)
  case object n => cases v <;> first | exact ⟨rfl, rfl⟩ | cases h
  case array t => cases v <;> first | exact ⟨rfl, rfl⟩ | cases h
  all_goals cases h
/-- behind a write of one slot of an array -/
theorem am_AR.set {s : State} {ad : Nat → Nat} {a k n : Nat} {fs : List Value} {H H1 : Heap} {v : Value} {cell : Cell} (h : am_AR s ad a k fs H) (hc : H[a]? = some cell) (hn : n < fs.length) (h1 : H1[a]? = some (cell.setSlot n (am_tv ad v))) : am_AR s ad a k (fs.set n v) H1 := by
  obtain ⟨c2, q1, q2, q3, q4, q5, q6, q7⟩ := h
  obtain rfl : c2 = cell := Option.some.inj (q1.symm.trans hc)
  refine ⟨_, h1, q2, q3, q4, by rw [List.length_set, k2_slotsz]; exact q5, by rw [List.length_set, k2_slotsz]; exact q6, fun j w hj => ?_⟩
  by_cases e : n = j
  · subst e
    rw [List.getElem?_set_self hn] at hj
    cases hj
    have : n < c2.slots.size := by omega
    simp [Cell.setSlot, this]
  · rw [List.getElem?_set_ne e] at hj
    rw [slot_ne _ _ e]
    exact q7 j w hj
section AMH
variable {p : Program} {l : Launch} {e : Env} {R : Room} {s : State} {m : MethodId} {args : Array Value} {below : List Frame} {meth : Method} {c : Code} {H : Heap} {locs : List Loc} {cells slots : Nat} {Q : State → Prop}
variable {D : va_G} {B : Nat} {ad : Nat → Nat} {hp : am_H} {cc : ByteArray} {w pc : Nat} {ls : Array Slot} {rest : List Value}
theorem am_W_getf (hx : p.tables.exec = Jvm.exec) (hb : c.code = cc) (hown : s.vm.findClass (am_on w) = some m.cls) (hK : am_K D s) (hH : am_HR D B ad s hp H) {ix a ci k : Nat} {fs : List Value} {v : Value} (hd : decode cc pc = .ok (.getfield ix, 3)) (hf : am_fd w ix = some (ci, k)) (hc : hp[a]? = some (ci, fs)) (hv : fs[k]? = some v)
    (kk : W p l e R s m args below meth c H locs cells slots Q (F0 m (pc + 3) ls (am_tv ad v :: rest))) : W p l e R s m args below meth c H locs cells slots Q (F0 m pc ls (.ref (ad a) :: rest)) := by
  obtain ⟨r, hr, hk, hm, h1⟩ := am_fd_ok hf
  obtain ⟨-, hws, -⟩ := am_cl_ok hr
  obtain ⟨-, hO⟩ := (hH.2.2.2 a _ hc).obj hr
  have hP : va_P D am_cl [(ad a, .inr (ci, fs.map (am_tv ad)))] H := fun n q hq => by
    cases n with
    | zero => cases hq; exact ⟨r, hr, hO⟩
    | succ n => cases hq
  exact va_get (D := D) (ci := ci) (C := r.1) (T := r.2.1) (N := r.2.2) (Ts := u_ws r.1 r.2.1 r.2.2) (ref := r.1) hx hb (fun z hz => hK.1 z (hws z hz).1 (hws z hz).2 args) (fun _ h => h) hown hK.2.2.2.1 hP 0 rfl hr k hk (hK.1 _ hm rfl args) (fun x h => by rw [h1] at h; exact h) (by rw [List.getElem?_map, hv]; rfl) hd kk
theorem am_W_putf (hx : p.tables.exec = Jvm.exec) (hb : c.code = cc) (hown : s.vm.findClass (am_on w) = some m.cls) (hK : am_K D s) (hH : am_HR D B ad s hp H) (hS : va_S (fun q => B ≤ q) s.heap H locs) {ix a ci k : Nat} {fs : List Value} {v : Value} (hd : decode cc pc = .ok (.putfield ix, 3)) (hf : am_fd w ix = some (ci, k)) (hc : hp[a]? = some (ci, fs)) (hl : k < fs.length)
    (ht : am_fv (am_ft ci k) v = true) (hfin : am_fin ci k = false ∨ (meth.name = "<init>" ∧ ci = w)) (ha : 2 ≤ a)
    (kk : ∀ (H1 : Heap) (locs1 : List Loc), am_HR D B ad s (hp.set a (ci, fs.set k v)) H1 → va_S (fun q => B ≤ q) s.heap H1 locs1 → W p l e R s m args below meth c H1 locs1 cells slots Q (F0 m (pc + 3) ls rest)) : W p l e R s m args below meth c H locs cells slots Q (F0 m pc ls (am_tv ad v :: .ref (ad a) :: rest)) := by
  obtain ⟨r, hr, hk, hm, h1⟩ := am_fd_ok hf
  obtain ⟨hnm, hws, hty, hnn, -⟩ := am_cl_ok hr
  obtain ⟨hlen, hO⟩ := (hH.2.2.2 a _ hc).obj hr
  have hts : ∀ z ∈ u_ws r.1 r.2.1 r.2.2, z.before args s = true := fun z hz => hK.1 z (hws z hz).1 (hws z hz).2 args
  have hap := va_apart (own := am_on w) (args := args) hts (fun _ h => h) (am_ft ci) (fun k hk => (hty k hk).1) hnn hK.2.2.2.1 hr
  obtain ⟨cell, q1, q2, q3, q4⟩ := hO
  obtain ⟨hS2, hfc, kC, hkC, hkind⟩ := hK.2.2.2.1.1 ci _ hr
  obtain ⟨cf, kf, fi, f, hi, hsl⟩ := hS2 k hk
  have hi' : s.fieldFound? r.1 (r.2.1 k).2.1 (r.2.1 k).2.2.1 = some (cf, kf, fi, f) := by rw [h1] at hi; exact hi
  have hlay := hts _ (u_in_lay hk)
  have hst := (u_facts hfc hkC (u_lays hts (fun _ h => h) hk) hi).1
  obtain ⟨hn, hfit⟩ := am_fv_ok (ad := ad) ht
  have fin : ∀ H' : Heap, H'[ad a]? = some (cell.setSlot f.slot (am_tv ad v)) → H'.size = H.size → (∀ q, q ≠ ad a → H'[q]? = H[q]?) → W p l e R s m args below meth c H' (locs ++ [⟨ad a, f.slot⟩]) cells slots Q (F0 m (pc + 3) ls rest) := by
    intro H' e1 e2 e3
    rw [hsl] at e1
    refine kk H' _ (hH.put ha (Or.inl ⟨by have := am_ci_lt hr; show ci < 100; omega, r, hr, by rw [List.length_set]; exact hlen, ?_⟩) e3 e2) (hS.put e2 e3 (hH.1.ge ha))
    have e4 : (fs.set k v).map (am_tv ad) = (fs.map (am_tv ad)).set k (am_tv ad v) := List.map_set
    dsimp only
    rw [e4]
    exact t_OB.to (V := updV (vp_V (fs.map (am_tv ad))) k (am_tv ad v)) ⟨_, e1, q2, q3, t_set q4 hap hk (am_tv ad v)⟩ (fun j _ => vp_updV_set (by rw [List.length_map]; exact hl) (am_tv ad v) j)
  have hfe := (hty k hk).2.2
  unfold u_lay at hlay
  cases hb2 : (r.2.1 k).2.2.2 with
  | false =>
    rw [if_neg (by rw [hb2]; decide)] at hlay
    have h6 := u_store hfc hkC hkind hlay hi (hty k hk).1 hn hfit
    exact W.putK hx hb (f := f) ⟨hown, hK.1 _ hm rfl args, ⟨_, _, _, hi'⟩, hst⟩ (by rw [q2]; exact h6) q1 q3 (by rw [hsl]; exact k2_hasslot (q4 k hk)) rfl rfl hd fin
  | true =>
    rw [if_pos hb2] at hlay
    rw [hb2] at hfe
    rcases hfin with hfin | ⟨hin2, hcw⟩
    · rw [hfe] at hfin; cases hfin
    · have hcf : m.cls = cf := by
        obtain ⟨_, _, c', _, _, _, -, -, hf', -, -, -, hown2, -⟩ := Cond.laysFinal_spec hlay
        have e1 : c' = cf := by have := hi.symm.trans hf'; simp at this; exact this.1.symm
        rw [h1, hnm, hcw] at hown2
        rw [← e1]; exact Option.some.inj (hown.symm.trans hown2)
      have h6 := u_fits hfc hkC hkind (Or.inr hlay) hi (hty k hk).1 hn hfit
      exact W.putFinK hx hb hown (hK.1 _ hm rfl args) hi' hst hcf hin2 (by rw [q2]; exact h6) q1 q3 (by rw [hsl]; exact k2_hasslot (q4 k hk)) rfl rfl hd fin
/-- reads of arrays -/
theorem am_AR.rd {k a : Nat} {fs : List Value} {v : Value} {i : Int32} (h : am_AR s ad a k fs H) (h0 : ¬ i < 0) (hv : fs[i.toNatClampNeg]? = some v) : ∃ cell : Cell, H[a]? = some cell ∧ s.isArrayOf cell (am_aty k) ∧ cell.vm ≠ .unknown ∧ ¬ (i < 0 ∨ cell.slots.size ≤ i.toNatClampNeg) ∧ cell.slots[i.toNatClampNeg]? = some (am_tv ad v) := by
  obtain ⟨cell, q1, q2, q3, q4, q5, q6, q7⟩ := h
  have hl := (List.getElem?_eq_some_iff.mp hv).1
  exact ⟨cell, q1, q2, q3, fun z => by rcases z with z | z; exact h0 z; omega, q7 _ _ hv⟩
end AMH
