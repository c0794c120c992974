/-! Rules for walking a body: decided jumps, calls by kind, arrays as functions, loops that count. -/
section WK
variable {d j pc len : Nat} {lo : am_L} {st : List Value} {hp : am_H} {Q : am_H → am_R → Prop} {i : Instr}
theorem am_Rq.if1T {c : ClassFile.Cond} {off : Int} {t : Nat} {x : Int32} (hd : decode (am_by j) pc = .ok (.ifCond c off, 3)) (ht : (pc : Int) + off = (t : Int)) (h : am_c1 c x = true) (k : am_Rq d j t lo st hp Q) : am_Rq d j pc lo (.int x :: st) hp Q := am_Rq.if1 hd ht (fun _ => k) (fun q => by rw [h] at q; cases q)
theorem am_Rq.if1F {c : ClassFile.Cond} {off : Int} {x : Int32} (hd : decode (am_by j) pc = .ok (.ifCond c off, 3)) (ht : 0 ≤ (pc : Int) + off) (h : am_c1 c x = false) (k : am_Rq d j (pc + 3) lo st hp Q) : am_Rq d j pc lo (.int x :: st) hp Q := by
  obtain ⟨t, ht'⟩ := Int.eq_ofNat_of_zero_le ht
  exact am_Rq.if1 hd ht' (fun q => by rw [h] at q; cases q) (fun _ => k)
theorem am_Rq.if2T {c : ClassFile.Cond} {off : Int} {t : Nat} {x y : Int32} (hd : decode (am_by j) pc = .ok (.if_icmp c off, 3)) (ht : (pc : Int) + off = (t : Int)) (h : am_c2 c x y = true) (k : am_Rq d j t lo st hp Q) : am_Rq d j pc lo (.int y :: .int x :: st) hp Q := am_Rq.if2 hd ht (fun _ => k) (fun q => by rw [h] at q; cases q)
theorem am_Rq.if2F {c : ClassFile.Cond} {off : Int} {x y : Int32} (hd : decode (am_by j) pc = .ok (.if_icmp c off, 3)) (ht : 0 ≤ (pc : Int) + off) (h : am_c2 c x y = false) (k : am_Rq d j (pc + 3) lo st hp Q) : am_Rq d j pc lo (.int y :: .int x :: st) hp Q := by
  obtain ⟨t, ht'⟩ := Int.eq_ofNat_of_zero_le ht
  exact am_Rq.if2 hd ht' (fun q => by rw [h] at q; cases q) (fun _ => k)
theorem am_isO_of {a ci : Nat} {fs : List Value} (h : hp[a]? = some (ci, fs)) : am_isO hp ci (.ref a) = true := by
  simp [am_isO, h]
/-- calls: of an object's method, of a static one -/
theorem am_Rq.callV {ix j2 a : Nat} {fs : List Value} (hd : decode (am_by j) pc = .ok (.invokevirtual ix, 3)) (h2 : am_mt (am_w j) ix = some j2) (ws rest : List Value) (hst : st = (.ref a :: ws).reverse ++ rest) (hn : ws.length + 1 = am_na j2) (hw : (rest.map fun v => v.category).sum ≤ 8) (hk : (!am_st j2 && !am_ini j2) = true) (hr : hp[a]? = some (am_w j2, fs)) (hen : (am_en (.ref a :: ws) (am_mx j2)).length = am_mx j2)
    {P : am_H → Option Value → Prop} (hc : am_Rq d j2 0 (am_en (.ref a :: ws) (am_mx j2)) [] hp (am_Ret P)) (k : ∀ hp1 v, P hp1 v → am_Rq (d + 1) j (pc + 3) lo (v.toList ++ rest) hp1 Q) : am_Rq (d + 1) j pc lo st hp Q :=
  am_Rq.call hd rfl rfl h2 (.ref a :: ws) rest hst hn hw (by show ((!am_st j2 && !am_ini j2) && am_isO hp (am_w j2) (.ref a)) = true; rw [hk, am_isO_of hr]; rfl) hen hc k
theorem am_Rq.callVX {ix j2 a : Nat} {fs : List Value} (hd : decode (am_by j) pc = .ok (.invokevirtual ix, 3)) (h2 : am_mt (am_w j) ix = some j2) (ws rest : List Value) (hst : st = (.ref a :: ws).reverse ++ rest) (hn : ws.length + 1 = am_na j2) (hw : (rest.map fun v => v.category).sum ≤ 8) (hk : (!am_st j2 && !am_ini j2) = true) (hr : hp[a]? = some (am_w j2, fs)) (hen : (am_en (.ref a :: ws) (am_mx j2)).length = am_mx j2)
    {Qc : am_H → am_R → Prop} (hc : am_Rq d j2 0 (am_en (.ref a :: ws) (am_mx j2)) [] hp Qc) (k : ∀ hp1 o, Qc hp1 o → am_Aft (d + 1) j pc lo rest Q hp1 o) : am_Rq (d + 1) j pc lo st hp Q :=
  am_Rq.callX hd rfl rfl h2 (.ref a :: ws) rest hst hn hw (by show ((!am_st j2 && !am_ini j2) && am_isO hp (am_w j2) (.ref a)) = true; rw [hk, am_isO_of hr]; rfl) hen hc k
theorem am_Rq.callS {ix j2 : Nat} (hd : decode (am_by j) pc = .ok (.invokestatic ix, 3)) (h2 : am_mt (am_w j) ix = some j2) (vs rest : List Value) (hst : st = vs.reverse ++ rest) (hn : vs.length = am_na j2) (hw : (rest.map fun v => v.category).sum ≤ 8) (hk : am_st j2 = true) (hen : (am_en vs (am_mx j2)).length = am_mx j2)
    {P : am_H → Option Value → Prop} (hc : am_Rq d j2 0 (am_en vs (am_mx j2)) [] hp (am_Ret P)) (k : ∀ hp1 v, P hp1 v → am_Rq (d + 1) j (pc + 3) lo (v.toList ++ rest) hp1 Q) : am_Rq (d + 1) j pc lo st hp Q :=
  am_Rq.call hd rfl rfl h2 vs rest hst hn hw hk hen hc k
/-- arrays as functions -/
def am_ia (f : Nat → Int32) (n : Nat) : List Value := (List.range n).map fun k => .int (f k)
def am_la (f : Nat → Int64) (n : Nat) : List Value := (List.range n).map fun k => .long (f k)
/-- references at equal distances -/
def am_ra (b k n : Nat) : List Value := (List.range n).map fun c => .ref (b + k * c)
theorem am_ia_get {f : Nat → Int32} {n k : Nat} (h : k < n) : (am_ia f n)[k]? = some (.int (f k)) := by simp [am_ia, h]
theorem am_la_get {f : Nat → Int64} {n k : Nat} (h : k < n) : (am_la f n)[k]? = some (.long (f k)) := by simp [am_la, h]
theorem am_ra_get {b q n k : Nat} (h : k < n) : (am_ra b q n)[k]? = some (.ref (b + q * k)) := by simp [am_ra, h]
theorem am_ia_len (f : Nat → Int32) (n : Nat) : (am_ia f n).length = n := by simp [am_ia]
theorem am_la_len (f : Nat → Int64) (n : Nat) : (am_la f n).length = n := by simp [am_la]
theorem am_ia_set {f : Nat → Int32} {n k : Nat} {x : Int32} : (am_ia f n).set k (.int x) = am_ia (va_up f k x) n := by
  refine List.ext_getElem? (fun m => ?_)
  by_cases e : k = m
  · subst e
    by_cases h : k < n
    · rw [List.getElem?_set_self (by rw [am_ia_len]; exact h), am_ia_get h, va_up_self]
    · rw [List.getElem?_eq_none (by rw [List.length_set, am_ia_len]; omega), List.getElem?_eq_none (by rw [am_ia_len]; omega)]
  · rw [List.getElem?_set_ne e]
    by_cases h : m < n
    · rw [am_ia_get h, am_ia_get h, va_up_ne _ _ (fun q => e q.symm)]
    · rw [List.getElem?_eq_none (by rw [am_ia_len]; omega), List.getElem?_eq_none (by rw [am_ia_len]; omega)]
theorem am_la_set {f : Nat → Int64} {n k : Nat} {x : Int64} : (am_la f n).set k (.long x) = am_la (va_up f k x) n := by
  refine List.ext_getElem? (fun m => ?_)
  by_cases e : k = m
  · subst e
    by_cases h : k < n
    · rw [List.getElem?_set_self (by rw [am_la_len]; exact h), am_la_get h, va_up_self]
    · rw [List.getElem?_eq_none (by rw [List.length_set, am_la_len]; omega), List.getElem?_eq_none (by rw [am_la_len]; omega)]
  · rw [List.getElem?_set_ne e]
    by_cases h : m < n
    · rw [am_la_get h, am_la_get h, va_up_ne _ _ (fun q => e q.symm)]
    · rw [List.getElem?_eq_none (by rw [am_la_len]; omega), List.getElem?_eq_none (by rw [am_la_len]; omega)]
theorem am_Rq.ial {a n k : Nat} {f : Nat → Int32} (hd : decode (am_by j) pc = .ok (.iaload, 1)) (hc : hp[a]? = some (100, am_ia f n)) (hk : k < n) (hn : n < 2 ^ 31) (kk : am_Rq d j (pc + 1) lo (.int (f k) :: st) hp Q) : am_Rq d j pc lo (.int (nI k) :: .ref a :: st) hp Q :=
  am_Rq.iald hd hc (by omega) (am_ia_get hk) kk
theorem am_Rq.lal {a n k : Nat} {f : Nat → Int64} (hd : decode (am_by j) pc = .ok (.laload, 1)) (hc : hp[a]? = some (101, am_la f n)) (hk : k < n) (hn : n < 2 ^ 31) (kk : am_Rq d j (pc + 1) lo (.long (f k) :: st) hp Q) : am_Rq d j pc lo (.int (nI k) :: .ref a :: st) hp Q :=
  am_Rq.lald hd hc (by omega) (am_la_get hk) kk
theorem am_Rq.zal {a n k : Nat} {f : Nat → Int32} (hd : decode (am_by j) pc = .ok (.baload, 1)) (hc : hp[a]? = some (102, am_ia f n)) (hk : k < n) (hn : n < 2 ^ 31) (kk : am_Rq d j (pc + 1) lo (.int (f k) :: st) hp Q) : am_Rq d j pc lo (.int (nI k) :: .ref a :: st) hp Q :=
  am_Rq.zald hd hc (by omega) (am_ia_get hk) kk
theorem am_Rq.ral {a n k b q w : Nat} (hd : decode (am_by j) pc = .ok (.aaload, 1)) (hc : hp[a]? = some (w, am_ra b q n)) (hw : (decide (103 ≤ w) && decide (w < 200)) = true) (hk : k < n) (hn : n < 2 ^ 31) (kk : am_Rq d j (pc + 1) lo (.ref (b + q * k) :: st) hp Q) : am_Rq d j pc lo (.int (nI k) :: .ref a :: st) hp Q :=
  am_Rq.aald hd hc hw (by omega) (am_ra_get hk) kk
theorem am_Rq.ias {a n k : Nat} {f : Nat → Int32} {x : Int32} (hd : decode (am_by j) pc = .ok (.iastore, 1)) (hc : hp[a]? = some (100, am_ia f n)) (hk : k < n) (hn : n < 2 ^ 31) (ha : 2 ≤ a) (kk : am_Rq d j (pc + 1) lo st (hp.set a (100, am_ia (va_up f k x) n)) Q) : am_Rq d j pc lo (.int x :: .int (nI k) :: .ref a :: st) hp Q :=
  am_Rq.iast hd hc (by omega) (by rw [am_ia_len]; exact hk) ha (by rw [am_ia_set]; exact kk)
theorem am_Rq.las {a n k : Nat} {f : Nat → Int64} {x : Int64} (hd : decode (am_by j) pc = .ok (.lastore, 1)) (hc : hp[a]? = some (101, am_la f n)) (hk : k < n) (hn : n < 2 ^ 31) (ha : 2 ≤ a) (kk : am_Rq d j (pc + 1) lo st (hp.set a (101, am_la (va_up f k x) n)) Q) : am_Rq d j pc lo (.long x :: .int (nI k) :: .ref a :: st) hp Q :=
  am_Rq.last hd hc (by omega) (by rw [am_la_len]; exact hk) ha (by rw [am_la_set]; exact kk)
theorem am_Rq.zas {a n k : Nat} {f : Nat → Int32} {x : Int32} (hd : decode (am_by j) pc = .ok (.bastore, 1)) (hc : hp[a]? = some (102, am_ia f n)) (hz : am_isZ (.int x) = true) (hk : k < n) (hn : n < 2 ^ 31) (ha : 2 ≤ a) (kk : am_Rq d j (pc + 1) lo st (hp.set a (102, am_ia (va_up f k x) n)) Q) : am_Rq d j pc lo (.int x :: .int (nI k) :: .ref a :: st) hp Q :=
  am_Rq.zast hd hc hz (by omega) (by rw [am_ia_len]; exact hk) ha (by rw [am_ia_set]; exact kk)
/-- a loop that counts up to n -/
theorem am_for {n : Nat} (I : Nat → am_L → am_H → Prop) (step : ∀ i lo hp, i < n → I i lo hp → (∀ lo' hp', I (i + 1) lo' hp' → am_Rq d j pc lo' [] hp' Q) → am_Rq d j pc lo [] hp Q) (exit : ∀ lo hp, I n lo hp → am_Rq d j pc lo [] hp Q) {i : Nat} {lo : am_L} {hp : am_H} (hi : i ≤ n) (h : I i lo hp) : am_Rq d j pc lo [] hp Q := by
  have key : ∀ m, ∀ i lo hp, n - i = m → i ≤ n → I i lo hp → am_Rq d j pc lo [] hp Q := by
    intro m
    induction m with
    | zero =>
      intro i lo hp h1 h2 h3
      have : i = n := by omega
      subst this
      exact exit lo hp h3
    | succ m ih =>
      intro i lo hp h1 h2 h3
      exact step i lo hp (by omega) h3 (fun lo' hp' h4 => ih (i + 1) lo' hp' (by omega) (by omega) h4)
  exact key (n - i) i lo hp rfl hi h
end WK
/-- nothing but these cells has changed -/
def am_fr (A : Nat → Prop) (hp hp' : am_H) : Prop := hp'.length = hp.length ∧ am_tot hp' = am_tot hp ∧ ∀ a, ¬ A a → hp'[a]? = hp[a]?
theorem am_fr.rf {A : Nat → Prop} {hp : am_H} : am_fr A hp hp := ⟨rfl, rfl, fun _ _ => rfl⟩
theorem am_fr.set {A : Nat → Prop} {hp hp' : am_H} (h : am_fr A hp hp') {a : Nat} {c c' : am_C} (ha : A a) (hc : hp'[a]? = some c) (hl : c'.2.length = c.2.length) : am_fr A hp (hp'.set a c') :=
  ⟨by rw [List.length_set]; exact h.1, by rw [am_tot_set hc hl]; exact h.2.1, fun b hb => (am_sn (fun q : a = b => hb (by rw [← q]; exact ha))).trans (h.2.2 b hb)⟩
theorem am_fr.trans {A : Nat → Prop} {hp hp1 hp2 : am_H} (h : am_fr A hp hp1) (h' : am_fr A hp1 hp2) : am_fr A hp hp2 :=
  ⟨h'.1.trans h.1, h'.2.1.trans h.2.1, fun a ha => (h'.2.2 a ha).trans (h.2.2 a ha)⟩
theorem am_fr.mono {A A' : Nat → Prop} {hp hp1 : am_H} (h : am_fr A hp hp1) (hA : ∀ a, A a → A' a) : am_fr A' hp hp1 := ⟨h.1, h.2.1, fun a ha => h.2.2 a (fun q => ha (hA a q))⟩
