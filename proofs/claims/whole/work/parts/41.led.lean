/-! A ledger of the class in the heap: its 23 cells from the address b on, its numbers as one row t: 8c + k the k-th field of the class c (7: in issue), 40 + 8c + h what the holder h has of it, 80 pool, 81 month, 82 grants, 83 + 7g + k the k-th number of the grant g (holder, shares, cliff, length, month, ended, exercised), 153 classes. -/
def c_lg (t : Nat → Nat) (b : Nat) : List Value := [.ref (b + 1), .ref (b + 12), .int (nI (t 153)), .int (nI (t 82)), .int (nI (t 80)), .int (nI (t 81))]
def c_sc (t : Nat → Nat) (b c : Nat) : List Value := [.int (nI (t (8 * c))), .int (nI (t (8 * c + 1))), .int (nI (t (8 * c + 2))), .int (nI (t (8 * c + 3))), .int (nI (t (8 * c + 4))), .int (nI (t (8 * c + 5))), .int (nI (t (8 * c + 6))), .int (nI (t (8 * c + 7))), .ref (b + 3 + 2 * c)]
def c_hd (t : Nat → Nat) (c : Nat) : List Value := am_ia (fun h => nI (t (40 + 8 * c + h))) 8
def c_gr (t : Nat → Nat) (g : Nat) : List Value := [.int (nI (t (83 + 7 * g))), .int (nI (t (83 + 7 * g + 1))), .int (nI (t (83 + 7 * g + 4))), .int (nI (t (83 + 7 * g + 2))), .int (nI (t (83 + 7 * g + 3))), .int (nI (t (83 + 7 * g + 6))), .int (nI (t (83 + 7 * g + 5)))]
def c_pic (t : Nat → Nat) (b o : Nat) : am_C :=
  if o = 0 then (3, c_lg t b) else if o = 1 then (111, am_ra (b + 2) 2 5) else if o < 12 then (if o % 2 = 0 then (1, c_sc t b ((o - 2) / 2)) else (100, c_hd t ((o - 3) / 2))) else if o = 12 then (112, am_ra (b + 13) 1 10) else (2, c_gr t (o - 13))
def c_own (i : Nat) : Nat := if i < 40 then 2 + 2 * (i / 8) else if i < 80 then 3 + 2 * ((i - 40) / 8) else if i < 83 then 0 else if i < 153 then 13 + (i - 83) / 7 else 0
def c_in (b a : Nat) : Prop := b ≤ a ∧ a < b + 23
def Led (hp : am_H) (b : Nat) (t : Nat → Nat) : Prop := 2 ≤ b ∧ ∀ o, o < 23 → hp[b + o]? = some (c_pic t b o)
theorem c_pic_lg (t : Nat → Nat) (b : Nat) : c_pic t b 0 = (3, c_lg t b) := rfl
theorem c_pic_ca (t : Nat → Nat) (b : Nat) : c_pic t b 1 = (111, am_ra (b + 2) 2 5) := rfl
theorem c_pic_ga (t : Nat → Nat) (b : Nat) : c_pic t b 12 = (112, am_ra (b + 13) 1 10) := rfl
theorem c_pic_sc (t : Nat → Nat) (b : Nat) {c : Nat} (h : c < 5) : c_pic t b (2 + 2 * c) = (1, c_sc t b c) := by
  have : c = 0 ∨ c = 1 ∨ c = 2 ∨ c = 3 ∨ c = 4 := by omega
  rcases this with rfl | rfl | rfl | rfl | rfl <;> rfl
theorem c_pic_hd (t : Nat → Nat) (b : Nat) {c : Nat} (h : c < 5) : c_pic t b (3 + 2 * c) = (100, c_hd t c) := by
  have : c = 0 ∨ c = 1 ∨ c = 2 ∨ c = 3 ∨ c = 4 := by omega
  rcases this with rfl | rfl | rfl | rfl | rfl <;> rfl
theorem c_pic_gr (t : Nat → Nat) (b : Nat) {g : Nat} (h : g < 10) : c_pic t b (13 + g) = (2, c_gr t g) := by
  unfold c_pic
  rw [if_neg (by omega), if_neg (by omega), if_neg (by omega), if_neg (by omega), Nat.add_sub_cancel_left]
theorem c_lg_congr {t t' : Nat → Nat} {b : Nat} (h : t 153 = t' 153 ∧ t 82 = t' 82 ∧ t 80 = t' 80 ∧ t 81 = t' 81) : c_lg t b = c_lg t' b := by
  unfold c_lg; rw [h.1, h.2.1, h.2.2.1, h.2.2.2]
theorem c_sc_congr {t t' : Nat → Nat} {b c : Nat} (h : ∀ k, k < 8 → t (8 * c + k) = t' (8 * c + k)) : c_sc t b c = c_sc t' b c := by
  have h0 := h 0 (by omega)
  unfold c_sc
  rw [show t (8 * c) = t' (8 * c) from h0, h 1 (by omega), h 2 (by omega), h 3 (by omega), h 4 (by omega), h 5 (by omega), h 6 (by omega), h 7 (by omega)]
theorem c_ia_congr {f g : Nat → Int32} {n : Nat} (h : ∀ k, k < n → f k = g k) : am_ia f n = am_ia g n := by
  unfold am_ia
  refine List.map_congr_left (fun k hk => ?_)
  rw [h k (List.mem_range.mp hk)]
theorem c_hd_congr {t t' : Nat → Nat} {c : Nat} (h : ∀ k, k < 8 → t (40 + 8 * c + k) = t' (40 + 8 * c + k)) : c_hd t c = c_hd t' c := c_ia_congr (fun k hk => congrArg nI (h k hk))
theorem c_gr_congr {t t' : Nat → Nat} {g : Nat} (h : ∀ k, k < 7 → t (83 + 7 * g + k) = t' (83 + 7 * g + k)) : c_gr t g = c_gr t' g := by
  have h0 := h 0 (by omega)
  unfold c_gr
  rw [show t (83 + 7 * g) = t' (83 + 7 * g) from h0, h 1 (by omega), h 2 (by omega), h 3 (by omega), h 4 (by omega), h 5 (by omega), h 6 (by omega)]
theorem c_pic_congr {t t' : Nat → Nat} {b o : Nat} (ho : o < 23) (h : ∀ i, i < 154 → c_own i = o → t i = t' i) : c_pic t b o = c_pic t' b o := by
  unfold c_pic
  split
  · rw [c_lg_congr ⟨h 153 (by decide) (by subst_vars; rfl), h 82 (by decide) (by subst_vars; rfl), h 80 (by decide) (by subst_vars; rfl), h 81 (by decide) (by subst_vars; rfl)⟩]
  · split
    · rfl
    · split
      · split
        · rw [c_sc_congr (fun k hk => h _ (by omega) (by unfold c_own; rw [if_pos (by omega)]; omega))]
        · rw [c_hd_congr (fun k hk => h _ (by omega) (by unfold c_own; rw [if_neg (by omega), if_pos (by omega)]; omega))]
      · split
        · rfl
        · rw [c_gr_congr (fun k hk => h _ (by omega) (by unfold c_own; rw [if_neg (by omega), if_neg (by omega), if_neg (by omega), if_pos (by omega)]; omega))]
theorem c_own_lt {i : Nat} (h : i < 154) : c_own i < 23 := by unfold c_own; split <;> (try split) <;> (try split) <;> (try split) <;> omega
theorem Led.upd {hp : am_H} {b : Nat} {t : Nat → Nat} (h : Led hp b t) {i v : Nat} (hi : i < 154) : Led (hp.set (b + c_own i) (c_pic (va_up t i v) b (c_own i))) b (va_up t i v) := by
  refine ⟨h.1, fun o ho => ?_⟩
  by_cases e : o = c_own i
  · subst e
    exact am_ss (h.2 _ ho)
  · rw [am_sn (by omega), h.2 o ho]
    congr 1
    exact c_pic_congr ho (fun q hq hqo => (va_up_ne t v (fun z => e (by rw [← hqo, z]))).symm)
theorem Led.congr {hp : am_H} {b : Nat} {t t' : Nat → Nat} (h : Led hp b t) (ht : ∀ i, i < 154 → t i = t' i) : Led hp b t' := ⟨h.1, fun o ho => by rw [h.2 o ho, c_pic_congr ho (fun i hi _ => ht i hi)]⟩
theorem Led.kept {hp hp1 : am_H} {b : Nat} {t : Nat → Nat} (h : Led hp b t) (hk : ∀ a, c_in b a → hp1[a]? = hp[a]?) : Led hp1 b t := ⟨h.1, fun o ho => by rw [hk _ ⟨by omega, by omega⟩]; exact h.2 o ho⟩
/-- the picture behind a write of one number -/
theorem c_sc_set {t : Nat → Nat} {b c k v : Nat} (hk : k < 8) : (c_sc t b c).set k (.int (nI v)) = c_sc (va_up t (8 * c + k) v) b c := by
  have : k = 0 ∨ k = 1 ∨ k = 2 ∨ k = 3 ∨ k = 4 ∨ k = 5 ∨ k = 6 ∨ k = 7 := by omega
  unfold c_sc
  rcases this with rfl | rfl | rfl | rfl | rfl | rfl | rfl | rfl <;> simp [va_up]
theorem c_gr_set {t : Nat → Nat} {g k v : Nat} {p : Nat} (hk : (k, p) ∈ [(0, 0), (1, 1), (2, 4), (3, 2), (4, 3), (5, 6), (6, 5)]) : (c_gr t g).set k (.int (nI v)) = c_gr (va_up t (83 + 7 * g + p) v) g := by
  unfold c_gr
  simp only [List.mem_cons, Prod.mk.injEq, List.not_mem_nil, or_false] at hk
  rcases hk with ⟨rfl, rfl⟩ | ⟨rfl, rfl⟩ | ⟨rfl, rfl⟩ | ⟨rfl, rfl⟩ | ⟨rfl, rfl⟩ | ⟨rfl, rfl⟩ | ⟨rfl, rfl⟩ <;> simp [va_up]
theorem c_lg_set {t : Nat → Nat} {b k v p : Nat} (hk : (k, p) ∈ [(2, 153), (3, 82), (4, 80), (5, 81)]) : (c_lg t b).set k (.int (nI v)) = c_lg (va_up t p v) b := by
  unfold c_lg
  simp only [List.mem_cons, Prod.mk.injEq, List.not_mem_nil, or_false] at hk
  rcases hk with ⟨rfl, rfl⟩ | ⟨rfl, rfl⟩ | ⟨rfl, rfl⟩ | ⟨rfl, rfl⟩ <;> simp [va_up]
theorem c_hd_set {t : Nat → Nat} {c k v : Nat} : am_ia (va_up (fun h => nI (t (40 + 8 * c + h))) k (nI v)) 8 = c_hd (va_up t (40 + 8 * c + k) v) c := by
  unfold c_hd
  refine c_ia_congr (fun h _ => ?_)
  by_cases e : h = k
  · subst e; rw [va_up_self, va_up_self]
  · rw [va_up_ne _ _ e, va_up_ne _ _ (by omega)]
section LR
variable {d j pc : Nat} {lo : am_L} {st : List Value} {hp : am_H} {Q : am_H → am_R → Prop} {b : Nat} {t : Nat → Nat}
theorem Led.lg (h : Led hp b t) : hp[b]? = some (3, c_lg t b) := h.2 0 (by omega)
theorem Led.ca (h : Led hp b t) : hp[b + 1]? = some (111, am_ra (b + 2) 2 5) := h.2 1 (by omega)
theorem Led.ga (h : Led hp b t) : hp[b + 12]? = some (112, am_ra (b + 13) 1 10) := h.2 12 (by omega)
theorem Led.sc (h : Led hp b t) {c : Nat} (hc : c < 5) : hp[b + 2 + 2 * c]? = some (1, c_sc t b c) := by rw [Nat.add_assoc, h.2 _ (by omega), c_pic_sc _ _ hc]
theorem Led.hd (h : Led hp b t) {c : Nat} (hc : c < 5) : hp[b + 3 + 2 * c]? = some (100, c_hd t c) := by rw [Nat.add_assoc, h.2 _ (by omega), c_pic_hd _ _ hc]
theorem Led.gr (h : Led hp b t) {g : Nat} (hg : g < 10) : hp[b + 13 + 1 * g]? = some (2, c_gr t g) := by rw [Nat.one_mul, Nat.add_assoc, h.2 _ (by omega), c_pic_gr _ _ hg]
theorem Led.fr (h : Led hp b t) {i v : Nat} (hi : i < 154) {fs : List Value} {w : Nat} (hc : hp[b + c_own i]? = some (w, fs)) (hl : (c_pic (va_up t i v) b (c_own i)).2.length = fs.length) : am_fr (c_in b) hp (hp.set (b + c_own i) (c_pic (va_up t i v) b (c_own i))) :=
  am_fr.rf.set ⟨by omega, by have := c_own_lt hi; omega⟩ hc hl
theorem Led.pSc (h : Led hp b t) {c k v ix : Nat} (hc : c < 5) (hd : decode (am_by j) pc = .ok (.putfield ix, 3)) (hf : am_fd (am_w j) ix = some (1, k)) (hk : k < 8) (ht : am_fv (am_ft 1 k) (.int (nI v)) = true) (hfin : am_fin 1 k = false) (kk : ∀ hp1, Led hp1 b (va_up t (8 * c + k) v) → am_fr (c_in b) hp hp1 → am_Rq d j (pc + 3) lo st hp1 Q) : am_Rq d j pc lo (.int (nI v) :: .ref (b + 2 + 2 * c) :: st) hp Q := by
  have ho : c_own (8 * c + k) = 2 + 2 * c := by unfold c_own; rw [if_pos (by omega)]; omega
  refine am_Rq.putf hd hf (h.sc hc) (by show k < 9; omega) ht (Or.inl hfin) (by have := h.1; omega) ?_
  have e : (hp.set (b + 2 + 2 * c) (1, (c_sc t b c).set k (.int (nI v)))) = hp.set (b + c_own (8 * c + k)) (c_pic (va_up t (8 * c + k) v) b (c_own (8 * c + k))) := by
    rw [ho, c_pic_sc _ _ hc, c_sc_set hk, ← Nat.add_assoc]
  rw [e]
  refine kk _ (h.upd (by omega)) (h.fr (by omega) (w := 1) (fs := c_sc t b c) (by rw [ho, ← Nat.add_assoc]; exact h.sc hc) (by rw [ho, c_pic_sc _ _ hc]; rfl))
theorem Led.pGr (h : Led hp b t) {g k p v ix : Nat} (hg : g < 10) (hd : decode (am_by j) pc = .ok (.putfield ix, 3)) (hf : am_fd (am_w j) ix = some (2, k)) (hk : (k, p) ∈ [(0, 0), (1, 1), (2, 4), (3, 2), (4, 3), (5, 6), (6, 5)]) (ht : am_fv (am_ft 2 k) (.int (nI v)) = true) (hfin : am_fin 2 k = false) (kk : ∀ hp1, Led hp1 b (va_up t (83 + 7 * g + p) v) → am_fr (c_in b) hp hp1 → am_Rq d j (pc + 3) lo st hp1 Q) : am_Rq d j pc lo (.int (nI v) :: .ref (b + 13 + 1 * g) :: st) hp Q := by
  have hp7 : p < 7 ∧ k < 7 := by
    simp only [List.mem_cons, Prod.mk.injEq, List.not_mem_nil, or_false] at hk
    omega
  have ho : c_own (83 + 7 * g + p) = 13 + g := by unfold c_own; rw [if_neg (by omega), if_neg (by omega), if_neg (by omega), if_pos (by omega)]; omega
  refine am_Rq.putf hd hf (h.gr hg) hp7.2 ht (Or.inl hfin) (by have := h.1; omega) ?_
  have e : (hp.set (b + 13 + 1 * g) (2, (c_gr t g).set k (.int (nI v)))) = hp.set (b + c_own (83 + 7 * g + p)) (c_pic (va_up t (83 + 7 * g + p) v) b (c_own (83 + 7 * g + p))) := by
    rw [ho, c_pic_gr _ _ hg, c_gr_set hk, ← Nat.add_assoc, Nat.one_mul]
  rw [e]
  refine kk _ (h.upd (by omega)) (h.fr (by omega) (w := 2) (fs := c_gr t g) (by rw [ho, ← Nat.add_assoc]; have := h.gr hg; rw [Nat.one_mul] at this; exact this) (by rw [ho, c_pic_gr _ _ hg]; rfl))
theorem Led.pLg (h : Led hp b t) {k p v ix : Nat} (hd : decode (am_by j) pc = .ok (.putfield ix, 3)) (hf : am_fd (am_w j) ix = some (3, k)) (hk : (k, p) ∈ [(2, 153), (3, 82), (4, 80), (5, 81)]) (ht : am_fv (am_ft 3 k) (.int (nI v)) = true) (hfin : am_fin 3 k = false) (kk : ∀ hp1, Led hp1 b (va_up t p v) → am_fr (c_in b) hp hp1 → am_Rq d j (pc + 3) lo st hp1 Q) : am_Rq d j pc lo (.int (nI v) :: .ref b :: st) hp Q := by
  have hp7 : (p = 153 ∨ p = 82 ∨ p = 80 ∨ p = 81) ∧ k < 6 := by
    simp only [List.mem_cons, Prod.mk.injEq, List.not_mem_nil, or_false] at hk
    omega
  have ho : c_own p = 0 := by rcases hp7.1 with rfl | rfl | rfl | rfl <;> rfl
  refine am_Rq.putf hd hf h.lg hp7.2 ht (Or.inl hfin) h.1 ?_
  have e : (hp.set b (3, (c_lg t b).set k (.int (nI v)))) = hp.set (b + c_own p) (c_pic (va_up t p v) b (c_own p)) := by
    rw [ho, c_pic_lg, c_lg_set hk]
    rfl
  rw [e]
  refine kk _ (h.upd (by omega)) (h.fr (by omega) (w := 3) (fs := c_lg t b) (by rw [ho]; exact h.lg) (by rw [ho, c_pic_lg]; rfl))
theorem Led.gHd (h : Led hp b t) {c k : Nat} (hc : c < 5) (hk : k < 8) (hd : decode (am_by j) pc = .ok (.iaload, 1)) (kk : am_Rq d j (pc + 1) lo (.int (nI (t (40 + 8 * c + k))) :: st) hp Q) : am_Rq d j pc lo (.int (nI k) :: .ref (b + 3 + 2 * c) :: st) hp Q :=
  am_Rq.ial (f := fun h => nI (t (40 + 8 * c + h))) hd (h.hd hc) hk (by omega) kk
theorem Led.pHd (h : Led hp b t) {c k v : Nat} (hc : c < 5) (hk : k < 8) (hd : decode (am_by j) pc = .ok (.iastore, 1)) (kk : ∀ hp1, Led hp1 b (va_up t (40 + 8 * c + k) v) → am_fr (c_in b) hp hp1 → am_Rq d j (pc + 1) lo st hp1 Q) : am_Rq d j pc lo (.int (nI v) :: .int (nI k) :: .ref (b + 3 + 2 * c) :: st) hp Q := by
  have ho : c_own (40 + 8 * c + k) = 3 + 2 * c := by unfold c_own; rw [if_neg (by omega), if_pos (by omega)]; omega
  refine am_Rq.ias (f := fun h => nI (t (40 + 8 * c + h))) hd (h.hd hc) hk (by omega) (by omega) ?_
  have e : (hp.set (b + 3 + 2 * c) (100, am_ia (va_up (fun h => nI (t (40 + 8 * c + h))) k (nI v)) 8)) = hp.set (b + c_own (40 + 8 * c + k)) (c_pic (va_up t (40 + 8 * c + k) v) b (c_own (40 + 8 * c + k))) := by
    rw [ho, c_pic_hd _ _ hc, c_hd_set, ← Nat.add_assoc]
  rw [e]
  refine kk _ (h.upd (by omega)) (h.fr (by omega) (w := 100) (fs := c_hd t c) (by rw [ho, ← Nat.add_assoc]; exact h.hd hc) (by rw [ho, c_pic_hd _ _ hc]; simp [c_hd, am_ia_len]))
end LR
