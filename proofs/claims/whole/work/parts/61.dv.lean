/-! How an amount is divided: pure. P preferences, R ranks, W weights, M mosts, each of five classes. -/
theorem sp_g_low {n : Nat} {k : Nat} : ∀ (l : Nat) (p q : Nat → Nat), l ≤ sp_sm (fun i => if q i ≤ 1 then 0 else 1) n → q k ≤ 1 → sp_g n l p q k = p k
  | 0, _, _, _, _ => rfl
  | l + 1, p, q, hl, hk => by
    simp only [sp_g]
    have hn : 0 < n := by
      cases n with
      | zero => simp [sp_sm] at hl
      | succ n => omega
    have hb := sp_b_lt (q := q) hn
    have h1 : ¬ q (sp_b q n) ≤ 1 := fun z => by
      have : sp_sm (fun i => if q i ≤ 1 then 0 else 1) n = 0 := sp_sm_zero (fun i hi => by
        have := sp_b_max (q := q) hi
        show (if q i ≤ 1 then 0 else 1) = 0
        rw [if_pos (by omega)])
      omega
    have hne : k ≠ sp_b q n := fun z => h1 (z ▸ hk)
    rw [sp_g_low l _ _ ?_ (by rw [va_up_ne _ _ hne]; exact hk), va_up_ne _ _ hne]
    have e : sp_sm (fun i => if va_up q (sp_b q n) 0 i ≤ 1 then 0 else 1) n = sp_sm (va_up (fun i => if q i ≤ 1 then 0 else 1) (sp_b q n) 0) n := by
      refine sp_sm_congr (fun i _ => ?_)
      by_cases h : i = sp_b q n
      · rw [h, va_up_self, va_up_self]; rfl
      · rw [va_up_ne _ _ h, va_up_ne _ _ h]
    have := sp_sm_up (f := fun i => if q i ≤ 1 then 0 else 1) (v := 0) hb
    rw [if_neg h1] at this
    rw [e]
    omega
/-- who has no weight gets nothing -/
theorem sp_sh_none {n A : Nat} {w : Nat → Nat} {k : Nat} (hk : w k = 0) : sp_sh n A w k = 0 := by
  unfold sp_sh
  by_cases h : sp_sm w n = 0
  · rw [if_pos h]
  · rw [if_neg h, sp_g_low]
    · unfold sp_fl; rw [hk]; simp
    · refine Nat.le_trans (sp_lf_ct (by omega)) (sp_sm_le (fun i _ => ?_))
      show (if A * w i % sp_sm w n = 0 then 0 else 1) ≤ (if sp_mk n A w i ≤ 1 then 0 else 1)
      unfold sp_mk
      split <;> split <;> omega
    · unfold sp_mk; rw [hk]; simp
def dv_cl (P R : Nat → Nat) (r c : Nat) : Nat := if R c = r then P c else 0
/-- what is left behind r ranks -/
def dv_L (P R : Nat → Nat) (A : Nat) : Nat → Nat
  | 0 => A
  | r + 1 => dv_L P R A r - sp_sm (dv_cl P R r) 5
/-- what a rank pays -/
def dv_pay (P R : Nat → Nat) (A r c : Nat) : Nat := if sp_sm (dv_cl P R r) 5 ≤ dv_L P R A r then dv_cl P R r c else sp_sh 5 (dv_L P R A r) (dv_cl P R r) c
def dv_D (P R : Nat → Nat) (A : Nat) : Nat → Nat → Nat
  | 0, _ => 0
  | r + 1, c => dv_D P R A r c + dv_pay P R A r c
theorem dv_pay_sum (P R : Nat → Nat) (A r : Nat) : sp_sm (dv_pay P R A r) 5 + dv_L P R A (r + 1) = dv_L P R A r := by
  by_cases h : sp_sm (dv_cl P R r) 5 ≤ dv_L P R A r
  · have e : dv_pay P R A r = dv_cl P R r := by funext c; unfold dv_pay; rw [if_pos h]
    rw [e]
    simp only [dv_L]
    omega
  · have e : dv_pay P R A r = sp_sh 5 (dv_L P R A r) (dv_cl P R r) := by funext c; unfold dv_pay; rw [if_neg h]
    rw [e, sp_sh_sum (by omega)]
    simp only [dv_L]
    omega
theorem dv_D_sum (P R : Nat → Nat) (A : Nat) : ∀ r, sp_sm (dv_D P R A r) 5 + dv_L P R A r = A
  | 0 => by
    show sp_sm (fun _ => 0) 5 + A = A
    simp [sp_sm]
  | r + 1 => by
    have h1 := dv_D_sum P R A r
    have h2 := dv_pay_sum P R A r
    have e : sp_sm (dv_D P R A (r + 1)) 5 = sp_sm (dv_D P R A r) 5 + sp_sm (dv_pay P R A r) 5 := sp_sm_add (dv_D P R A r) (dv_pay P R A r) 5
    omega
theorem dv_L_le (P R : Nat → Nat) (A r : Nat) : dv_L P R A r ≤ A := by have := dv_D_sum P R A r; omega
theorem dv_D_le {P R : Nat → Nat} {A r c : Nat} (hc : c < 5) : dv_D P R A r c + dv_L P R A r ≤ A := by
  have := dv_D_sum P R A r
  have := sp_sm_ge (f := dv_D P R A r) hc
  omega
/-- the first below n of which p holds; n if none -/
def dv_f (p : Nat → Bool) : Nat → Nat
  | 0 => 0
  | n + 1 => if dv_f p n < n then dv_f p n else if p n then n else n + 1
theorem dv_f_le (p : Nat → Bool) : ∀ n, dv_f p n ≤ n
  | 0 => Nat.le_refl _
  | n + 1 => by
    have := dv_f_le p n
    simp only [dv_f]
    split
    · omega
    · split <;> omega
theorem dv_f_none {p : Nat → Bool} : ∀ {n : Nat}, (∀ i, i < n → p i = false) → dv_f p n = n
  | 0, _ => rfl
  | n + 1, h => by
    simp only [dv_f]
    rw [dv_f_none (fun i hi => h i (by omega)), if_neg (by omega), h n (by omega)]
    rfl
theorem dv_f_some {p : Nat → Bool} {c : Nat} (hc : p c = true) (hb : ∀ i, i < c → p i = false) : ∀ {n : Nat}, c < n → dv_f p n = c
  | 0, h => by omega
  | n + 1, h => by
    simp only [dv_f]
    by_cases e : c = n
    · subst e
      rw [dv_f_none hb, if_neg (by omega), hc]
      rfl
    · rw [dv_f_some hc hb (by omega), if_pos (by omega)]
theorem dv_f_spec {p : Nat → Bool} : ∀ {n : Nat}, dv_f p n < n → p (dv_f p n) = true
  | 0, h => by simp [dv_f] at h
  | n + 1, h => by
    have h' := h
    simp only [dv_f] at h ⊢
    by_cases e : dv_f p n < n
    · rw [if_pos e]; exact dv_f_spec e
    · rw [if_neg e] at h ⊢
      cases hp : p n with
      | true => rw [if_pos rfl]; exact hp
      | false => rw [hp, if_neg (by simp)] at h; omega
theorem dv_f_all {p : Nat → Bool} : ∀ {n : Nat}, dv_f p n = n → ∀ i, i < n → p i = false
  | 0, _, i, hi => by omega
  | n + 1, h, i, hi => by
    simp only [dv_f] at h
    by_cases e : dv_f p n < n
    · rw [if_pos e] at h; omega
    · rw [if_neg e] at h
      have := dv_f_le p n
      cases hp : p n with
      | true => rw [hp, if_pos rfl] at h; omega
      | false =>
        by_cases e2 : i = n
        · subst e2; exact hp
        · exact dv_f_all (n := n) (by omega) i (by omega)
/-- would its part be above its most? -/
def dv_up (M W : Nat → Nat) (L c : Nat) : Bool := decide (M c < L * W c / sp_sm W 5)
theorem dv_up_le {M W : Nat → Nat} {L c : Nat} (hc : c < 5) (h : dv_up M W L c = true) : M c < L ∧ 0 < W c := by
  have h := of_decide_eq_true h
  have h1 := sp_sm_ge (f := W) hc
  have h2 : L * W c / sp_sm W 5 ≤ L := by
    by_cases z : sp_sm W 5 = 0
    · rw [z, Nat.div_zero]; omega
    · refine Nat.div_le_of_le_mul ?_
      rw [Nat.mul_comm (sp_sm W 5) L]
      exact Nat.mul_le_mul_left L h1
  refine ⟨by omega, ?_⟩
  by_cases z : W c = 0
  · rw [z, Nat.mul_zero, Nat.zero_div] at h; omega
  · omega
def dv_cp (M : Nat → Nat) : Nat → Nat → (Nat → Nat) → (Nat → Nat) → Nat × (Nat → Nat) × (Nat → Nat)
  | 0, L, W, D => (L, W, D)
  | n + 1, L, W, D => if dv_f (dv_up M W L) 5 < 5 then dv_cp M n (L - M (dv_f (dv_up M W L) 5)) (va_up W (dv_f (dv_up M W L) 5) 0) (va_up D (dv_f (dv_up M W L) 5) (D (dv_f (dv_up M W L) 5) + M (dv_f (dv_up M W L) 5))) else (L, W, D)
theorem dv_cp_none {M W : Nat → Nat} {L n : Nat} {D : Nat → Nat} (h : ∀ c, c < 5 → dv_up M W L c = false) : dv_cp M n L W D = (L, W, D) := by
  cases n with
  | zero => rfl
  | succ n => simp only [dv_cp]; rw [dv_f_none h, if_neg (by omega)]
theorem dv_cp_some {M W : Nat → Nat} {L n c : Nat} {D : Nat → Nat} (hc : c < 5) (h : dv_up M W L c = true) (hb : ∀ i, i < c → dv_up M W L i = false) : dv_cp M (n + 1) L W D = dv_cp M n (L - M c) (va_up W c 0) (va_up D c (D c + M c)) := by
  simp only [dv_cp]
  rw [dv_f_some h hb hc, if_pos hc]
theorem dv_cp_sum {M : Nat → Nat} : ∀ (n L : Nat) (W D : Nat → Nat), sp_sm (dv_cp M n L W D).2.2 5 + (dv_cp M n L W D).1 = sp_sm D 5 + L
  | 0, _, _, _ => rfl
  | n + 1, L, W, D => by
    simp only [dv_cp]
    by_cases h : dv_f (dv_up M W L) 5 < 5
    · rw [if_pos h, dv_cp_sum n]
      have h1 := dv_up_le h (dv_f_spec h)
      have h2 := sp_sm_up (f := D) (v := D (dv_f (dv_up M W L) 5) + M (dv_f (dv_up M W L) 5)) h
      omega
    · rw [if_neg h]
theorem dv_cp_W {M : Nat → Nat} : ∀ (n L : Nat) (W D : Nat → Nat) (c : Nat), (dv_cp M n L W D).2.1 c ≤ W c
  | 0, _, _, _, _ => Nat.le_refl _
  | n + 1, L, W, D, c => by
    simp only [dv_cp]
    by_cases h : dv_f (dv_up M W L) 5 < 5
    · rw [if_pos h]
      refine Nat.le_trans (dv_cp_W n _ _ _ c) ?_
      by_cases e : c = dv_f (dv_up M W L) 5
      · subst e; rw [va_up_self]; exact Nat.zero_le _
      · rw [va_up_ne _ _ e]; exact Nat.le_refl _
    · rw [if_neg h]; exact Nat.le_refl _
/-- one that is paid its most is one fewer -/
theorem sp_ct_less {q : Nat → Nat} {n k : Nat} (hk : k < n) (h : q k ≠ 0) : sp_ct (va_up q k 0) n + 1 = sp_ct q n := by
  unfold sp_ct
  have e : sp_sm (fun i => if va_up q k 0 i = 0 then 0 else 1) n = sp_sm (va_up (fun i => if q i = 0 then 0 else 1) k 0) n := by
    refine sp_sm_congr (fun i _ => ?_)
    by_cases h : i = k
    · subst h; simp [va_up_self]
    · simp [va_up_ne _ _ h]
  have := sp_sm_up (f := fun i => if q i = 0 then 0 else 1) (v := 0) hk
  rw [e]
  rw [if_neg h] at this
  omega
theorem sp_ct_0 {q : Nat → Nat} {n : Nat} (h : sp_ct q n = 0) : ∀ i, i < n → q i = 0 := fun i hi => by
  have := sp_sm_zero' h hi
  by_cases z : q i = 0
  · exact z
  · rw [if_neg z] at this; omega
theorem sp_ct_le (q : Nat → Nat) : ∀ n, sp_ct q n ≤ n
  | 0 => Nat.le_refl _
  | n + 1 => by
    have := sp_ct_le q n
    unfold sp_ct at this ⊢
    simp only [sp_sm]
    split <;> omega
/-- the whole division: places 0 to 4 the classes, 5 the company -/
def dv_c (P R W M : Nat → Nat) (A : Nat) : Nat × (Nat → Nat) × (Nat → Nat) := dv_cp M 5 (dv_L P R A 4) W (dv_D P R A 4)
def dv_out (P R W M : Nat → Nat) (A c : Nat) : Nat := if c < 5 then (dv_c P R W M A).2.2 c + sp_sh 5 (dv_c P R W M A).1 (dv_c P R W M A).2.1 c else if sp_sm (dv_c P R W M A).2.1 5 = 0 then (dv_c P R W M A).1 else 0
theorem dv_c_sum (P R W M : Nat → Nat) (A : Nat) : sp_sm (dv_c P R W M A).2.2 5 + (dv_c P R W M A).1 = A := by
  have h1 := dv_cp_sum (M := M) 5 (dv_L P R A 4) W (dv_D P R A 4)
  have h2 := dv_D_sum P R A 4
  unfold dv_c
  omega
theorem dv_out_sum (P R W M : Nat → Nat) (A : Nat) : sp_sm (dv_out P R W M A) 5 + dv_out P R W M A 5 = A := by
  have h1 := dv_c_sum P R W M A
  have e1 : sp_sm (dv_out P R W M A) 5 = sp_sm (fun c => (dv_c P R W M A).2.2 c + sp_sh 5 (dv_c P R W M A).1 (dv_c P R W M A).2.1 c) 5 := sp_sm_congr (fun c hc => by unfold dv_out; rw [if_pos hc])
  have e2 : dv_out P R W M A 5 = if sp_sm (dv_c P R W M A).2.1 5 = 0 then (dv_c P R W M A).1 else 0 := by unfold dv_out; rw [if_neg (by omega)]
  rw [e1, e2, sp_sm_add]
  by_cases h : sp_sm (dv_c P R W M A).2.1 5 = 0
  · rw [if_pos h]
    have : sp_sm (sp_sh 5 (dv_c P R W M A).1 (dv_c P R W M A).2.1) 5 = 0 := sp_sm_zero (fun i _ => by unfold sp_sh; rw [if_pos h])
    omega
  · rw [if_neg h, sp_sh_sum (by omega)]
    omega
theorem dv_out_le (P R W M : Nat → Nat) (A c : Nat) (hc : c < 6) : dv_out P R W M A c ≤ A := by
  have h := dv_out_sum P R W M A
  by_cases e : c < 5
  · have := sp_sm_ge (f := dv_out P R W M A) e
    omega
  · have : c = 5 := by omega
    subst this
    omega
/-! The same of a ledger's row t and a set. -/
def sl_as (e c : Nat) : Bool := decide (c = 0) || Nat.testBit e (c - 1)
def sl_P (t : Nat → Nat) (e c : Nat) : Nat := if sl_as e c = true then 0 else t (8 * c + 7) * t (8 * c) * t (8 * c + 1)
def sl_R (t : Nat → Nat) (c : Nat) : Nat := t (8 * c + 2)
def sl_W (t : Nat → Nat) (e c : Nat) : Nat := if sl_as e c = true ∨ t (8 * c + 3) = 1 ∨ t (8 * c + 3) = 2 then c_ic t c else 0
def sl_M (t : Nat → Nat) (e c : Nat) : Nat := if sl_as e c = false ∧ t (8 * c + 3) = 2 then t (8 * c + 7) * t (8 * c) * t (8 * c + 4) - t (8 * c + 7) * t (8 * c) * t (8 * c + 1) else 2000000000
def sl_dv (t : Nat → Nat) (A e c : Nat) : Nat := dv_out (sl_P t e) (sl_R t) (sl_W t e) (sl_M t e) A c
/-- a set is stable -/
def sl_st (t : Nat → Nat) (A e n : Nat) : Bool := (List.range n).all fun c => !(decide (1 ≤ c) && (decide (0 < t (8 * c + 7)) && decide (sl_dv t A e c < sl_dv t A (e ^^^ 1 <<< (c - 1)) c)))
theorem sl_st_succ {t : Nat → Nat} {A e n : Nat} : sl_st t A e (n + 1) = (sl_st t A e n && !(decide (1 ≤ n) && (decide (0 < t (8 * n + 7)) && decide (sl_dv t A e n < sl_dv t A (e ^^^ 1 <<< (n - 1)) n)))) := by
  unfold sl_st
  rw [List.range_succ, List.all_append]
  simp only [List.all_cons, List.all_nil, Bool.and_true]
theorem sl_st_false {t : Nat → Nat} {A e n c : Nat} (hc : c < n) (h : (decide (1 ≤ c) && (decide (0 < t (8 * c + 7)) && decide (sl_dv t A e c < sl_dv t A (e ^^^ 1 <<< (c - 1)) c))) = true) : sl_st t A e n = false := by
  unfold sl_st
  rw [Bool.eq_false_iff]
  intro q
  have := List.all_eq_true.mp q c (List.mem_range.mpr hc)
  rw [h] at this
  cases this
/-- one that can be the stable set -/
def sl_ok (t : Nat → Nat) (A e : Nat) : Bool := c_cv t e 5 && sl_st t A e 5
def sl_set (t : Nat → Nat) (A : Nat) : Option Nat := am_sets.find? (sl_ok t A)
def sl_v (o : Option Nat) : Int32 := match o with
  | some n => nI n
  | none => am_ic (-1)
theorem sl_set_lt {t : Nat → Nat} {A e : Nat} (h : sl_set t A = some e) : e < 16 := by
  have h1 := List.mem_of_find?_eq_some h
  have h2 : ∀ x ∈ am_sets, x < 16 := by decide
  exact h2 e h1
/-- the order in which sets are looked for -/
def sl_bt (e : Nat) : Nat := e % 2 + e / 2 % 2 + e / 4 % 2 + e / 8 % 2
theorem sl_split : ∀ e, e < 16 → am_sets = (am_sets.takeWhile fun x => x != e) ++ e :: ((am_sets.dropWhile fun x => x != e).drop 1) ∧ ∀ x ∈ (am_sets.takeWhile fun x => x != e), x < 16 ∧ 16 * sl_bt x + x < 16 * sl_bt e + e := by decide
theorem sl_find {p : Nat → Bool} {e : Nat} (he : e < 16) (hp : p e = true) (hb : ∀ x, x < 16 → 16 * sl_bt x + x < 16 * sl_bt e + e → p x = false) : am_sets.find? p = some e := by
  obtain ⟨h1, h2⟩ := sl_split e he
  rw [List.find?_eq_some_iff_append]
  refine ⟨hp, _, _, h1, fun a ha => ?_⟩
  obtain ⟨h3, h4⟩ := h2 a ha
  rw [hb a h3 h4]
  rfl
theorem sl_findNo {p : Nat → Bool} (hb : ∀ x, x < 16 → p x = false) : am_sets.find? p = none := by
  rw [List.find?_eq_none]
  intro x hx
  have h2 : ∀ x ∈ am_sets, x < 16 := by decide
  rw [hb x (h2 x hx)]
  simp
/-- the smallest amount of a flip, by halving: n halvings at most -/
def sl_fl (p : Nat → Bool) : Nat → Nat → Nat → Nat
  | 0, _, b => b
  | n + 1, a, b => if b - a ≤ 1 then b else if p (a + (b - a) / 2) then sl_fl p n (a + (b - a) / 2) b else sl_fl p n a (a + (b - a) / 2)
theorem sl_fl_end {p : Nat → Bool} {n a b : Nat} (h : b - a ≤ 1) : sl_fl p n a b = b := by
  cases n with
  | zero => rfl
  | succ n => simp only [sl_fl]; rw [if_pos h]
/-- what a holder is brought -/
def sl_br (t : Nat → Nat) (A e h n : Nat) : Nat := sp_sm (fun c => sp_sh 8 (sl_dv t A e c) (fun k => t (40 + 8 * c + k)) h) n
theorem sl_br_le {t : Nat → Nat} {A e h n : Nat} (hh : h < 8) (hn : n ≤ 5) : sl_br t A e h n ≤ A := by
  have h1 : sl_br t A e h n ≤ sp_sm (sl_dv t A e) n := sp_sm_le (fun c _ => sp_sh_le hh)
  have h2 := sp_sm_mono (f := sl_dv t A e) hn
  have h3 := dv_out_sum (sl_P t e) (sl_R t) (sl_W t e) (sl_M t e) A
  have h4 : sp_sm (sl_dv t A e) 5 = sp_sm (dv_out (sl_P t e) (sl_R t) (sl_W t e) (sl_M t e) A) 5 := rfl
  omega
/-! Bounds. -/
theorem sl_P_le {K : Nat} {t : Nat → Nat} (ok : c_ok K t) {e c : Nat} (hc : c < 5) : sl_P t e c ≤ 1500000000 := by
  obtain ⟨a0, a1, a2, a3, a4, a5, a6, a7, a8, a9, a10, -⟩ := ok.1 c hc
  unfold sl_P
  split
  · omega
  · rename_i h
    have h1 : 1 ≤ c := by
      by_cases z : c = 0
      · subst z; exact absurd rfl h
      · omega
    exact Nat.mul_le_mul (Nat.mul_le_mul (a10 h1) a1) a2
theorem sl_W_le {K : Nat} {t : Nat → Nat} (ok : c_ok K t) {e c : Nat} (hc : c < 5) : sl_W t e c ≤ 20000000 := by
  unfold sl_W
  split
  · exact c_ic_le ok hc
  · omega
theorem sl_M_le {K : Nat} {t : Nat → Nat} (ok : c_ok K t) {e c : Nat} (hc : c < 5) : sl_M t e c ≤ 18000000000 := by
  obtain ⟨a0, a1, a2, a3, a4, a5, a6, a7, a8, a9, a10, -⟩ := ok.1 c hc
  unfold sl_M
  split
  · have := Nat.mul_le_mul (Nat.mul_le_mul a9 a1) a5
    omega
  · omega
theorem sp_sm_bd {f : Nat → Nat} {b : Nat} : ∀ {n : Nat}, (∀ i, i < n → f i ≤ b) → sp_sm f n ≤ n * b
  | 0, _ => by simp [sp_sm]
  | n + 1, h => by
    have h1 := sp_sm_bd (n := n) (fun i hi => h i (by omega))
    have h2 := h n (by omega)
    simp only [sp_sm]
    rw [Nat.add_mul]
    omega
theorem dv_cl_le {P R : Nat → Nat} {r c : Nat} : dv_cl P R r c ≤ P c := by
  unfold dv_cl
  split <;> omega
/-! A row of natural numbers: a write. -/
theorem m_up {s : Nat → Nat} {k v : Nat} : va_up (fun i => nI (s i)) k (nI v) = fun i => nI (va_up s k v i) := by
  funext i
  by_cases e : i = k
  · subst e; rw [va_up_self, va_up_self]
  · rw [va_up_ne _ _ e, va_up_ne _ _ e]
theorem am_Rq.nas {d j pc : Nat} {lo : am_L} {st : List Value} {hp : am_H} {Q : am_H → am_R → Prop} {a n k v : Nat} {s : Nat → Nat} (hd : decode (am_by j) pc = .ok (.iastore, 1)) (hc : hp[a]? = some (100, am_ia (fun i => nI (s i)) n)) (hk : k < n) (hn : n < 2 ^ 31) (ha : 2 ≤ a) (kk : am_Rq d j (pc + 1) lo st (hp.set a (100, am_ia (fun i => nI (va_up s k v i)) n)) Q) : am_Rq d j pc lo (.int (nI v) :: .int (nI k) :: .ref a :: st) hp Q :=
  am_Rq.ias hd hc hk hn ha (by rw [m_up]; exact kk)
