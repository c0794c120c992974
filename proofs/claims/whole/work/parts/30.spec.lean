/-! Sums, and sharing out an amount by weights: pure. -/
def sp_sm (f : Nat → Nat) : Nat → Nat
  | 0 => 0
  | n + 1 => sp_sm f n + f n
theorem sp_sm_congr {f g : Nat → Nat} {n : Nat} (h : ∀ i, i < n → f i = g i) : sp_sm f n = sp_sm g n := by
  induction n with
  | zero => rfl
  | succ n ih => simp only [sp_sm]; rw [ih (fun i hi => h i (by omega)), h n (by omega)]
theorem sp_sm_le {f g : Nat → Nat} {n : Nat} (h : ∀ i, i < n → f i ≤ g i) : sp_sm f n ≤ sp_sm g n := by
  induction n with
  | zero => exact Nat.le_refl _
  | succ n ih => simp only [sp_sm]; exact Nat.add_le_add (ih (fun i hi => h i (by omega))) (h n (by omega))
theorem sp_sm_ge {f : Nat → Nat} {n i : Nat} (h : i < n) : f i ≤ sp_sm f n := by
  induction n with
  | zero => omega
  | succ n ih =>
    simp only [sp_sm]
    by_cases e : i = n
    · subst e; omega
    · have := ih (by omega); omega
theorem sp_sm_zero {f : Nat → Nat} {n : Nat} (h : ∀ i, i < n → f i = 0) : sp_sm f n = 0 := by
  induction n with
  | zero => rfl
  | succ n ih => simp only [sp_sm]; rw [ih (fun i hi => h i (by omega)), h n (by omega)]
theorem sp_sm_zero' {f : Nat → Nat} {n : Nat} (h : sp_sm f n = 0) {i : Nat} (hi : i < n) : f i = 0 := by
  have := sp_sm_ge (f := f) hi
  omega
theorem sp_sm_mul (a : Nat) (f : Nat → Nat) (n : Nat) : sp_sm (fun i => a * f i) n = a * sp_sm f n := by
  induction n with
  | zero => rfl
  | succ n ih => simp only [sp_sm]; rw [ih, Nat.mul_add]
theorem sp_sm_add (f g : Nat → Nat) (n : Nat) : sp_sm (fun i => f i + g i) n = sp_sm f n + sp_sm g n := by
  induction n with
  | zero => rfl
  | succ n ih => simp only [sp_sm]; rw [ih]; omega
theorem sp_sm_up {f : Nat → Nat} {n k v : Nat} (h : k < n) : sp_sm (va_up f k v) n + f k = sp_sm f n + v := by
  induction n with
  | zero => omega
  | succ n ih =>
    simp only [sp_sm]
    by_cases e : k = n
    · subst e
      rw [va_up_self, sp_sm_congr (g := f) (fun i hi => va_up_ne f v (by omega))]
      omega
    · rw [va_up_ne f v (fun q => e q.symm)]
      have := ih (by omega)
      omega
theorem sp_sm_tail {f : Nat → Nat} {n m : Nat} (h : ∀ i, n ≤ i → i < m → f i = 0) (hn : n ≤ m) : sp_sm f m = sp_sm f n := by
  induction m with
  | zero => have : n = 0 := by omega
            subst this; rfl
  | succ m ih =>
    by_cases e : n = m + 1
    · subst e; rfl
    · simp only [sp_sm]
      rw [ih (fun i h1 h2 => h i h1 (by omega)) (by omega), h m (by omega) (by omega)]
      rfl
/-- the first place of the greatest -/
def sp_b (q : Nat → Nat) : Nat → Nat
  | 0 => 0
  | n + 1 => if q (sp_b q n) < q n then n else sp_b q n
theorem sp_b_lt {q : Nat → Nat} {n : Nat} (h : 0 < n) : sp_b q n < n := by
  induction n with
  | zero => omega
  | succ n ih =>
    simp only [sp_b]
    split
    · omega
    · by_cases e : n = 0
      · subst e; simp [sp_b]
      · have := ih (by omega); omega
theorem sp_b_max {q : Nat → Nat} {n i : Nat} (h : i < n) : q i ≤ q (sp_b q n) := by
  induction n with
  | zero => omega
  | succ n ih =>
    simp only [sp_b]
    split
    · by_cases e : i = n
      · subst e; exact Nat.le_refl _
      · have := ih (by omega); omega
    · by_cases e : i = n
      · subst e; omega
      · exact ih (by omega)
theorem sp_b_congr {q q' : Nat → Nat} {n : Nat} (h : ∀ i, i < n → q i = q' i) : sp_b q n = sp_b q' n := by
  induction n with
  | zero => rfl
  | succ n ih =>
    simp only [sp_b]
    rw [ih (fun i hi => h i (by omega)), h n (by omega)]
    by_cases e : n = 0
    · subst e
      split <;> split <;> rfl
    · rw [h (sp_b q' n) (by have := sp_b_lt (q := q') (n := n) (by omega); omega)]
/-- places behind n that are not above the greatest change nothing -/
theorem sp_b_tail {q : Nat → Nat} {n m : Nat} (hn : n ≤ m) (h : ∀ i, n ≤ i → i < m → q i ≤ q (sp_b q n)) : sp_b q m = sp_b q n := by
  induction m with
  | zero => have : n = 0 := by omega
            subst this; rfl
  | succ m ih =>
    by_cases e : n = m + 1
    · subst e; rfl
    · simp only [sp_b]
      have h1 := ih (by omega) (fun i a b => h i a (by omega))
      rw [h1, if_neg]
      have := h m (by omega) (by omega)
      omega
/-- so many units to the greatest marks; a mark that got one is 0 -/
def sp_g (n : Nat) : Nat → (Nat → Nat) → (Nat → Nat) → Nat → Nat
  | 0, p, _ => p
  | l + 1, p, q => sp_g n l (va_up p (sp_b q n) (p (sp_b q n) + 1)) (va_up q (sp_b q n) 0)
theorem sp_g_sum {n : Nat} (hn : 0 < n) : ∀ (l : Nat) (p q : Nat → Nat), sp_sm (sp_g n l p q) n = sp_sm p n + l
  | 0, _, _ => rfl
  | l + 1, p, q => by
    simp only [sp_g]
    rw [sp_g_sum hn l]
    have := sp_sm_up (f := p) (v := p (sp_b q n) + 1) (sp_b_lt (q := q) hn)
    omega
theorem sp_g_out {n : Nat} (hn : 0 < n) : ∀ (l : Nat) (p q : Nat → Nat) (i : Nat), n ≤ i → sp_g n l p q i = p i
  | 0, _, _, _, _ => rfl
  | l + 1, p, q, i, hi => by
    simp only [sp_g]
    rw [sp_g_out hn l _ _ i hi]
    have := sp_b_lt (q := q) hn
    exact va_up_ne p _ (by omega)
theorem sp_g_congr {n : Nat} : ∀ (l : Nat) (p p' q q' : Nat → Nat), (∀ i, i < n → p i = p' i) → (∀ i, i < n → q i = q' i) → ∀ i, i < n → sp_g n l p q i = sp_g n l p' q' i
  | 0, _, _, _, _, hp, _, i, hi => hp i hi
  | l + 1, p, p', q, q', hp, hq, i, hi => by
    simp only [sp_g]
    have e := sp_b_congr hq
    have hb : sp_b q' n < n := sp_b_lt (by omega)
    rw [e]
    refine sp_g_congr l _ _ _ _ (fun k hk => ?_) (fun k hk => ?_) i hi
    · by_cases h : k = sp_b q' n
      · rw [h, va_up_self, va_up_self, hp _ hb]
      · rw [va_up_ne _ _ h, va_up_ne _ _ h, hp k hk]
    · by_cases h : k = sp_b q' n
      · rw [h, va_up_self, va_up_self]
      · rw [va_up_ne _ _ h, va_up_ne _ _ h, hq k hk]
/-- how many marks stand -/
def sp_ct (q : Nat → Nat) (n : Nat) : Nat := sp_sm (fun i => if q i = 0 then 0 else 1) n
theorem sp_ct_up {q : Nat → Nat} {n k : Nat} (hk : k < n) : sp_ct q n ≤ sp_ct (va_up q k 0) n + 1 := by
  unfold sp_ct
  have e : sp_sm (fun i => if va_up q k 0 i = 0 then 0 else 1) n = sp_sm (va_up (fun i => if q i = 0 then 0 else 1) k 0) n := by
    refine sp_sm_congr (fun i _ => ?_)
    by_cases h : i = k
    · subst h; simp [va_up_self]
    · simp [va_up_ne _ _ h]
  have := sp_sm_up (f := fun i => if q i = 0 then 0 else 1) (v := 0) hk
  rw [e]
  split at this <;> omega
theorem sp_ct_pos {q : Nat → Nat} {n : Nat} (h : 0 < sp_ct q n) : 0 < q (sp_b q n) := by
  by_cases hz : q (sp_b q n) = 0
  · have : sp_ct q n = 0 := sp_sm_zero (fun i hi => by
      have := sp_b_max (q := q) hi
      show (if q i = 0 then 0 else 1) = 0
      rw [if_pos (by omega)])
    omega
  · omega
/-- more places without weight change nothing -/
theorem sp_g_more {n m : Nat} (hn : 0 < n) (hm : n ≤ m) : ∀ (l : Nat) (p q : Nat → Nat), l ≤ sp_ct q n → (∀ i, n ≤ i → i < m → q i ≤ 1) → ∀ i, sp_g m l p q i = sp_g n l p q i
  | 0, _, _, _, _, _ => rfl
  | l + 1, p, q, hl, hq, i => by
    simp only [sp_g]
    have hp := sp_ct_pos (q := q) (n := n) (by omega)
    have e : sp_b q m = sp_b q n := sp_b_tail hm (fun k a b => by have := hq k a b; omega)
    rw [e]
    refine sp_g_more hn hm l _ _ ?_ (fun k a b => ?_) i
    · have := sp_ct_up (q := q) (sp_b_lt (q := q) hn)
      omega
    · have := sp_b_lt (q := q) hn
      rw [va_up_ne _ _ (by omega)]
      exact hq k a b
/-- the parts of an amount -/
def sp_fl (n A : Nat) (w : Nat → Nat) (i : Nat) : Nat := A * w i / sp_sm w n
def sp_lf (n A : Nat) (w : Nat → Nat) : Nat := A - sp_sm (sp_fl n A w) n
def sp_mk (n A : Nat) (w : Nat → Nat) (i : Nat) : Nat := A * w i % sp_sm w n + 1
def sp_sh (n A : Nat) (w : Nat → Nat) : Nat → Nat := if sp_sm w n = 0 then fun _ => 0 else sp_g n (sp_lf n A w) (sp_fl n A w) (sp_mk n A w)
theorem sp_fl_le {n A : Nat} {w : Nat → Nat} (h : 0 < sp_sm w n) : sp_sm (sp_fl n A w) n ≤ A := by
  have h1 : sp_sm w n * sp_sm (sp_fl n A w) n ≤ sp_sm w n * A := by
    rw [← sp_sm_mul, Nat.mul_comm (sp_sm w n) A, ← sp_sm_mul]
    exact sp_sm_le (fun i _ => Nat.mul_div_le _ _)
  exact Nat.le_of_mul_le_mul_left h1 h
theorem sp_lf_rem {n A : Nat} {w : Nat → Nat} (h : 0 < sp_sm w n) : sp_sm w n * sp_lf n A w = sp_sm (fun i => A * w i % sp_sm w n) n := by
  have h0 := sp_fl_le (A := A) h
  have h1 : sp_sm w n * sp_sm (sp_fl n A w) n + sp_sm (fun i => A * w i % sp_sm w n) n = sp_sm w n * A := by
    rw [← sp_sm_mul, ← sp_sm_add, Nat.mul_comm (sp_sm w n) A, ← sp_sm_mul]
    exact sp_sm_congr (fun i _ => Nat.div_add_mod _ _)
  unfold sp_lf
  rw [Nat.mul_sub]
  omega
/-- fewer units are left than remainders stand -/
theorem sp_lf_ct {n A : Nat} {w : Nat → Nat} (h : 0 < sp_sm w n) : sp_lf n A w ≤ sp_sm (fun i => if A * w i % sp_sm w n = 0 then 0 else 1) n := by
  have h1 := sp_lf_rem (A := A) h
  have h2 : sp_sm (fun i => A * w i % sp_sm w n) n ≤ sp_sm w n * sp_sm (fun i => if A * w i % sp_sm w n = 0 then 0 else 1) n := by
    rw [← sp_sm_mul]
    refine sp_sm_le (fun i _ => ?_)
    split
    · omega
    · rw [Nat.mul_one]; exact Nat.le_of_lt (Nat.mod_lt _ h)
  rw [← h1] at h2
  exact Nat.le_of_mul_le_mul_left h2 h
theorem sp_sh_sum {n A : Nat} {w : Nat → Nat} (h : 0 < sp_sm w n) : sp_sm (sp_sh n A w) n = A := by
  have hn : 0 < n := by
    cases n with
    | zero => simp [sp_sm] at h
    | succ n => omega
  unfold sp_sh
  rw [if_neg (by omega), sp_g_sum hn]
  unfold sp_lf
  have := sp_fl_le (A := A) h
  omega
theorem sp_sh_le {n A : Nat} {w : Nat → Nat} {i : Nat} (hi : i < n) : sp_sh n A w i ≤ A := by
  by_cases h : sp_sm w n = 0
  · unfold sp_sh; rw [if_pos h]; omega
  · have := sp_sm_ge (f := sp_sh n A w) hi
    rw [sp_sh_sum (by omega)] at this
    exact this
theorem sp_sh_congr {n A : Nat} {w w' : Nat → Nat} (h : ∀ i, i < n → w i = w' i) {i : Nat} (hi : i < n) : sp_sh n A w i = sp_sh n A w' i := by
  have e := sp_sm_congr h
  unfold sp_sh
  by_cases hz : sp_sm w' n = 0
  · rw [if_pos hz, if_pos (by rw [e]; exact hz)]
  · rw [if_neg hz, if_neg (by rw [e]; exact hz)]
    have e1 : ∀ i, i < n → sp_fl n A w i = sp_fl n A w' i := fun i hi => by unfold sp_fl; rw [e, h i hi]
    have e2 : ∀ i, i < n → sp_mk n A w i = sp_mk n A w' i := fun i hi => by unfold sp_mk; rw [e, h i hi]
    have e3 : sp_lf n A w = sp_lf n A w' := by unfold sp_lf; rw [sp_sm_congr e1]
    rw [e3]
    exact sp_g_congr _ _ _ _ _ e1 e2 i hi
/-- five weights, or eight of which three are nothing -/
theorem sp_sh_more {n m A : Nat} {w : Nat → Nat} (hn : 0 < n) (hm : n ≤ m) (hw : ∀ i, n ≤ i → i < m → w i = 0) (i : Nat) : sp_sh m A w i = sp_sh n A w i := by
  have e := sp_sm_tail hw hm
  unfold sp_sh
  rw [e]
  by_cases hz : sp_sm w n = 0
  · rw [if_pos hz, if_pos hz]
  · rw [if_neg hz, if_neg hz]
    have e1 : sp_fl m A w = sp_fl n A w := by funext k; unfold sp_fl; rw [e]
    have e2 : sp_mk m A w = sp_mk n A w := by funext k; unfold sp_mk; rw [e]
    have e3 : sp_lf m A w = sp_lf n A w := by
      unfold sp_lf
      rw [e1, sp_sm_tail (f := sp_fl n A w) (fun k a b => by unfold sp_fl; rw [hw k a b]; simp) hm]
    rw [e1, e2, e3]
    refine sp_g_more hn hm _ _ _ ?_ (fun k a b => by unfold sp_mk; rw [hw k a b]; simp) i
    refine Nat.le_trans (sp_lf_ct (by omega)) ?_
    unfold sp_ct
    refine sp_sm_le (fun k _ => ?_)
    unfold sp_mk
    have h9 : ¬ (A * w k % sp_sm w n + 1 = 0) := by omega
    rw [if_neg h9]
    split <;> omega
