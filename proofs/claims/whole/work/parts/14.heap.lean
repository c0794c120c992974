/-! The heap of the abstract machine and the machine's: what holds of the tables, what a cell is, reads and writes. -/
def am_isN (w : Cond) : Bool := match w with
  | .methodLinkNest _ _ _ _ => true
  | .fieldLinkNest _ _ _ _ _ _ => true
  | _ => false
/-- the class of int[][] stands -/
def am_AO2 (U : State) : Prop := (Cond.arrayOver (.array .int)).before #[] U = true
theorem am_AO2.moved {U U' : State} (hal : U.vm.Alike U'.vm) (h : am_AO2 U) : am_AO2 U' := by
  simp only [am_AO2, Cond.before, Cond.holds, Cond.value] at h ⊢
  rw [hal.findClass]
  cases hf : U.vm.findClass (FieldType.array FieldType.int).toString with
  | none => rw [hf] at h; simp at h
  | some comp =>
    rw [hf] at h
    simp only [Option.bind_some] at h ⊢
    rw [hal.findIdx_congr _ (fun _ _ _ _ => rfl)]
    generalize hF : (U.vm.classes.findIdx? fun (x : Class) => match x.kind with | .array component _ => component == comp | _ => false) = fi at h ⊢
    cases fi with
    | none => simp at h
    | some c =>
      simp only [Option.bind_some] at h ⊢
      cases hk : U.vm.classes[c]? with
      | none => rw [hk] at h; simp at h
      | some k =>
        obtain ⟨k', hk', ek⟩ := hal.2.2 _ _ hk
        rw [hk] at h
        rw [hk', hal.findClass]
        have ekind : k'.kind = k.kind := by rw [ek]
        simp only [Option.map_some] at h ⊢
        rw [ekind]
        exact h
/-- what the tables say, at any state of the run -/
def am_K (D : va_G) (U : State) : Prop := (∀ w ∈ lw_tbl, goodWord w = true → ∀ a : Array Value, w.before a U = true) ∧ (∀ w ∈ lw_tbl, am_isN w = true → va_Nw w U) ∧ ((∀ ci, ci = 1 ∨ ci = 2 ∨ ci = 3 → va_AO (am_on ci) U) ∧ am_AO2 U) ∧ va_K D am_cl [] U ∧ (∀ w ∈ lw_tbl, am_isD w = true → ∀ a : Array Value, w.before a U = true)
theorem am_K.warm {D : va_G} {s U : State} (h : am_K D s) (hW : s.WarmedH U.vm) : am_K D U := by
  refine ⟨fun w hw hg a => word_at hW (good_of_word hg) (h.1 w hw hg #[]), fun w hw hn => ?_, ⟨fun ci hc => va_AO.moved hW.alike (h.2.2.1.1 ci hc), h.2.2.1.2.moved hW.alike⟩, va_K.moved hW.alike h.2.2.2.1, fun w hw hd a => ?_⟩
  · have h1 := h.2.1 w hw hn
    cases w <;> first | exact va_Nw.warmM hW h1 | exact va_Nw.warmF hW h1 | cases hn
  · have h1 := h.2.2.2.2 w hw hd a
    have h2 := Cond.faceAtom_setVm (vm' := U.vm) hW.alike w (by cases w <;> first | rfl | cases hd) h1
    cases w <;> first | exact h2 | cases hd
theorem am_K.same {D : va_G} {s U : State} (h : am_K D s) (hv : s.vm = U.vm) : am_K D U := by
  refine h.warm ?_
  rw [← hv]
  exact State.WarmedH.refl s
def am_aty (k : Nat) : FieldType := match k with
  | 100 => .int
  | 101 => .long
  | 102 => .boolean
  | 103 => .array .int
  | k => .object (am_on (k - 110))
/-- an array -/
def am_AR (s : State) (ad : Nat → Nat) (a k : Nat) (fs : List Value) (H : Heap) : Prop :=
  ∃ cell : Cell, H[a]? = some cell ∧ s.isArrayOf cell (am_aty k) ∧ cell.vm ≠ .unknown ∧ (110 ≤ k → cell.vm = .none ∧ va_RA s cell.cls (am_aty k)) ∧ fs.length ≤ cell.slots.size ∧ cell.slots.size.toInt32 = Int32.ofNat fs.length ∧ ∀ (j : Nat) (v : Value), fs[j]? = some v → cell.slots[j]? = some (am_tv ad v)
/-- a cell -/
def am_CR (D : va_G) (ad : Nat → Nat) (s : State) (H : Heap) (a : Nat) (c : am_C) : Prop :=
  (c.1 < 100 ∧ ∃ r : vw_C, am_cl[c.1]? = some r ∧ c.2.length = r.2.2 ∧ t_OB (ad a) (D.1 c.1) r.2.2 (D.2 c.1) H (vp_V (c.2.map (am_tv ad)))) ∨
  ((100 ≤ c.1 ∧ c.1 < 200) ∧ am_AR s ad (ad a) c.1 c.2 H) ∨
  (200 ≤ c.1 ∧ ∃ (cell : Cell) (n : String), H[ad a]? = some cell ∧ cell.vm = .none ∧ am_exN[c.1 - 200]? = some n ∧ s.vm.findClass n = some cell.cls)
theorem am_CR.lt {D : va_G} {ad : Nat → Nat} {s : State} {H : Heap} {a : Nat} {c : am_C} (h : am_CR D ad s H a c) : ad a < H.size := by
  rcases h with ⟨-, r, -, -, cell, h, -⟩ | ⟨-, cell, h, -⟩ | ⟨-, cell, n, h, -⟩
  · exact (Array.getElem?_eq_some_iff.mp h).1
  · exact (Array.getElem?_eq_some_iff.mp h).1
  · exact (Array.getElem?_eq_some_iff.mp h).1
theorem am_CR.kept {D : va_G} {ad : Nat → Nat} {s : State} {H H1 : Heap} {a : Nat} {c : am_C} (h : am_CR D ad s H a c) (hq : H1[ad a]? = H[ad a]?) : am_CR D ad s H1 a c := by
  rcases h with ⟨h0, r, h1, h2, h3⟩ | ⟨h0, cell, h1, h2⟩ | ⟨h0, cell, n, h1, h2⟩
  · exact Or.inl ⟨h0, r, h1, h2, h3.kept hq⟩
  · exact Or.inr (Or.inl ⟨h0, cell, hq.trans h1, h2⟩)
  · exact Or.inr (Or.inr ⟨h0, cell, n, hq.trans h1, h2⟩)
theorem am_CR.moved {D : va_G} {ad : Nat → Nat} {s U : State} {H : Heap} {a : Nat} {c : am_C} (hvm : s.vm.Alike U.vm) (h : am_CR D ad s H a c) : am_CR D ad U H a c := by
  rcases h with h | ⟨h0, cell, h1, h2, h3, h4, h5⟩ | ⟨h0, cell, n, h1, h2, h3, h4⟩
  · exact Or.inl h
  · exact Or.inr (Or.inl ⟨h0, cell, h1, State.isArrayOf_alike hvm h2, h3, fun z => ⟨(h4 z).1, (h4 z).2.moved hvm⟩, h5⟩)
  · exact Or.inr (Or.inr ⟨h0, cell, n, h1, h2, h3, by rw [hvm.findClass]; exact h4⟩)
/-- where the cells lie: the script, the static array, and all that was made since -/
def am_Ad (B : Nat) (ad : Nat → Nat) : Prop := ad 0 < B ∧ ad 1 < B ∧ ∀ k, ad (k + 2) = B + k
def am_HR (D : va_G) (B : Nat) (ad : Nat → Nat) (s : State) (hp : am_H) (H : Heap) : Prop :=
  am_Ad B ad ∧ 2 ≤ hp.length ∧ H.size + 2 = B + hp.length ∧ ∀ (a : Nat) (c : am_C), hp[a]? = some c → am_CR D ad s H a c
theorem am_Ad.ne {B : Nat} {ad : Nat → Nat} (h : am_Ad B ad) {a b : Nat} (ha : 2 ≤ a) (hab : a ≠ b) : ad b ≠ ad a := by
  obtain ⟨k, rfl⟩ : ∃ k, a = k + 2 := ⟨a - 2, by omega⟩
  rw [h.2.2 k]
  by_cases hb : 2 ≤ b
  · obtain ⟨q, rfl⟩ : ∃ q, b = q + 2 := ⟨b - 2, by omega⟩
    rw [h.2.2 q]
    omega
  · have h1 := h.1
    have h2 := h.2.1
    have : b = 0 ∨ b = 1 := by omega
    rcases this with rfl | rfl <;> omega
theorem am_Ad.ge {B : Nat} {ad : Nat → Nat} (h : am_Ad B ad) {a : Nat} (ha : 2 ≤ a) : B ≤ ad a := by
  obtain ⟨k, rfl⟩ : ∃ k, a = k + 2 := ⟨a - 2, by omega⟩
  rw [h.2.2 k]
  omega
theorem am_HR.moved {D : va_G} {B : Nat} {ad : Nat → Nat} {s U : State} {hp : am_H} {H : Heap} (hvm : s.vm.Alike U.vm) (h : am_HR D B ad s hp H) : am_HR D B ad U hp H := ⟨h.1, h.2.1, h.2.2.1, fun a c hc => (h.2.2.2 a c hc).moved hvm⟩
theorem am_HR.put {D : va_G} {B : Nat} {ad : Nat → Nat} {s : State} {hp : am_H} {H H1 : Heap} {a : Nat} {c' : am_C} (h : am_HR D B ad s hp H) (ha : 2 ≤ a) (hn : am_CR D ad s H1 a c') (ho : ∀ q, q ≠ ad a → H1[q]? = H[q]?) (hz : H1.size = H.size) : am_HR D B ad s (hp.set a c') H1 := by
  refine ⟨h.1, by rw [List.length_set]; exact h.2.1, by rw [List.length_set, hz]; exact h.2.2.1, fun b c hb => ?_⟩
  by_cases e : a = b
  · subst e
    rw [List.getElem?_set] at hb
    simp only [if_true] at hb
    split at hb
    · cases hb; exact hn
    · cases hb
  · rw [List.getElem?_set_ne e] at hb
    exact (h.2.2.2 b c hb).kept (ho _ (h.1.ne ha e))
theorem am_HR.top {D : va_G} {B : Nat} {ad : Nat → Nat} {s : State} {hp : am_H} {H : Heap} (h : am_HR D B ad s hp H) : ad hp.length = H.size := by
  obtain ⟨k, hk⟩ : ∃ k, hp.length = k + 2 := ⟨hp.length - 2, by have := h.2.1; omega⟩
  have := h.2.2.1
  rw [hk, h.1.2.2 k]
  omega
theorem am_HR.push {D : va_G} {B : Nat} {ad : Nat → Nat} {s : State} {hp : am_H} {H H1 : Heap} {c : am_C} (h : am_HR D B ad s hp H) (hn : am_CR D ad s H1 hp.length c) (ho : ∀ q, q < H.size → H1[q]? = H[q]?) (hz : H1.size = H.size + 1) : am_HR D B ad s (hp ++ [c]) H1 := by
  refine ⟨h.1, by simp; have := h.2.1; omega, by have := h.2.2.1; simp; omega, fun b d hb => ?_⟩
  by_cases e : b < hp.length
  · rw [List.getElem?_append_left e] at hb
    have h1 := h.2.2.2 b d hb
    exact h1.kept (ho _ h1.lt)
  · rw [List.getElem?_append_right (by omega)] at hb
    have : b - hp.length = 0 := by
      have := (List.getElem?_eq_some_iff.mp hb).1
      simp at this
      omega
    rw [this] at hb
    cases hb
    rw [show b = hp.length by omega]
    exact hn
