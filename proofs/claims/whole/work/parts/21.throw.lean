/-! 'new X(), thrown' is sound; statics that nobody writes. -/
def am_Sc (C n d : String) (B : Nat) (U : State) (H : Heap) : Prop := ∃ (c : ClassId) (k : Class) (i : Nat) (f : Field) (a : Nat) (cell : Cell) (v : Value), U.vm.findClass C = some c ∧ U.fieldFound? C n d = some (c, k, i, f) ∧ f.isStatic = true ∧ k.statics = some a ∧ H[a]? = some cell ∧ cell.vm.isStatics = true ∧ cell.cls = c ∧ f.slot < cell.slots.size ∧ k.staticTypes[f.slot]? = some f.type ∧ cell.slots[f.slot]? = some v ∧ v.isRef = true ∧ a < B
theorem am_Sc.moved {C n d : String} {B : Nat} {u U : State} {H : Heap} (hvm : u.vm.Alike U.vm) (h : am_Sc C n d B u H) : am_Sc C n d B U H := by
  obtain ⟨c, k, i, f, a, cell, v, h0, h1, h2, h3, h4, h5, h6, h7, h8, h9⟩ := h
  obtain ⟨k', hi', he⟩ := State.fieldFound?_setVm hvm h1
  exact ⟨c, k', i, f, a, cell, v, by rw [hvm.findClass]; exact h0, hi', h2, by rw [he]; exact h3, h4, h5, h6, h7, by rw [he]; exact h8, h9⟩
theorem am_Sc.kept {C n d : String} {B : Nat} {U : State} {H H1 : Heap} (h : am_Sc C n d B U H) (hq : ∀ q, q < H.size → ¬ B ≤ q → H1[q]? = H[q]?) : am_Sc C n d B U H1 := by
  obtain ⟨c, k, i, f, a, cell, v, h0, h1, h2, h3, h4, h5, h6, h7, h8, h9, h10, h11⟩ := h
  exact ⟨c, k, i, f, a, cell, v, h0, h1, h2, h3, (hq a (Array.getElem?_eq_some_iff.mp h4).1 (by omega)).trans h4, h5, h6, h7, h8, h9, h10, h11⟩
theorem am_Sc.lays {C n d : String} {B : Nat} {U : State} {args : Array Value} (h : am_Sc C n d B U U.heap) : (Cond.laysStatic C n d).before args U = true := by
  obtain ⟨c, k, i, f, a, cell, v, h0, h1, h2, h3, h4, h5, h6, h7, h8, h9, h10, h11⟩ := h
  simp [Cond.before, Cond.holds, Cond.value, h0, h1, h2, h3, h4, h5, h6, h7, h8]
theorem am_Sc.isR {C n d : String} {B : Nat} {U : State} {args : Array Value} (h : am_Sc C n d B U U.heap) : (Cond.isRef (.static C n d)).before args U = true := by
  obtain ⟨c, k, i, f, a, cell, v, h0, h1, h2, h3, h4, h5, h6, h7, h8, h9, h10, h11⟩ := h
  have he : (Term.static C n d).eval args U none [] U = some v := by
    simp [Term.eval, State.fieldNamed?, h1, h2, h3, h4, h5, h9]
  simp only [Cond.before, Cond.holds, Cond.value, he]
  cases v <;> first | rfl | cases h10
/-- the same run, begun where it stands now -/
theorem am_rebase {p : Program} {l : Launch} {e : Env} {R : Room} {s : State} {m : MethodId} {args : Array Value} {below : List Frame} {meth : Method} {c : Code} {T : State} {locs : List Loc} {cells slots : Nat} (X : Stand p l e R s m args below meth c T locs cells slots) (hc : cells ≤ R.cells) (hs : slots ≤ R.slots) :
    Stand p l e { R with cells := R.cells - cells, slots := R.slots - slots } ({ s with heap := T.heap, slotsUsed := T.slotsUsed } : State) m args below meth c T [] 0 0 ∧ s.sameButNew ({ s with heap := T.heap, slotsUsed := T.slotsUsed } : State) locs cells slots := by
  obtain ⟨t, ht, -⟩ := State.frames_cons X.frames
  have h1 := X.same
  refine ⟨⟨X.admits, X.cas, X.clock, X.frames, ?_, X.hears, X.method, X.code, X.here, X.tail, X.warmed, X.limits, X.bytes, ?_⟩, ?_⟩
  · have hr := X.room
    have hb := X.book
    have g1 := X.heapSize
    have g2 := X.used
    simp only [State.hasRoom, Bool.and_eq_true, decide_eq_true_eq] at hr ⊢
    obtain ⟨⟨⟨⟨r1, r2⟩, r3⟩, r4⟩, r5⟩ := hr
    refine ⟨⟨⟨⟨r1, r2⟩, ?_⟩, ?_⟩, hb⟩
    · show T.heap.size + (R.cells - cells) ≤ e.platform.maxCells
      omega
    · show T.slotsUsed + (R.slots - slots) ≤ e.platform.maxSlots
      omega
  · refine ⟨h1.1, Nat.le_refl _, Nat.le_refl _, ?_, ?_, fun a c2 hc2 => ⟨c2, hc2, rfl, rfl, fun _ _ => rfl⟩⟩
    · show T.slotsUsed = T.slotsUsed + ((T.heap.toList.drop T.heap.size).map (·.slots.size)).sum
      rw [List.drop_eq_nil_of_le (by simp)]
      rfl
    · show ((T.heap.toList.drop T.heap.size).map (·.slots.size)).sum ≤ 0
      rw [List.drop_eq_nil_of_le (by simp)]
      exact Nat.le_refl _
  · refine ⟨?_, h1.2⟩
    show ({ s with heap := T.heap, slotsUsed := T.slotsUsed } : State) = { s.setFrames s.frames with heap := T.heap, slotsUsed := T.slotsUsed }
    rw [State.setFrames_self ht]
def am_Oc (ad : Nat → Nat) (o : am_R) (oc : Outcome) : Prop := match o with
  | .inl v => oc = .returned (v.map (am_tv ad))
  | .inr x => oc = .threw (ad x.2)
def am_Qc (D : va_G) (B : Nat) (ad : Nat → Nat) (hp' : am_H) (o : am_R) (st : State) (oc : Outcome) (t : State) : Prop := am_Oc ad o oc ∧ am_HR D B ad t hp' t.heap ∧ va_F (fun q => B ≤ q) st t
theorem am_isS_inv {w : Cond} (h : am_isS w = true) : w = .isRef (.static Bundle.tN "UNASSIGNED_STACK" Bundle.steD) ∨ w = .isRef (.static Bundle.tN "SUPPRESSED_SENTINEL" Bundle.listD) ∨ w = .laysStatic Bundle.tN "UNASSIGNED_STACK" Bundle.steD ∨ w = .laysStatic Bundle.tN "SUPPRESSED_SENTINEL" Bundle.listD := by
  simp only [am_isS, Bool.or_eq_true, decide_eq_true_eq] at h
  rcases h with (h | h) | (h | h)
  · exact Or.inl h
  · exact Or.inr (Or.inl h)
  · exact Or.inr (Or.inr (Or.inl h))
  · exact Or.inr (Or.inr (Or.inr h))
theorem am_old {s t : State} {cells slots : Nat} (h : s.sameButNew t [] cells slots) {q : Nat} (hq : q < s.heap.size) : t.heap[q]? = s.heap[q]? := by
  have h1 : s.heap[q]? = some s.heap[q] := Array.getElem?_eq_getElem hq
  obtain ⟨c', g1, g2, g3, g4⟩ := h.2.2.2.2.2 q _ h1
  rw [g1, h1]
  have e : c'.slots = s.heap[q].slots := by
    apply Array.ext
    · exact g3
    · intro i h1 h2
      have := g4 i (by simp)
      rw [Array.getElem?_eq_getElem h1, Array.getElem?_eq_getElem h2] at this
      exact Option.some.inj this
  rw [g2, e]
section AMT
variable {p : Program} {l : Launch} {e : Env} {R : Room} {s : State} {m : MethodId} {args : Array Value} {below : List Frame} {meth : Method} {c : Code} {H : Heap} {locs : List Loc} {cells slots : Nat}
variable {D : va_G} {B : Nat} {ad : Nat → Nat} {hp : am_H} {w pc : Nat} {ls : Array Slot}
set_option maxHeartbeats 2000000 in
theorem am_W_thr {k ic ix : Nat} (hx : p.tables.exec = Jvm.exec) (hown : s.vm.findClass (am_on w) = some m.cls) (hK : am_K D s) (hZ1 : am_Sc Bundle.tN "UNASSIGNED_STACK" Bundle.steD B s s.heap) (hZ2 : am_Sc Bundle.tN "SUPPRESSED_SENTINEL" Bundle.listD B s s.heap) (hfl : l.flags = flags0) (hout : c.exceptionTable.toList = []) (hlocks : meth.locks = false)
    (hfr : 6 ≤ R.frames) (hlo : 100 ≤ R.locals) (hH : am_HR D B ad s hp H) (hS : va_S (fun q => B ≤ q) s.heap H locs) (hsize : ls.size = c.maxLocals) (hex : am_ex w ix = some (k, ic)) (d0 : decode c.code pc = .ok (.new ix, 3)) (d3 : decode c.code (pc + 3) = .ok (.dup, 1)) (d4 : decode c.code (pc + 4) = .ok (.invokespecial ic, 3)) (d7 : decode c.code (pc + 7) = .ok (.athrow, 1)) (hcells : cells + 1 ≤ R.cells) (hslots : slots + 6 ≤ R.slots) :
    W p l e R s m args below meth c H locs cells slots (am_MQ below (am_Qc D B ad (hp ++ [(200 + k, List.replicate 6 .null)]) (.inr (k, hp.length)) s) s (cells + 1) (slots + 6) (fun q => B ≤ q)) (F0 m pc ls []) := by
  intro T hT X
  obtain ⟨X', hsm⟩ := am_rebase X (by omega) (by omega)
  have htr : e.platform.stackTraces = false := Launch.traces_off hfl X.admits
  generalize hs' : ({ s with heap := T.heap, slotsUsed := T.slotsUsed } : State) = s' at X' hsm
  have hvm : s.vm = s'.vm := by rw [← hs']
  have hhp : s'.heap = H := by rw [← hs', ← hT]
  have hK' : am_K D s' := hK.same hvm
  have hal : s.vm.Alike s'.vm := by rw [hvm]; exact Vm.Alike.refl _
  have hown' : s'.vm.findClass (am_on w) = some m.cls := by rw [← hvm]; exact hown
  have hZ1' : am_Sc Bundle.tN "UNASSIGNED_STACK" Bundle.steD B s' s'.heap := by rw [hhp]; exact (hZ1.kept hS.2.1).moved hal
  have hZ2' : am_Sc Bundle.tN "SUPPRESSED_SENTINEL" Bundle.listD B s' s'.heap := by rw [hhp]; exact (hZ2.kept hS.2.1).moved hal
  obtain ⟨n, hn, hcl, hini, hfit, hat⟩ := am_ex_ok hex
  have h : ∀ a ∈ Bundle.ownAtoms0 (am_on w) ic n am_sup, a.before args s' = true := by
    intro a ha
    rcases hat a ha with hz | ⟨hz | hz, hm⟩
    · rcases am_isS_inv hz with rfl | rfl | rfl | rfl
      · exact hZ1'.isR
      · exact hZ2'.isR
      · exact hZ1'.lays
      · exact hZ2'.lays
    · exact hK'.1 a hm hz args
    · exact hK'.2.2.2.2 a hm hz args
  have hins : (Cond.instantiable n 6).before args s' = true := h _ (by simp [Bundle.ownAtoms0])
  obtain ⟨vm₁, cX, kX, hfX, hkX, -, -, X₁, st1⟩ := X'.newCold hx (own := am_on w) (C := n) (index := ix) (n := 6) hown' (hK'.1 _ hcl rfl args) hins (hK'.1 _ hini rfl args)
    (g := { method := m, pc := pc, locals := ls, stack := [], locked := none }) rfl d0 (by show 0 + 1 ≤ R.cells - cells; omega) (by show 0 + 6 ≤ R.slots - slots; omega)
  generalize hT2 : (T.setVm vm₁).pushCell { cls := cX, slots := kX.instanceTypes.map defaultValue, vm := .none } = T2 at X₁ st1
  have hcellA : T2.heap[T.heap.size]? = some (freshCell cX kX) := by rw [← hT2]; exact State.heap_pushCell_size _ _
  have hTs : T.heap.size = s'.heap.size := by rw [hhp, hT]
  obtain ⟨U, hsteps, hrun, hend, hW, hsame, ce, hce, hO⟩ := X₁.ctorThrow0 hx htr (own := am_on w) (cls := n) (names := am_sup) (ic := ic) hown' hfit (by decide +kernel) h (fun x hx => by cases hx)
    hfX hkX hcellA (by rw [hTs]; exact Nat.le_refl _) (g := { method := m, pc := pc + 4, locals := ls, stack := [.ref T.heap.size, .ref T.heap.size], locked := none }) rfl hsize rfl rfl (rest := []) rfl d4 d7 (by rw [hout]; exact fun x hx => by cases hx)
    (by show 2 + 3 < R.frames; omega) (by show 2 * 0 + 1 + (13 * 3 + 41) ≤ R.locals; omega) hlocks
  have hold : ∀ q, q < H.size → U.heap[q]? = H[q]? := fun q hq => by
    have := am_old hsame (q := q) (by rw [hhp]; exact hq)
    rw [hhp] at this
    exact this
  have hz1 : U.heap.size ≤ H.size + 1 := by have := hsame.2.2.1; rw [hhp] at this; exact this
  have hz2 : H.size < U.heap.size := by have := (Array.getElem?_eq_some_iff.mp hce).1; rw [hT] at this; exact this
  have halU : s.vm.Alike U.vm := by rw [hvm]; exact hW.alike
  refine ⟨U, ?_, .threw T.heap.size, hrun, hend, ⟨?_, ?_, ?_⟩, locs, ⟨?_, ?_⟩, hS.2.2⟩
  · refine st1 _ ?_
    show Steps p.tables e below (T2.setTop { method := m, pc := pc + 3, locals := ls, stack := [.ref T.heap.size], locked := none }) _
    jvm_step X₁.here [X₁.here.top, hx, d3, Value.category]
    exact hsteps
  · show Outcome.threw T.heap.size = Outcome.threw (ad hp.length)
    rw [hH.top, hT]
  · refine (hH.moved halU).push (Or.inr (Or.inr ⟨by show 200 ≤ 200 + k; omega, ce, n, by rw [hH.top, ← hT]; exact hce, hO.vm, by rw [show 200 + k - 200 = k by omega]; exact hn, ?_⟩)) hold (by omega)
    have := hO.cls
    rw [hW.alike.findClass]
    exact this
  · exact ⟨by have := hS.1; omega, fun q h1 h2 => (hold q (by have := hS.1; omega)).trans (hS.2.1 q h1 h2)⟩
  · rw [← hs'] at hW
    exact hW
  · have h2 := hsm.trans hsame
    rw [List.append_nil] at h2
    rw [← hvm] at h2
    exact h2
end AMT
