/-! The abstract machine: a heap as a list of cells (kind, slots), references as numbers of cells, locals by place. Kinds below 100: objects, by their class's place in am_cl; 100 int[], 101 long[], 102 boolean[], 103 int[][], 110 + k: arrays of the class k; 200 + k: an exception of the kind k. -/
abbrev am_C : Type := Nat × List Value
abbrev am_H : Type := List am_C
abbrev am_L : Type := List (Option Value)
abbrev am_R : Type := Option Value ⊕ (Nat × Nat)
/-- an int constant, a number where it can be -/
def am_ic (k : Int) : Int32 := match k with
  | .ofNat n => nI n
  | .negSucc n => Int32.ofInt (.negSucc n)
theorem am_ic_eq (k : Int) : Int32.ofInt k = am_ic k := by
  cases k with
  | ofNat n => exact Int32.ofInt_eq_ofNat
  | negSucc n => rfl
/-- the locals at a method's entry -/
def am_en (vs : List Value) (n : Nat) : am_L :=
  (vs.flatMap fun v => if v.category = 2 then [some v, none] else [some v]) ++ List.replicate (n - (vs.flatMap fun v => if v.category = 2 then [some v, none] else [some v]).length) none
/-- the slot before a place is forgotten if a value of two slots stands there -/
def am_cut (lo : am_L) (i : Nat) : am_L := match i with
  | 0 => lo
  | k + 1 => match lo[k]? with
    | some (some v) => if v.category = 2 then lo.set k none else lo
    | _ => lo
def am_s1 (lo : am_L) (i : Nat) (v : Value) : Option am_L := if i < lo.length then some ((am_cut lo i).set i (some v)) else none
def am_s2 (lo : am_L) (i : Nat) (v : Value) : Option am_L := if i + 1 < lo.length then some (((am_cut lo i).set i (some v)).set (i + 1) none) else none
/-- stack operators -/
def am_bi (f : Int32 → Int32 → Int32) (st : List Value) : Option (List Value) := match st with
  | .int y :: .int x :: r => some (.int (f x y) :: r)
  | _ => none
def am_di (f : Int32 → Int32 → Int32) (st : List Value) : Option (List Value) := match st with
  | .int y :: .int x :: r => if y = 0 then none else some (.int (f x y) :: r)
  | _ => none
def am_bl (f : Int64 → Int64 → Int64) (st : List Value) : Option (List Value) := match st with
  | .long y :: .long x :: r => some (.long (f x y) :: r)
  | _ => none
def am_dl (f : Int64 → Int64 → Int64) (st : List Value) : Option (List Value) := match st with
  | .long y :: .long x :: r => if y = 0 then none else some (.long (f x y) :: r)
  | _ => none
def am_ldi (lo : am_L) (k : Nat) (st : List Value) : Option (List Value) := match lo[k]? with
  | some (some (.int x)) => some (.int x :: st)
  | _ => none
def am_ldl (lo : am_L) (k : Nat) (st : List Value) : Option (List Value) := match lo[k]? with
  | some (some (.long x)) => some (.long x :: st)
  | _ => none
def am_lda (lo : am_L) (k : Nat) (st : List Value) : Option (List Value) := match lo[k]? with
  | some (some (.ref x)) => some (.ref x :: st)
  | _ => none
def am_sti (lo : am_L) (k : Nat) (st : List Value) : Option (am_L × List Value) := match st with
  | .int x :: r => (am_s1 lo k (.int x)).map fun l => (l, r)
  | _ => none
def am_sta (lo : am_L) (k : Nat) (st : List Value) : Option (am_L × List Value) := match st with
  | .ref x :: r => (am_s1 lo k (.ref x)).map fun l => (l, r)
  | _ => none
def am_stl (lo : am_L) (k : Nat) (st : List Value) : Option (am_L × List Value) := match st with
  | .long x :: r => (am_s2 lo k (.long x)).map fun l => (l, r)
  | _ => none
def am_inc (lo : am_L) (k : Nat) (n : Int) : Option am_L := match lo[k]? with
  | some (some (.int x)) => am_s1 lo k (.int (x + am_ic n))
  | _ => none
def am_to (pc : Nat) (off : Int) : Nat := ((pc : Int) + off).toNat
/-- does the jump's target stand? -/
def am_ok (pc : Nat) (off : Int) : Bool := decide (0 ≤ (pc : Int) + off)
def am_p (n : Nat) (lo : am_L) (o : Option (List Value)) : Option (Nat × am_L × List Value) := o.map fun st => (n, lo, st)
def am_q (n : Nat) (o : Option (am_L × List Value)) : Option (Nat × am_L × List Value) := o.map fun x => (n, x.1, x.2)
/-- one instruction that asks neither the heap nor a condition -/
def am_pl (w : Nat) (i : Instr) (pc : Nat) (lo : am_L) (st : List Value) : Option (Nat × am_L × List Value) := match i with
  | .iconst k => some (pc + 1, lo, .int (am_ic k) :: st)
  | .bipush k => if -128 ≤ k ∧ k ≤ 127 then some (pc + 2, lo, .int (am_ic k) :: st) else none
  | .sipush k => if -32768 ≤ k ∧ k ≤ 32767 then some (pc + 3, lo, .int (am_ic k) :: st) else none
  | .lconst k => some (pc + 1, lo, .long (lN k.val) :: st)
  | .ldc ix => (am_ldI w ix).map fun n => (pc + 2, lo, .int (nI n) :: st)
  | .ldc2_w ix => (am_ldL w ix).map fun v => (pc + 3, lo, .long v :: st)
  | .iload k => am_p (pc + 2) lo (am_ldi lo k st)
  | .iload_n k => am_p (pc + 1) lo (am_ldi lo k.val st)
  | .lload k => am_p (pc + 2) lo (am_ldl lo k st)
  | .lload_n k => am_p (pc + 1) lo (am_ldl lo k.val st)
  | .aload k => am_p (pc + 2) lo (am_lda lo k st)
  | .aload_n k => am_p (pc + 1) lo (am_lda lo k.val st)
  | .istore k => am_q (pc + 2) (am_sti lo k st)
  | .istore_n k => am_q (pc + 1) (am_sti lo k.val st)
  | .lstore k => am_q (pc + 2) (am_stl lo k st)
  | .lstore_n k => am_q (pc + 1) (am_stl lo k.val st)
  | .astore k => am_q (pc + 2) (am_sta lo k st)
  | .astore_n k => am_q (pc + 1) (am_sta lo k.val st)
  | .iinc k n => (am_inc lo k n).map fun l => (pc + 3, l, st)
  | .iadd => am_p (pc + 1) lo (am_bi (fun x y => x + y) st)
  | .isub => am_p (pc + 1) lo (am_bi (fun x y => x - y) st)
  | .imul => am_p (pc + 1) lo (am_bi (fun x y => x * y) st)
  | .iand => am_p (pc + 1) lo (am_bi (fun x y => x &&& y) st)
  | .ior => am_p (pc + 1) lo (am_bi (fun x y => x ||| y) st)
  | .ixor => am_p (pc + 1) lo (am_bi (fun x y => x ^^^ y) st)
  | .ishl => am_p (pc + 1) lo (am_bi (fun x y => x <<< (y &&& 31)) st)
  | .ishr => am_p (pc + 1) lo (am_bi (fun x y => x >>> (y &&& 31)) st)
  | .idiv => am_p (pc + 1) lo (am_di (fun x y => x / y) st)
  | .irem => am_p (pc + 1) lo (am_di (fun x y => x - x / y * y) st)
  | .ladd => am_p (pc + 1) lo (am_bl (fun x y => x + y) st)
  | .lsub => am_p (pc + 1) lo (am_bl (fun x y => x - y) st)
  | .lmul => am_p (pc + 1) lo (am_bl (fun x y => x * y) st)
  | .ldiv => am_p (pc + 1) lo (am_dl (fun x y => x / y) st)
  | .lrem => am_p (pc + 1) lo (am_dl (fun x y => x - x / y * y) st)
  | .lcmp => match st with
    | .long y :: .long x :: r => some (pc + 1, lo, .int (lg_cmp x y) :: r)
    | _ => none
  | .i2l => match st with
    | .int x :: r => some (pc + 1, lo, .long x.toInt64 :: r)
    | _ => none
  | .l2i => match st with
    | .long x :: r => some (pc + 1, lo, .int x.toInt32 :: r)
    | _ => none
  | .dup => match st with
    | v :: r => if v.category = 1 then some (pc + 1, lo, v :: v :: r) else none
    | _ => none
  | .pop => match st with
    | v :: r => if v.category = 1 then some (pc + 1, lo, r) else none
    | _ => none
  | .dup2 => match st with
    | v :: u :: r => if v.category = 1 ∧ u.category = 1 then some (pc + 1, lo, v :: u :: v :: u :: r) else none
    | _ => none
  | .goto off => if am_ok pc off then some (am_to pc off, lo, st) else none
  | _ => none
/-- the conditions of jumps -/
def am_c1 (c : ClassFile.Cond) (x : Int32) : Bool := match c with
  | .eq => decide (x = 0)
  | .ne => decide (x ≠ 0)
  | .lt => decide (x < 0)
  | .ge => decide (0 ≤ x)
  | .gt => decide (0 < x)
  | .le => decide (x ≤ 0)
def am_c2 (c : ClassFile.Cond) (x y : Int32) : Bool := match c with
  | .eq => decide (x = y)
  | .ne => decide (x ≠ y)
  | .lt => decide (x < y)
  | .ge => decide (y ≤ x)
  | .gt => decide (y < x)
  | .le => decide (x ≤ y)
def am_jp (i : Instr) (pc len : Nat) (lo : am_L) (st : List Value) : Option (Nat × am_L × List Value) := match i with
  | .ifCond c off => match st with
    | .int x :: r => if am_ok pc off then some (if am_c1 c x then am_to pc off else pc + 3, lo, r) else none
    | _ => none
  | .if_icmp c off => match st with
    | .int y :: .int x :: r => if am_ok pc off then some (if am_c2 c x y then am_to pc off else pc + 3, lo, r) else none
    | _ => none
  | .tableswitch dflt low high offs => match st with
    | .int x :: r =>
      if x.toInt < low ∨ high < x.toInt then (if am_ok pc dflt then some (am_to pc dflt, lo, r) else none)
      else match offs[(x.toInt - low).toNat]? with
        | some off => if am_ok pc off then some (am_to pc off, lo, r) else none
        | none => none
    | _ => none
  | _ => none
/-- arrays -/
def am_ald (kd : Nat → Bool) (pc : Nat) (lo : am_L) (st : List Value) (hp : am_H) : Option (Nat × am_L × List Value × am_H) := match st with
  | .int i :: .ref a :: r => match hp[a]? with
    | some c => if kd c.1 = true ∧ ¬ i < 0 then (c.2[i.toNatClampNeg]?).map fun v => (pc + 1, lo, v :: r, hp) else none
    | none => none
  | _ => none
def am_ast (kd : Nat → Value → Bool) (pc : Nat) (lo : am_L) (st : List Value) (hp : am_H) : Option (Nat × am_L × List Value × am_H) := match st with
  | v :: .int i :: .ref a :: r => match hp[a]? with
    | some c => if kd c.1 v = true ∧ ¬ i < 0 ∧ i.toNatClampNeg < c.2.length ∧ 2 ≤ a then some (pc + 1, lo, r, hp.set a (c.1, c.2.set i.toNatClampNeg v)) else none
    | none => none
  | _ => none
def am_isI (v : Value) : Bool := match v with
  | .int _ => true
  | _ => false
def am_isL (v : Value) : Bool := match v with
  | .long _ => true
  | _ => false
def am_isZ (v : Value) : Bool := match v with
  | .int x => decide (x = 0) || decide (x = 1)
  | _ => false
def am_isR (v : Value) : Bool := match v with
  | .ref _ => true
  | .null => true
  | _ => false
/-- is it an object of that class? -/
def am_isO (hp : am_H) (ci : Nat) (v : Value) : Bool := match v with
  | .ref b => match hp[b]? with
    | some c => decide (c.1 = ci)
    | none => false
  | _ => false
/-- does a field of that type take the value? -/
def am_fv (ty : FieldType) (v : Value) : Bool := match ty with
  | .int => am_isI v
  | .long => am_isL v
  | .boolean => am_isZ v
  | .object _ => am_isR v
  | .array _ => am_isR v
  | _ => false
def am_z (ty : ArrayType) : Option (Nat × Value) := match ty with
  | .int => some (100, .int (nI 0))
  | .long => some (101, .long (lN 0))
  | .boolean => some (102, .int (nI 0))
  | _ => none
/-- one instruction that asks the heap -/
def am_hs (j w : Nat) (i : Instr) (pc : Nat) (lo : am_L) (st : List Value) (hp : am_H) : Option (Nat × am_L × List Value × am_H) := match i with
  | .getfield ix => match am_fd w ix with
    | some (ci, k) => match st with
      | .ref a :: r => match hp[a]? with
        | some c => if c.1 = ci then (c.2[k]?).map fun v => (pc + 3, lo, v :: r, hp) else none
        | none => none
      | _ => none
    | none => none
  | .putfield ix => match am_fd w ix with
    | some (ci, k) => match st with
      | v :: .ref a :: r => match hp[a]? with
        | some c => if c.1 = ci ∧ k < c.2.length ∧ am_fv (am_ft ci k) v = true ∧ (am_fin ci k = false ∨ (am_ini j = true ∧ ci = w)) ∧ 2 ≤ a then some (pc + 3, lo, r, hp.set a (ci, c.2.set k v)) else none
        | none => none
      | _ => none
    | none => none
  | .iaload => am_ald (fun k => decide (k = 100)) pc lo st hp
  | .laload => am_ald (fun k => decide (k = 101)) pc lo st hp
  | .baload => am_ald (fun k => decide (k = 102)) pc lo st hp
  | .aaload => am_ald (fun k => decide (103 ≤ k) && decide (k < 200)) pc lo st hp
  | .iastore => am_ast (fun k v => decide (k = 100) && am_isI v) pc lo st hp
  | .lastore => am_ast (fun k v => decide (k = 101) && am_isL v) pc lo st hp
  | .bastore => am_ast (fun k v => decide (k = 102) && am_isZ v) pc lo st hp
  | .aastore => am_ast (fun k v => decide (110 ≤ k) && (decide (k < 200) && am_isO hp (k - 110) v)) pc lo st hp
  | .arraylength => match st with
    | .ref a :: r => match hp[a]? with
      | some c => if 100 ≤ c.1 ∧ c.1 < 200 then some (pc + 1, lo, .int (nI c.2.length) :: r, hp) else none
      | none => none
    | _ => none
  | .newarray t => match am_z t with
    | some (k, z) => match st with
      | .int n :: r => if ¬ n < 0 ∧ n.toNatClampNeg ≤ 65536 then some (pc + 2, lo, .ref hp.length :: r, hp ++ [(k, List.replicate n.toNatClampNeg z)]) else none
      | _ => none
    | none => none
  | .anewarray ix => match am_an w ix with
    | some ci => match st with
      | .int n :: r => if (ci = 1 ∨ ci = 2 ∨ ci = 3) ∧ ¬ n < 0 ∧ n.toNatClampNeg ≤ 65536 then some (pc + 3, lo, .ref hp.length :: r, hp ++ [(110 + ci, List.replicate n.toNatClampNeg .null)]) else none
      | _ => none
    | none => none
  | .multianewarray ix dim => if am_mn w ix = true ∧ dim = 2 then (match st with
      | .int n :: .int m :: r => if ¬ n < 0 ∧ ¬ m < 0 ∧ n.toNatClampNeg ≤ 1024 ∧ m.toNatClampNeg ≤ 1024 ∧ 0 < m.toNatClampNeg then
          some (pc + 4, lo, .ref hp.length :: r, hp ++ ((103, (List.range m.toNatClampNeg).map fun k => Value.ref (hp.length + 1 + k)) :: List.replicate m.toNatClampNeg (100, List.replicate n.toNatClampNeg (.int (nI 0))))) else none
      | _ => none) else none
  | .new ix => match am_nw w ix with
    | some ci => some (pc + 3, lo, .ref hp.length :: st, hp ++ [(ci, am_df ci)])
    | none => none
  | .getstatic ix => match am_gs w ix with
    | some a => some (pc + 3, lo, .ref a :: st, hp)
    | none => none
  | .invokespecial ix => if am_oi w ix = true then (match st with
      | .ref _ :: r => if (r.map fun v => v.category).sum ≤ 8 then some (pc + 3, lo, r, hp) else none
      | _ => none) else none
  | .invokestatic ix => if am_ac w ix = true then (match st with
      | .int n :: .int dp :: .ref b :: .int sp :: .ref a :: r => match hp[a]?, hp[b]? with
        | some f, some g =>
          if f.1 = 100 ∧ g.1 = 100 ∧ 2 ≤ b ∧ ¬ n < 0 ∧ sp = 0 ∧ dp = 0 ∧ n.toNatClampNeg = f.2.length ∧ g.2.length = f.2.length ∧ f.2.all am_isI = true ∧ (r.map fun v => v.category).sum ≤ 8 then
            some (pc + 3, lo, r, hp.set b (100, f.2)) else none
        | _, _ => none
      | _ => none) else none
  | _ => none
/-- what an instruction does that is no return, no call and no throw -/
def am_nx (j w : Nat) (i : Instr) (pc len : Nat) (lo : am_L) (st : List Value) (hp : am_H) : Option (Nat × am_L × List Value × am_H) :=
  match am_pl w i pc lo st with
  | some q => some (q.1, q.2.1, q.2.2, hp)
  | none => match am_jp i pc len lo st with
    | some q => some (q.1, q.2.1, q.2.2, hp)
    | none => am_hs j w i pc lo st hp
/-- the answer, if it is a return -/
def am_re (ret : Option FieldType) (i : Instr) (st : List Value) : Option (Option Value) := match i with
  | .ireturn => match st with
    | [.int x] => if ret = some .int ∨ (ret = some .boolean ∧ am_isZ (.int x) = true) then some (some (.int x)) else none
    | _ => none
  | .lreturn => match st with
    | [.long x] => if ret = some .long then some (some (.long x)) else none
    | _ => none
  | .areturn => match st with
    | [.ref x] => if ret = some (.array .int) then some (some (.ref x)) else none
    | _ => none
  | .return_ => match st with
    | [] => if ret = none then some none else none
    | _ => none
  | _ => none
/-- the method called -/
def am_tg (w : Nat) (i : Instr) : Option Nat := match i with
  | .invokevirtual ix => am_mt w ix
  | .invokestatic ix => am_mt w ix
  | .invokespecial ix => am_mt w ix
  | _ => none
/-- the exception made and thrown from here: new, dup, its constructor, athrow -/
def am_th (d j w : Nat) (i : Instr) (pc : Nat) (st : List Value) : Option Nat := match i with
  | .new ix => match am_ex w ix with
    | some (k, ic) => if 4 ≤ d ∧ st = [] ∧ am_hd j = [] ∧ decode (am_by j) (pc + 3) = .ok (.dup, 1) ∧ decode (am_by j) (pc + 4) = .ok (.invokespecial ic, 3) ∧ decode (am_by j) (pc + 7) = .ok (.athrow, 1) then some k else none
    | none => none
  | _ => none
def am_rc (i : Instr) (j2 : Nat) (vs : List Value) (hp : am_H) : Bool := match i with
  | .invokevirtual _ => match vs with
    | v :: _ => (!am_st j2 && !am_ini j2) && am_isO hp (am_w j2) v
    | [] => false
  | .invokespecial _ => match vs with
    | .ref _ :: _ => am_ini j2
    | _ => false
  | .invokestatic _ => am_st j2
  | _ => false
def am_fi (l : List (Nat × Nat × Nat × Nat)) (pc k : Nat) : Option Nat := match l with
  | [] => none
  | q :: t => if q.1 ≤ pc ∧ pc < q.2.1 ∧ q.2.2.2 = k then some q.2.2.1 else am_fi t pc k
abbrev am_Fn : Type := Nat → Nat → Nat → am_L → List Value → am_H → Option (am_H × am_R)
def am_cal (f : am_Fn) (d j j2 : Nat) (i : Instr) (pc : Nat) (lo : am_L) (st : List Value) (hp : am_H) : Option (am_H × am_R) := match d with
  | 0 => none
  | d2 + 1 =>
    if am_na j2 ≤ st.length ∧ ((st.drop (am_na j2)).map fun v => v.category).sum ≤ 8 ∧ am_rc i j2 (st.take (am_na j2)).reverse hp = true ∧ (am_en (st.take (am_na j2)).reverse (am_mx j2)).length = am_mx j2 then
      match f d2 j2 0 (am_en (st.take (am_na j2)).reverse (am_mx j2)) [] hp with
      | some (hp1, .inl v) => f (d2 + 1) j (pc + 3) lo (v.toList ++ st.drop (am_na j2)) hp1
      | some (hp1, .inr x) => (match am_fi (am_hd j) pc x.1 with
        | some h => f (d2 + 1) j h lo [.ref x.2] hp1
        | none => if am_hd j = [] then some (hp1, .inr x) else none)
      | none => none
    else none
/-- has the instruction the length that its row asks? -/
def am_lk (i : Instr) (len : Nat) : Bool := match i with
  | .tableswitch _ _ _ _ => true
  | .bipush _ | .iload _ | .lload _ | .aload _ | .istore _ | .lstore _ | .astore _ | .ldc _ | .newarray _ => decide (len = 2)
  | .sipush _ | .ldc2_w _ | .iinc _ _ | .goto _ | .ifCond _ _ | .if_icmp _ _ | .getfield _ | .putfield _ | .getstatic _ | .new _ | .anewarray _ | .invokevirtual _ | .invokestatic _ | .invokespecial _ => decide (len = 3)
  | .multianewarray _ _ => decide (len = 4)
  | _ => decide (len = 1)
/-- one step, the rest of the run given -/
def am_G (f : am_Fn) (d j : Nat) (i : Instr) (len pc : Nat) (lo : am_L) (st : List Value) (hp : am_H) : Option (am_H × am_R) :=
  match am_re (am_rt j) i st with
  | some v => some (hp, .inl v)
  | none => match am_tg (am_w j) i with
    | some j2 => am_cal f d j j2 i pc lo st hp
    | none => match am_th d j (am_w j) i pc st with
      | some k => some (hp ++ [(200 + k, List.replicate 6 .null)], .inr (k, hp.length))
      | none => match am_nx j (am_w j) i pc len lo st hp with
        | some q => f d j q.1 q.2.1 q.2.2.1 q.2.2.2
        | none => none
def am_F (f : am_Fn) : am_Fn := fun d j pc lo st hp =>
  match decode (am_by j) pc with
  | .error _ => none
  | .ok q => if am_lk q.1 q.2 = true then am_G f d j q.1 q.2 pc lo st hp else none
def am_run : Nat → am_Fn
  | 0 => fun _ _ _ _ _ _ => none
  | n + 1 => am_F (am_run n)
