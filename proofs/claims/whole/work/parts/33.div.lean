/-! Divisions; a value by another name. -/
section DV
variable {d j pc : Nat} {lo : am_L} {st : List Value} {hp : am_H} {Q : am_H → am_R → Prop}
theorem am_Rq.ldiv {x y : Int64} (hd : decode (am_by j) pc = .ok (.ldiv, 1)) (h : ¬ y = 0) (kk : am_Rq d j (pc + 1) lo (.long (x / y) :: st) hp Q) : am_Rq d j pc lo (.long y :: .long x :: st) hp Q :=
  am_Rq.nx hd rfl rfl rfl rfl (q := (pc + 1, lo, .long (x / y) :: st, hp)) (by simp only [am_nx, am_pl, am_p, am_dl, if_neg h]; rfl) kk
theorem am_Rq.lrem {x y : Int64} (hd : decode (am_by j) pc = .ok (.lrem, 1)) (h : ¬ y = 0) (kk : am_Rq d j (pc + 1) lo (.long (x - x / y * y) :: st) hp Q) : am_Rq d j pc lo (.long y :: .long x :: st) hp Q :=
  am_Rq.nx hd rfl rfl rfl rfl (q := (pc + 1, lo, .long (x - x / y * y) :: st, hp)) (by simp only [am_nx, am_pl, am_p, am_dl, if_neg h]; rfl) kk
theorem am_Rq.idiv {x y : Int32} (hd : decode (am_by j) pc = .ok (.idiv, 1)) (h : ¬ y = 0) (kk : am_Rq d j (pc + 1) lo (.int (x / y) :: st) hp Q) : am_Rq d j pc lo (.int y :: .int x :: st) hp Q :=
  am_Rq.nx hd rfl rfl rfl rfl (q := (pc + 1, lo, .int (x / y) :: st, hp)) (by simp only [am_nx, am_pl, am_p, am_di, if_neg h]; rfl) kk
theorem am_Rq.irem {x y : Int32} (hd : decode (am_by j) pc = .ok (.irem, 1)) (h : ¬ y = 0) (kk : am_Rq d j (pc + 1) lo (.int (x - x / y * y) :: st) hp Q) : am_Rq d j pc lo (.int y :: .int x :: st) hp Q :=
  am_Rq.nx hd rfl rfl rfl rfl (q := (pc + 1, lo, .int (x - x / y * y) :: st, hp)) (by simp only [am_nx, am_pl, am_p, am_di, if_neg h]; rfl) kk
/-- of natural numbers -/
theorem am_Rq.ldivN {a b : Nat} (hd : decode (am_by j) pc = .ok (.ldiv, 1)) (h : 0 < b) (ha : a < 2 ^ 63) (hb : b < 2 ^ 63) (kk : am_Rq d j (pc + 1) lo (.long (lN (a / b)) :: st) hp Q) : am_Rq d j pc lo (.long (lN b) :: .long (lN a) :: st) hp Q := am_Rq.ldiv hd (nm_l0 h hb) (by rw [nm_ldiv ha hb]; exact kk)
theorem am_Rq.lremN {a b : Nat} (hd : decode (am_by j) pc = .ok (.lrem, 1)) (h : 0 < b) (ha : a < 2 ^ 63) (hb : b < 2 ^ 63) (kk : am_Rq d j (pc + 1) lo (.long (lN (a % b)) :: st) hp Q) : am_Rq d j pc lo (.long (lN b) :: .long (lN a) :: st) hp Q := am_Rq.lrem hd (nm_l0 h hb) (by rw [nm_lmod ha hb]; exact kk)
theorem am_Rq.idivN {a b : Nat} (hd : decode (am_by j) pc = .ok (.idiv, 1)) (h : 0 < b) (ha : a < 2 ^ 31) (hb : b < 2 ^ 31) (kk : am_Rq d j (pc + 1) lo (.int (nI (a / b)) :: st) hp Q) : am_Rq d j pc lo (.int (nI b) :: .int (nI a) :: st) hp Q := am_Rq.idiv hd (nm_i0 h hb) (by rw [nm_idiv ha hb]; exact kk)
theorem am_Rq.iremN {a b : Nat} (hd : decode (am_by j) pc = .ok (.irem, 1)) (h : 0 < b) (ha : a < 2 ^ 31) (hb : b < 2 ^ 31) (kk : am_Rq d j (pc + 1) lo (.int (nI (a % b)) :: st) hp Q) : am_Rq d j pc lo (.int (nI b) :: .int (nI a) :: st) hp Q := am_Rq.irem hd (nm_i0 h hb) (by rw [nm_imod ha hb]; exact kk)
end DV
